def τ0 : CS := (fun o f => if o < 3 then (if f = 9 then 11 else if f = 17 then 1 else 0) else if o = 9 then (if f = 0 then 1 else 0) else 0, fun _ _ _ => 0, fun o f => if o < 3 then (if f = 12 then 1 else 0) else if o = 7 then (if f = 0 then 2 else 0) else 0)
theorem pick_perm {α : Type} (cs : List α) (d : α) {l1 l2 : List Nat} (h : l1.Perm l2) (Y : List α) : (l1.map (fun i => cs.getD i d) ++ Y).Perm (l2.map (fun i => cs.getD i d) ++ Y) := (h.map _).append_right Y
set_option maxRecDepth 100000 in
set_option maxHeartbeats 8000000 in
theorem i_X11 {g : GP} {l : Launch} {Y : va_W} {a : Nat} : CVx g l yX11_init cX11_init 4 { frames := 5, cells := 60, slots := 1000, locals := 100 } [.ref a] ((a, .inr (11, [.null, .null, .null, .null, .null, .null, .null, .null, .null, .int 0])) :: Y) (fun w => ∃ A : Nat → Nat → Nat, A 5 99 = a ∧ w.Perm (wC g A τ0 Y)) := by
  refine CVx.mk (by decide) (Nat.le_of_ble_eq_true rfl) (fun G hI hret => ?_)
  have hG := hI.toG
  refine g_aload_n hG dX11_init_0 rfl ?_
  refine g_obj hG dX11_init_1 ol_X11_3 oi_1 oi_2 (Nat.le_of_ble_eq_true rfl) (Nat.le_of_ble_eq_true rfl) ?_
  refine g_bipushv hG dX11_init_4 kb_7 ?_
  refine g_newq (N := 7) hG dX11_init_6 cl_X11_9 (by decide) (by decide) (by decide) (Nat.le_of_ble_eq_true rfl) (Nat.le_of_ble_eq_true rfl) (fun q1 => ?_)
  refine g_perm hG (List.perm_append_singleton _ _) ?_
  refine g_dup hG dX11_init_9 rfl ?_
  refine g_iconstv hG dX11_init_10 ki_0 ?_
  refine g_new (ci := 10) (fs := []) hG dX11_init_11 rfl inX10 tyX10_ok cl_X11_9 nw_X10 ni_X10 (fun j hj => by omega) (Nat.le_of_ble_eq_true rfl) (Nat.le_of_ble_eq_true rfl) (fun q2 => ?_)
  refine g_perm hG (List.perm_append_singleton _ _) ?_
  refine g_dup hG dX11_init_14 rfl ?_
  refine g_callIN hG dX11_init_15 (i_X10) b_X10_init il_X11_11 rfl ⟨(Nat.le_of_ble_eq_true rfl), (Nat.le_of_ble_eq_true rfl)⟩ ⟨(Nat.le_of_ble_eq_true rfl), (Nat.le_of_ble_eq_true rfl)⟩ _ rfl (Nat.le_of_ble_eq_true rfl) (fun w hw => ?_)
  subst hw
  refine g_astq (k0 := 1) (k1 := 0) hG dX11_init_18 rfl rfl rfl (inb_in (by decide)) ?_
  refine g_dup hG dX11_init_19 rfl ?_
  refine g_iconstv hG dX11_init_20 ki_1 ?_
  refine g_new (ci := 8) (fs := []) hG dX11_init_21 rfl inX8 tyX8_ok cl_X11_12 nw_X8 ni_X8 (fun j hj => by omega) (Nat.le_of_ble_eq_true rfl) (Nat.le_of_ble_eq_true rfl) (fun q3 => ?_)
  refine g_perm hG (List.perm_append_singleton _ _) ?_
  refine g_dup hG dX11_init_24 rfl ?_
  refine g_callIN hG dX11_init_25 (i_X8) b_X8_init il_X11_14 rfl ⟨(Nat.le_of_ble_eq_true rfl), (Nat.le_of_ble_eq_true rfl)⟩ ⟨(Nat.le_of_ble_eq_true rfl), (Nat.le_of_ble_eq_true rfl)⟩ _ rfl (Nat.le_of_ble_eq_true rfl) (fun w hw => ?_)
  subst hw
  refine i_astq (k0 := 2) (k1 := 0) hI dX11_init_28 rfl rfl rfl (by decide) (inb_in (by decide)) ?_
  refine g_dup hG dX11_init_29 rfl ?_
  refine g_iconstv hG dX11_init_30 ki_2 ?_
  refine g_new (ci := 1) (fs := []) hG dX11_init_31 rfl inX1 tyX1_ok cl_X11_15 nw_X1 ni_X1 (fun j hj => by omega) (Nat.le_of_ble_eq_true rfl) (Nat.le_of_ble_eq_true rfl) (fun q4 => ?_)
  refine g_perm hG (List.perm_append_singleton _ _) ?_
  refine g_dup hG dX11_init_34 rfl ?_
  refine g_callIN hG dX11_init_35 (i_X1) b_X1_init il_X11_17 rfl ⟨(Nat.le_of_ble_eq_true rfl), (Nat.le_of_ble_eq_true rfl)⟩ ⟨(Nat.le_of_ble_eq_true rfl), (Nat.le_of_ble_eq_true rfl)⟩ _ rfl (Nat.le_of_ble_eq_true rfl) (fun w hw => ?_)
  subst hw
  refine i_astq (k0 := 3) (k1 := 0) hI dX11_init_38 rfl rfl rfl (by decide) (inb_in (by decide)) ?_
  refine g_dup hG dX11_init_39 rfl ?_
  refine g_iconstv hG dX11_init_40 ki_3 ?_
  refine g_new (ci := 9) (fs := []) hG dX11_init_41 rfl inX9 tyX9_ok cl_X11_18 nw_X9 ni_X9 (fun j hj => by omega) (Nat.le_of_ble_eq_true rfl) (Nat.le_of_ble_eq_true rfl) (fun q5 => ?_)
  refine g_perm hG (List.perm_append_singleton _ _) ?_
  refine g_dup hG dX11_init_44 rfl ?_
  refine g_callIN hG dX11_init_45 (i_X9) b_X9_init il_X11_20 rfl ⟨(Nat.le_of_ble_eq_true rfl), (Nat.le_of_ble_eq_true rfl)⟩ ⟨(Nat.le_of_ble_eq_true rfl), (Nat.le_of_ble_eq_true rfl)⟩ _ rfl (Nat.le_of_ble_eq_true rfl) (fun w hw => ?_)
  subst hw
  refine i_astq (k0 := 4) (k1 := 0) hI dX11_init_48 rfl rfl rfl (by decide) (inb_in (by decide)) ?_
  refine g_dup hG dX11_init_49 rfl ?_
  refine g_iconstv hG dX11_init_50 ki_4 ?_
  refine g_new (ci := 2) (fs := []) hG dX11_init_51 rfl inX2 tyX2_ok cl_X11_21 nw_X2 ni_X2 (fun j hj => by omega) (Nat.le_of_ble_eq_true rfl) (Nat.le_of_ble_eq_true rfl) (fun q6 => ?_)
  refine g_perm hG (List.perm_append_singleton _ _) ?_
  refine g_dup hG dX11_init_54 rfl ?_
  refine g_callIN hG dX11_init_55 (i_X2) b_X2_init il_X11_23 rfl ⟨(Nat.le_of_ble_eq_true rfl), (Nat.le_of_ble_eq_true rfl)⟩ ⟨(Nat.le_of_ble_eq_true rfl), (Nat.le_of_ble_eq_true rfl)⟩ _ rfl (Nat.le_of_ble_eq_true rfl) (fun w hw => ?_)
  subst hw
  refine i_astq (k0 := 5) (k1 := 0) hI dX11_init_58 rfl rfl rfl (by decide) (inb_in (by decide)) ?_
  refine g_dup hG dX11_init_59 rfl ?_
  refine g_iconstv hG dX11_init_60 ki_5 ?_
  refine g_new (ci := 3) (fs := []) hG dX11_init_61 rfl inX3 tyX3_ok cl_X11_24 nw_X3 ni_X3 (fun j hj => by omega) (Nat.le_of_ble_eq_true rfl) (Nat.le_of_ble_eq_true rfl) (fun q7 => ?_)
  refine g_perm hG (List.perm_append_singleton _ _) ?_
  refine g_dup hG dX11_init_64 rfl ?_
  refine g_callIN hG dX11_init_65 (i_X3) b_X3_init il_X11_26 rfl ⟨(Nat.le_of_ble_eq_true rfl), (Nat.le_of_ble_eq_true rfl)⟩ ⟨(Nat.le_of_ble_eq_true rfl), (Nat.le_of_ble_eq_true rfl)⟩ _ rfl (Nat.le_of_ble_eq_true rfl) (fun w hw => ?_)
  subst hw
  refine i_astq (k0 := 6) (k1 := 0) hI dX11_init_68 rfl rfl rfl (by decide) (inb_in (by decide)) ?_
  refine g_dup hG dX11_init_69 rfl ?_
  refine g_bipushv hG dX11_init_70 kb_6 ?_
  refine g_new (ci := 0) (fs := []) hG dX11_init_72 rfl inX0 tyX0_ok cl_X11_27 nw_X0 ni_X0 (fun j hj => by omega) (Nat.le_of_ble_eq_true rfl) (Nat.le_of_ble_eq_true rfl) (fun q8 => ?_)
  refine g_perm hG (List.perm_append_singleton _ _) ?_
  refine g_dup hG dX11_init_75 rfl ?_
  refine g_callIN hG dX11_init_76 (i_X0) b_X0_init il_X11_29 rfl ⟨(Nat.le_of_ble_eq_true rfl), (Nat.le_of_ble_eq_true rfl)⟩ ⟨(Nat.le_of_ble_eq_true rfl), (Nat.le_of_ble_eq_true rfl)⟩ _ rfl (Nat.le_of_ble_eq_true rfl) (fun w hw => ?_)
  subst hw
  refine i_astq (k0 := 7) (k1 := 0) hI dX11_init_79 rfl rfl rfl (by decide) (inb_in (by decide)) ?_
  refine g_astore_n hG dX11_init_80 (by decide) ?_
  refine g_new (ci := 4) (fs := [.int 0, .null, .null]) hG dX11_init_81 rfl inX4 tyX4_ok cl_X11_30 nw_X4 ni_X4 (fun j hj => by rcases (show j = 0 ∨ j = 1 ∨ j = 2 by omega) with rfl | rfl | rfl <;> rfl) (Nat.le_of_ble_eq_true rfl) (Nat.le_of_ble_eq_true rfl) (fun q9 => ?_)
  refine g_perm hG (List.perm_append_singleton _ _) ?_
  refine g_dup hG dX11_init_84 rfl ?_
  refine g_iconstv hG dX11_init_85 ki_0 ?_
  refine g_iconstv hG dX11_init_86 ki_0 ?_
  refine g_newa (N := 0) hG dX11_init_87 aw_int (by decide) (by decide) (by decide) (Nat.le_of_ble_eq_true rfl) (Nat.le_of_ble_eq_true rfl) (fun q10 => ?_)
  refine g_perm hG (List.perm_append_singleton _ _) ?_
  refine g_callI hG dX11_init_89 (c_L_init (k := 1) (k2 := 0) (u := 0) rfl rfl (by decide)) b_X4_init il_X11_32 rfl ⟨(Nat.le_of_ble_eq_true rfl), (Nat.le_of_ble_eq_true rfl)⟩ ⟨(Nat.le_of_ble_eq_true rfl), (Nat.le_of_ble_eq_true rfl)⟩ _ rfl (Nat.le_of_ble_eq_true rfl) (fun w hw => ?_)
  obtain ⟨q11, rfl⟩ := hw
  refine g_perm hG (List.perm_append_singleton _ _) ?_
  refine g_astore_n hG dX11_init_92 (by decide) ?_
  refine g_new (ci := 4) (fs := [.int 0, .null, .null]) hG dX11_init_93 rfl inX4 tyX4_ok cl_X11_30 nw_X4 ni_X4 (fun j hj => by rcases (show j = 0 ∨ j = 1 ∨ j = 2 by omega) with rfl | rfl | rfl <;> rfl) (Nat.le_of_ble_eq_true rfl) (Nat.le_of_ble_eq_true rfl) (fun q12 => ?_)
  refine g_perm hG (List.perm_append_singleton _ _) ?_
  refine g_dup hG dX11_init_96 rfl ?_
  refine g_iconstv hG dX11_init_97 ki_1 ?_
  refine g_iconstv hG dX11_init_98 ki_0 ?_
  refine g_newa (N := 0) hG dX11_init_99 aw_int (by decide) (by decide) (by decide) (Nat.le_of_ble_eq_true rfl) (Nat.le_of_ble_eq_true rfl) (fun q13 => ?_)
  refine g_perm hG (List.perm_append_singleton _ _) ?_
  refine g_callI hG dX11_init_101 (c_L_init (k := 1) (k2 := 0) (u := 1) rfl rfl (by decide)) b_X4_init il_X11_32 rfl ⟨(Nat.le_of_ble_eq_true rfl), (Nat.le_of_ble_eq_true rfl)⟩ ⟨(Nat.le_of_ble_eq_true rfl), (Nat.le_of_ble_eq_true rfl)⟩ _ rfl (Nat.le_of_ble_eq_true rfl) (fun w hw => ?_)
  obtain ⟨q14, rfl⟩ := hw
  refine g_perm hG (List.perm_append_singleton _ _) ?_
  refine g_astore_n hG dX11_init_104 (by decide) ?_
  refine g_aload_n hG dX11_init_105 rfl ?_
  refine g_new (ci := 7) (fs := [.null, .null, .null, .null, .null, .int 0, .int 0, .int 0, .int 0, .int 0, .int 0, .null, .null, .null, .int 0, .null, .int 0, .int 0]) hG dX11_init_106 rfl inX7 tyX7_ok cl_X11_35 nw_X7 ni_X7 (fun j hj => by rcases (show j = 0 ∨ j = 1 ∨ j = 2 ∨ j = 3 ∨ j = 4 ∨ j = 5 ∨ j = 6 ∨ j = 7 ∨ j = 8 ∨ j = 9 ∨ j = 10 ∨ j = 11 ∨ j = 12 ∨ j = 13 ∨ j = 14 ∨ j = 15 ∨ j = 16 ∨ j = 17 by omega) with rfl | rfl | rfl | rfl | rfl | rfl | rfl | rfl | rfl | rfl | rfl | rfl | rfl | rfl | rfl | rfl | rfl | rfl <;> rfl) (Nat.le_of_ble_eq_true rfl) (Nat.le_of_ble_eq_true rfl) (fun q15 => ?_)
  refine g_perm hG (List.perm_append_singleton _ _) ?_
  refine g_dup hG dX11_init_109 rfl ?_
  refine g_aload_n hG dX11_init_110 rfl ?_
  refine g_aload_n hG dX11_init_111 rfl ?_
  refine g_aload_n hG dX11_init_112 rfl ?_
  refine g_callI hG dX11_init_113 (i_X7) b_X7_init il_X11_37 rfl ⟨(Nat.le_of_ble_eq_true rfl), (Nat.le_of_ble_eq_true rfl)⟩ ⟨(Nat.le_of_ble_eq_true rfl), (Nat.le_of_ble_eq_true rfl)⟩ _ rfl (Nat.le_of_ble_eq_true rfl) (fun w hw => ?_)
  obtain ⟨q16, q17, q18, q19, q20, q21, hw⟩ := hw
  refine g_perm hG hw ?_
  refine g_putF (f := 0) (k := 21) hG dX11_init_116 rfl rfl inX11 tyX11_ok nmX11 (by decide) rfl rfl f_X11_40 rfl rfl rfl rfl (Nat.le_of_ble_eq_true rfl) ?_
  refine g_aload_n hG dX11_init_119 rfl ?_
  refine g_new (ci := 7) (fs := [.null, .null, .null, .null, .null, .int 0, .int 0, .int 0, .int 0, .int 0, .int 0, .null, .null, .null, .int 0, .null, .int 0, .int 0]) hG dX11_init_120 rfl inX7 tyX7_ok cl_X11_35 nw_X7 ni_X7 (fun j hj => by rcases (show j = 0 ∨ j = 1 ∨ j = 2 ∨ j = 3 ∨ j = 4 ∨ j = 5 ∨ j = 6 ∨ j = 7 ∨ j = 8 ∨ j = 9 ∨ j = 10 ∨ j = 11 ∨ j = 12 ∨ j = 13 ∨ j = 14 ∨ j = 15 ∨ j = 16 ∨ j = 17 by omega) with rfl | rfl | rfl | rfl | rfl | rfl | rfl | rfl | rfl | rfl | rfl | rfl | rfl | rfl | rfl | rfl | rfl | rfl <;> rfl) (Nat.le_of_ble_eq_true rfl) (Nat.le_of_ble_eq_true rfl) (fun q22 => ?_)
  refine g_perm hG (List.perm_append_singleton _ _) ?_
  refine g_dup hG dX11_init_123 rfl ?_
  refine g_aload_n hG dX11_init_124 rfl ?_
  refine g_aload_n hG dX11_init_125 rfl ?_
  refine g_aload_n hG dX11_init_126 rfl ?_
  refine g_callI hG dX11_init_127 (i_X7) b_X7_init il_X11_37 rfl ⟨(Nat.le_of_ble_eq_true rfl), (Nat.le_of_ble_eq_true rfl)⟩ ⟨(Nat.le_of_ble_eq_true rfl), (Nat.le_of_ble_eq_true rfl)⟩ _ rfl (Nat.le_of_ble_eq_true rfl) (fun w hw => ?_)
  obtain ⟨q23, q24, q25, q26, q27, q28, hw⟩ := hw
  refine g_perm hG hw ?_
  refine g_putF (f := 1) (k := 28) hG dX11_init_130 rfl rfl inX11 tyX11_ok nmX11 (by decide) rfl rfl f_X11_44 rfl rfl rfl rfl (Nat.le_of_ble_eq_true rfl) ?_
  refine g_aload_n hG dX11_init_133 rfl ?_
  refine g_new (ci := 7) (fs := [.null, .null, .null, .null, .null, .int 0, .int 0, .int 0, .int 0, .int 0, .int 0, .null, .null, .null, .int 0, .null, .int 0, .int 0]) hG dX11_init_134 rfl inX7 tyX7_ok cl_X11_35 nw_X7 ni_X7 (fun j hj => by rcases (show j = 0 ∨ j = 1 ∨ j = 2 ∨ j = 3 ∨ j = 4 ∨ j = 5 ∨ j = 6 ∨ j = 7 ∨ j = 8 ∨ j = 9 ∨ j = 10 ∨ j = 11 ∨ j = 12 ∨ j = 13 ∨ j = 14 ∨ j = 15 ∨ j = 16 ∨ j = 17 by omega) with rfl | rfl | rfl | rfl | rfl | rfl | rfl | rfl | rfl | rfl | rfl | rfl | rfl | rfl | rfl | rfl | rfl | rfl <;> rfl) (Nat.le_of_ble_eq_true rfl) (Nat.le_of_ble_eq_true rfl) (fun q29 => ?_)
  refine g_perm hG (List.perm_append_singleton _ _) ?_
  refine g_dup hG dX11_init_137 rfl ?_
  refine g_aload_n hG dX11_init_138 rfl ?_
  refine g_aload_n hG dX11_init_139 rfl ?_
  refine g_aload_n hG dX11_init_140 rfl ?_
  refine g_callI hG dX11_init_141 (i_X7) b_X7_init il_X11_37 rfl ⟨(Nat.le_of_ble_eq_true rfl), (Nat.le_of_ble_eq_true rfl)⟩ ⟨(Nat.le_of_ble_eq_true rfl), (Nat.le_of_ble_eq_true rfl)⟩ _ rfl (Nat.le_of_ble_eq_true rfl) (fun w hw => ?_)
  obtain ⟨q30, q31, q32, q33, q34, q35, hw⟩ := hw
  refine g_perm hG hw ?_
  refine g_putF (f := 2) (k := 35) hG dX11_init_144 rfl rfl inX11 tyX11_ok nmX11 (by decide) rfl rfl f_X11_47 rfl rfl rfl rfl (Nat.le_of_ble_eq_true rfl) ?_
  refine g_aload_n hG dX11_init_147 rfl ?_
  refine g_new (ci := 5) (fs := [.null, .null, .int 0, .int 0, .int 0, .int 0]) hG dX11_init_148 rfl inX5 tyX5_ok cl_X11_50 nw_X5 ni_X5 (fun j hj => by rcases (show j = 0 ∨ j = 1 ∨ j = 2 ∨ j = 3 ∨ j = 4 ∨ j = 5 by omega) with rfl | rfl | rfl | rfl | rfl | rfl <;> rfl) (Nat.le_of_ble_eq_true rfl) (Nat.le_of_ble_eq_true rfl) (fun q36 => ?_)
  refine g_perm hG (List.perm_append_singleton _ _) ?_
  refine g_dup hG dX11_init_151 rfl ?_
  refine g_callIN hG dX11_init_152 (i_X5) b_X5_init il_X11_52 rfl ⟨(Nat.le_of_ble_eq_true rfl), (Nat.le_of_ble_eq_true rfl)⟩ ⟨(Nat.le_of_ble_eq_true rfl), (Nat.le_of_ble_eq_true rfl)⟩ _ rfl (Nat.le_of_ble_eq_true rfl) (fun w hw => ?_)
  obtain ⟨q37, q38, hw⟩ := hw
  refine g_perm hG hw ?_
  refine g_putF (f := 3) (k := 38) hG dX11_init_155 rfl rfl inX11 tyX11_ok nmX11 (by decide) rfl rfl f_X11_53 rfl rfl rfl rfl (Nat.le_of_ble_eq_true rfl) ?_
  refine g_aload_n hG dX11_init_158 rfl ?_
  refine g_new (ci := 6) (fs := [.null, .int 0, .int 0, .int 0]) hG dX11_init_159 rfl inX6 tyX6_ok cl_X11_57 nw_X6 ni_X6 (fun j hj => by rcases (show j = 0 ∨ j = 1 ∨ j = 2 ∨ j = 3 by omega) with rfl | rfl | rfl | rfl <;> rfl) (Nat.le_of_ble_eq_true rfl) (Nat.le_of_ble_eq_true rfl) (fun q39 => ?_)
  refine g_perm hG (List.perm_append_singleton _ _) ?_
  refine g_dup hG dX11_init_162 rfl ?_
  refine g_callIN hG dX11_init_163 (i_X6) b_X6_init il_X11_59 rfl ⟨(Nat.le_of_ble_eq_true rfl), (Nat.le_of_ble_eq_true rfl)⟩ ⟨(Nat.le_of_ble_eq_true rfl), (Nat.le_of_ble_eq_true rfl)⟩ _ rfl (Nat.le_of_ble_eq_true rfl) (fun w hw => ?_)
  obtain ⟨q40, hw⟩ := hw
  refine g_perm hG hw ?_
  refine g_putF (f := 4) (k := 40) hG dX11_init_166 rfl rfl inX11 tyX11_ok nmX11 (by decide) rfl rfl f_X11_60 rfl rfl rfl rfl (Nat.le_of_ble_eq_true rfl) ?_
  refine g_aload_n hG dX11_init_169 rfl ?_
  refine g_iconstv hG dX11_init_170 ki_4 ?_
  refine g_bipushv hG dX11_init_171 kb_40 ?_
  refine i_mna hI dX11_init_173 cl_X11_64 (Nat.le_of_ble_eq_true rfl) (Nat.le_of_ble_eq_true rfl) (fun q41 r41 => ?_)
  refine g_putF (f := 5) (k := 45) hG dX11_init_177 rfl rfl inX11 tyX11_ok nmX11 (by decide) rfl rfl f_X11_66 rfl rfl rfl rfl (Nat.le_of_ble_eq_true rfl) ?_
  refine g_aload_n hG dX11_init_180 rfl ?_
  refine g_iconstv hG dX11_init_181 ki_4 ?_
  refine g_newa (N := 4) hG dX11_init_182 aw_int (by decide) (by decide) (by decide) (Nat.le_of_ble_eq_true rfl) (Nat.le_of_ble_eq_true rfl) (fun q42 => ?_)
  refine g_perm hG (List.perm_append_singleton _ _) ?_
  refine g_putF (f := 6) (k := 46) hG dX11_init_184 rfl rfl inX11 tyX11_ok nmX11 (by decide) rfl rfl f_X11_69 rfl rfl rfl rfl (Nat.le_of_ble_eq_true rfl) ?_
  refine g_aload_n hG dX11_init_187 rfl ?_
  refine g_iconstv hG dX11_init_188 ki_4 ?_
  refine g_newa (N := 4) hG dX11_init_189 aw_int (by decide) (by decide) (by decide) (Nat.le_of_ble_eq_true rfl) (Nat.le_of_ble_eq_true rfl) (fun q43 => ?_)
  refine g_perm hG (List.perm_append_singleton _ _) ?_
  refine g_putF (f := 7) (k := 47) hG dX11_init_191 rfl rfl inX11 tyX11_ok nmX11 (by decide) rfl rfl f_X11_73 rfl rfl rfl rfl (Nat.le_of_ble_eq_true rfl) ?_
  refine g_aload_n hG dX11_init_194 rfl ?_
  refine g_bipushv hG dX11_init_195 kb_6 ?_
  refine g_newa (N := 6) hG dX11_init_197 aw_int (by decide) (by decide) (by decide) (Nat.le_of_ble_eq_true rfl) (Nat.le_of_ble_eq_true rfl) (fun q44 => ?_)
  refine g_perm hG (List.perm_append_singleton _ _) ?_
  refine g_putF (f := 8) (k := 48) hG dX11_init_199 rfl rfl inX11 tyX11_ok nmX11 (by decide) rfl rfl f_X11_76 rfl rfl rfl rfl (Nat.le_of_ble_eq_true rfl) ?_
  refine g_widen hG (k := 60) (n := 1000) (Nat.le_of_ble_eq_true rfl) (Nat.le_of_ble_eq_true rfl) ?_
  refine hret _ _ 202 dX11_init_202 ⟨(fun o f => if o = 0 then (if f = 1 then q16 else if f = 2 then q17 else if f = 3 then q18 else if f = 4 then q19 else if f = 13 then q20 else if f = 15 then q21 else if f = 99 then q15 else 0) else if o = 1 then (if f = 1 then q23 else if f = 2 then q24 else if f = 3 then q25 else if f = 4 then q26 else if f = 13 then q27 else if f = 15 then q28 else if f = 99 then q22 else 0) else if o = 2 then (if f = 1 then q30 else if f = 2 then q31 else if f = 3 then q32 else if f = 4 then q33 else if f = 13 then q34 else if f = 15 then q35 else if f = 99 then q29 else 0) else if o = 3 then (if f = 0 then q37 else if f = 1 then q38 else if f = 99 then q36 else 0) else if o = 4 then (if f = 0 then q40 else if f = 99 then q39 else 0) else if o = 5 then (if f = 5 then q41 else if f = 6 then q42 else if f = 7 then q43 else if f = 8 then q44 else if f = 99 then a else 0) else if o = 6 then (r41 f) else if o = 7 then (if f = 7 then q1 else if f = 10 then q2 else if f = 11 then q3 else if f = 12 then q4 else if f = 13 then q5 else if f = 14 then q6 else if f = 15 then q7 else if f = 16 then q8 else 0) else if o = 8 then (if f = 1 then q10 else if f = 2 then q11 else if f = 99 then q9 else 0) else if o = 9 then (if f = 1 then q13 else if f = 2 then q14 else if f = 99 then q12 else 0) else 0 : Nat → Nat → Nat), rfl, ?_⟩
  have hk : ((va_up (va_up (va_up (va_up (va_up (va_up (va_up (fun _ => none) 0 (some q2)) 1 (some q3)) 2 (some q4)) 3 (some q5)) 4 (some q6)) 5 (some q7)) 6 (some q8)) : Nat → Option Nat) = (fun k => if k < 7 then some ((fun o f => if o = 0 then (if f = 1 then q16 else if f = 2 then q17 else if f = 3 then q18 else if f = 4 then q19 else if f = 13 then q20 else if f = 15 then q21 else if f = 99 then q15 else 0) else if o = 1 then (if f = 1 then q23 else if f = 2 then q24 else if f = 3 then q25 else if f = 4 then q26 else if f = 13 then q27 else if f = 15 then q28 else if f = 99 then q22 else 0) else if o = 2 then (if f = 1 then q30 else if f = 2 then q31 else if f = 3 then q32 else if f = 4 then q33 else if f = 13 then q34 else if f = 15 then q35 else if f = 99 then q29 else 0) else if o = 3 then (if f = 0 then q37 else if f = 1 then q38 else if f = 99 then q36 else 0) else if o = 4 then (if f = 0 then q40 else if f = 99 then q39 else 0) else if o = 5 then (if f = 5 then q41 else if f = 6 then q42 else if f = 7 then q43 else if f = 8 then q44 else if f = 99 then a else 0) else if o = 6 then (r41 f) else if o = 7 then (if f = 7 then q1 else if f = 10 then q2 else if f = 11 then q3 else if f = 12 then q4 else if f = 13 then q5 else if f = 14 then q6 else if f = 15 then q7 else if f = 16 then q8 else 0) else if o = 8 then (if f = 1 then q10 else if f = 2 then q11 else if f = 99 then q9 else 0) else if o = 9 then (if f = 1 then q13 else if f = 2 then q14 else if f = 99 then q12 else 0) else 0 : Nat → Nat → Nat) 7 (k + 10)) else none) := by
    funext k
    by_cases h7 : k < 7
    · rw [if_pos h7]
      rcases (show k = 0 ∨ k = 1 ∨ k = 2 ∨ k = 3 ∨ k = 4 ∨ k = 5 ∨ k = 6 by omega) with rfl | rfl | rfl | rfl | rfl | rfl | rfl <;> rfl
    · rw [if_neg h7]
      have n0 : ¬ k = 0 := by omega
      have n1 : ¬ k = 1 := by omega
      have n2 : ¬ k = 2 := by omega
      have n3 : ¬ k = 3 := by omega
      have n4 : ¬ k = 4 := by omega
      have n5 : ¬ k = 5 := by omega
      have n6 : ¬ k = 6 := by omega
      simp [va_up, n0, n1, n2, n3, n4, n5, n6]
  show List.Perm ((q44, .inl (g.2.1 0, 6, .inl (fun _ => 0))) :: (q43, .inl (g.2.1 0, 4, .inl (fun _ => 0))) :: (q42, .inl (g.2.1 0, 4, .inl (fun _ => 0))) :: (q41, .inl (g.2.1 2, 4, .inr (.inr (.inr (.inr (fun i => if i < 4 then some (r41 i) else none)))))) :: ((r41 0), .inl (g.2.1 0, 40, .inl (fun _ => 0))) :: ((r41 1), .inl (g.2.1 0, 40, .inl (fun _ => 0))) :: ((r41 2), .inl (g.2.1 0, 40, .inl (fun _ => 0))) :: ((r41 3), .inl (g.2.1 0, 40, .inl (fun _ => 0))) :: (q39, .inr (6, [.ref q40, .int 0, .int 0, .int 0])) :: (q40, .inl (g.2.1 0, 40, .inl (fun _ => 0))) :: (q36, .inr (5, [.ref q37, .ref q38, .int 0, .int 0, .int 0, .int 0])) :: (q37, .inl (g.2.1 0, 50, .inl (fun _ => 0))) :: (q38, .inl (g.2.1 0, 50, .inl (fun _ => 0))) :: (q29, .inr (7, [.ref q1, .ref q30, .ref q31, .ref q32, .ref q33, .int 0, .int 0, .int 0, .int 0, .int 11, .int 0, .ref q9, .ref q12, .ref q34, .int 0, .ref q35, .int 0, .int 1])) :: (q30, .inl (g.2.1 0, 12, .inl (fun _ => 0))) :: (q31, .inl (g.2.1 0, 12, .inl (fun _ => 0))) :: (q32, .inl (g.2.1 0, 12, .inl (fun _ => 0))) :: (q33, .inl (g.2.1 0, 12, .inl (fun _ => 0))) :: (q34, .inl (g.2.1 0, 50, .inl (fun _ => 0))) :: (q35, .inl (g.2.1 0, 20, .inl (fun _ => 0))) :: (q22, .inr (7, [.ref q1, .ref q23, .ref q24, .ref q25, .ref q26, .int 0, .int 0, .int 0, .int 0, .int 11, .int 0, .ref q9, .ref q12, .ref q27, .int 0, .ref q28, .int 0, .int 1])) :: (q23, .inl (g.2.1 0, 12, .inl (fun _ => 0))) :: (q24, .inl (g.2.1 0, 12, .inl (fun _ => 0))) :: (q25, .inl (g.2.1 0, 12, .inl (fun _ => 0))) :: (q26, .inl (g.2.1 0, 12, .inl (fun _ => 0))) :: (q27, .inl (g.2.1 0, 50, .inl (fun _ => 0))) :: (q28, .inl (g.2.1 0, 20, .inl (fun _ => 0))) :: (q15, .inr (7, [.ref q1, .ref q16, .ref q17, .ref q18, .ref q19, .int 0, .int 0, .int 0, .int 0, .int 11, .int 0, .ref q9, .ref q12, .ref q20, .int 0, .ref q21, .int 0, .int 1])) :: (q16, .inl (g.2.1 0, 12, .inl (fun _ => 0))) :: (q17, .inl (g.2.1 0, 12, .inl (fun _ => 0))) :: (q18, .inl (g.2.1 0, 12, .inl (fun _ => 0))) :: (q19, .inl (g.2.1 0, 12, .inl (fun _ => 0))) :: (q20, .inl (g.2.1 0, 50, .inl (fun _ => 0))) :: (q21, .inl (g.2.1 0, 20, .inl (fun _ => 0))) :: (q14, .inl (g.2.1 0, 0, .inl (fun _ => 0))) :: (q13, .inl (g.2.1 0, 0, .inl (fun _ => 0))) :: (q12, .inr (4, [.int 1, .ref q13, .ref q14])) :: (q11, .inl (g.2.1 0, 0, .inl (fun _ => 0))) :: (q10, .inl (g.2.1 0, 0, .inl (fun _ => 0))) :: (q9, .inr (4, [.int 0, .ref q10, .ref q11])) :: (q8, .inr (0, [])) :: (q7, .inr (3, [])) :: (q6, .inr (2, [])) :: (q5, .inr (9, [])) :: (q4, .inr (1, [])) :: (q3, .inr (8, [])) :: (q2, .inr (10, [])) :: (q1, .inl (g.2.1 1, 7, .inr (.inr (.inr (.inr (va_up (va_up (va_up (va_up (va_up (va_up (va_up (fun _ => none) 0 (some q2)) 1 (some q3)) 2 (some q4)) 3 (some q5)) 4 (some q6)) 5 (some q7)) 6 (some q8))))))) :: (a, .inr (11, [.ref q15, .ref q22, .ref q29, .ref q36, .ref q39, .ref q41, .ref q42, .ref q43, .ref q44, .int 0])) :: Y : va_W) _
  rw [hk]
  have hp := pick_perm ([(a, .inr (11, [.ref q15, .ref q22, .ref q29, .ref q36, .ref q39, .ref q41, .ref q42, .ref q43, .ref q44, .int 0])), (q15, .inr (7, [.ref q1, .ref q16, .ref q17, .ref q18, .ref q19, .int 0, .int 0, .int 0, .int 0, .int 11, .int 0, .ref q9, .ref q12, .ref q20, .int 0, .ref q21, .int 0, .int 1])), (q16, .inl (g.2.1 0, 12, .inl (fun _ => 0))), (q17, .inl (g.2.1 0, 12, .inl (fun _ => 0))), (q18, .inl (g.2.1 0, 12, .inl (fun _ => 0))), (q19, .inl (g.2.1 0, 12, .inl (fun _ => 0))), (q20, .inl (g.2.1 0, 50, .inl (fun _ => 0))), (q21, .inl (g.2.1 0, 20, .inl (fun _ => 0))), (q22, .inr (7, [.ref q1, .ref q23, .ref q24, .ref q25, .ref q26, .int 0, .int 0, .int 0, .int 0, .int 11, .int 0, .ref q9, .ref q12, .ref q27, .int 0, .ref q28, .int 0, .int 1])), (q23, .inl (g.2.1 0, 12, .inl (fun _ => 0))), (q24, .inl (g.2.1 0, 12, .inl (fun _ => 0))), (q25, .inl (g.2.1 0, 12, .inl (fun _ => 0))), (q26, .inl (g.2.1 0, 12, .inl (fun _ => 0))), (q27, .inl (g.2.1 0, 50, .inl (fun _ => 0))), (q28, .inl (g.2.1 0, 20, .inl (fun _ => 0))), (q29, .inr (7, [.ref q1, .ref q30, .ref q31, .ref q32, .ref q33, .int 0, .int 0, .int 0, .int 0, .int 11, .int 0, .ref q9, .ref q12, .ref q34, .int 0, .ref q35, .int 0, .int 1])), (q30, .inl (g.2.1 0, 12, .inl (fun _ => 0))), (q31, .inl (g.2.1 0, 12, .inl (fun _ => 0))), (q32, .inl (g.2.1 0, 12, .inl (fun _ => 0))), (q33, .inl (g.2.1 0, 12, .inl (fun _ => 0))), (q34, .inl (g.2.1 0, 50, .inl (fun _ => 0))), (q35, .inl (g.2.1 0, 20, .inl (fun _ => 0))), (q36, .inr (5, [.ref q37, .ref q38, .int 0, .int 0, .int 0, .int 0])), (q37, .inl (g.2.1 0, 50, .inl (fun _ => 0))), (q38, .inl (g.2.1 0, 50, .inl (fun _ => 0))), (q39, .inr (6, [.ref q40, .int 0, .int 0, .int 0])), (q40, .inl (g.2.1 0, 40, .inl (fun _ => 0))), (q1, .inl (g.2.1 1, 7, .inr (.inr (.inr (.inr (fun k => if k < 7 then some ((fun o f => if o = 0 then (if f = 1 then q16 else if f = 2 then q17 else if f = 3 then q18 else if f = 4 then q19 else if f = 13 then q20 else if f = 15 then q21 else if f = 99 then q15 else 0) else if o = 1 then (if f = 1 then q23 else if f = 2 then q24 else if f = 3 then q25 else if f = 4 then q26 else if f = 13 then q27 else if f = 15 then q28 else if f = 99 then q22 else 0) else if o = 2 then (if f = 1 then q30 else if f = 2 then q31 else if f = 3 then q32 else if f = 4 then q33 else if f = 13 then q34 else if f = 15 then q35 else if f = 99 then q29 else 0) else if o = 3 then (if f = 0 then q37 else if f = 1 then q38 else if f = 99 then q36 else 0) else if o = 4 then (if f = 0 then q40 else if f = 99 then q39 else 0) else if o = 5 then (if f = 5 then q41 else if f = 6 then q42 else if f = 7 then q43 else if f = 8 then q44 else if f = 99 then a else 0) else if o = 6 then (r41 f) else if o = 7 then (if f = 7 then q1 else if f = 10 then q2 else if f = 11 then q3 else if f = 12 then q4 else if f = 13 then q5 else if f = 14 then q6 else if f = 15 then q7 else if f = 16 then q8 else 0) else if o = 8 then (if f = 1 then q10 else if f = 2 then q11 else if f = 99 then q9 else 0) else if o = 9 then (if f = 1 then q13 else if f = 2 then q14 else if f = 99 then q12 else 0) else 0 : Nat → Nat → Nat) 7 (k + 10)) else none)))))), (q2, .inr (10, [])), (q3, .inr (8, [])), (q4, .inr (1, [])), (q5, .inr (9, [])), (q6, .inr (2, [])), (q7, .inr (3, [])), (q8, .inr (0, [])), (q41, .inl (g.2.1 2, 4, .inr (.inr (.inr (.inr (fun i => if i < 4 then some (r41 i) else none)))))), ((r41 0), .inl (g.2.1 0, 40, .inl (fun _ => 0))), ((r41 1), .inl (g.2.1 0, 40, .inl (fun _ => 0))), ((r41 2), .inl (g.2.1 0, 40, .inl (fun _ => 0))), ((r41 3), .inl (g.2.1 0, 40, .inl (fun _ => 0))), (q42, .inl (g.2.1 0, 4, .inl (fun _ => 0))), (q43, .inl (g.2.1 0, 4, .inl (fun _ => 0))), (q44, .inl (g.2.1 0, 6, .inl (fun _ => 0))), (q9, .inr (4, [.int 0, .ref q10, .ref q11])), (q10, .inl (g.2.1 0, 0, .inl (fun _ => 0))), (q11, .inl (g.2.1 0, 0, .inl (fun _ => 0))), (q12, .inr (4, [.int 1, .ref q13, .ref q14])), (q13, .inl (g.2.1 0, 0, .inl (fun _ => 0))), (q14, .inl (g.2.1 0, 0, .inl (fun _ => 0)))] : va_W) (0, .inr (0, [])) (l1 := [42, 41, 40, 35, 36, 37, 38, 39, 25, 26, 22, 23, 24, 15, 16, 17, 18, 19, 20, 21, 8, 9, 10, 11, 12, 13, 14, 1, 2, 3, 4, 5, 6, 7, 48, 47, 46, 45, 44, 43, 34, 33, 32, 31, 30, 29, 28, 27, 0]) (l2 := [0, 1, 2, 3, 4, 5, 6, 7, 8, 9, 10, 11, 12, 13, 14, 15, 16, 17, 18, 19, 20, 21, 22, 23, 24, 25, 26, 27, 28, 29, 30, 31, 32, 33, 34, 35, 36, 37, 38, 39, 40, 41, 42, 43, 44, 45, 46, 47, 48]) (by decide) Y
  exact hp
