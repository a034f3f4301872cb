set_option maxRecDepth 100000 in
set_option maxHeartbeats 4000000 in
/-- the law's loop, from a state in the relation -/
theorem law_loop {g : GP} {l : Launch} {b Ln : Nat} {xs : Nat → Int32} {nm : String} {G : GT} {r : Nat → Nat} {Inv : Nat → CS → RS → Prop} (hmono : ∀ k τ σ, Inv k τ σ → Inv (k + 1) τ σ) (hL : IsL g l b Ln xs nm G) (hLn : Ln ≤ 3072)
    (h0 : ∀ a0 : Int32, ∀ a1 : Int32, ∀ a2 : Int32, Agree Inv (N_T_yard a0 a1 a2) (M_yard a0 a1 a2))
    (h1 : ∀ a0 : Int32, ∀ a1 : Int32, Agree Inv (N_T_ofYard a0 a1) (M_ofYard a0 a1))
    (h2 : ∀ a0 : Int32, ∀ a1 : Int32, ∀ a2 : Int32, Agree Inv (N_T_change a0 a1 a2) (M_change a0 a1 a2))
    (h3 : ∀ a0 : Int32, ∀ a1 : Int32, Agree Inv (N_T_set a0 a1) (M_set a0 a1))
    (h4 : ∀ a0 : Int32, ∀ a1 : Int32, Agree Inv (N_T_become a0 a1) (M_become a0 a1))
    (h5 : ∀ a0 : Int32, ∀ a1 : Int32, Agree Inv (N_T_as a0 a1) (M_as a0 a1))
    (h6 : ∀ a0 : Int32, ∀ a1 : Int32, Agree Inv (N_T_sign a0 a1) (M_sign a0 a1))
    (h7 : ∀ a0 : Int64, ∀ a1 : Int32, Agree Inv (N_T_feed a0 a1) (M_feed a0 a1))
    (h8 : ∀ a0 : Int32, Agree Inv (N_T_text a0) (M_text a0))
    (h9 : ∀ a0 : Int32, ∀ a1 : Int32, ∀ a2 : Int32, ∀ a3 : Int32, Agree Inv (N_T_law a0 a1 a2 a3) (M_law a0 a1 a2 a3))
    (h10 : ∀ a0 : Int32, Agree Inv (N_T_days a0) (M_days a0))
    (h11 : ∀ a0 : Int32, Agree Inv (N_T_loose a0) (M_loose a0))
    (h12 : ∀ a0 : Int32, ∀ a1 : Int32, Agree Inv (N_T_then a0 a1) (M_then a0 a1))
    (h13 : ∀ a0 : Int32, ∀ a1 : Int32, Agree Inv (N_T_worst a0 a1) (M_worst a0 a1))
    (h14 : Agree Inv (N_T_stay ) (M_stay ))
    (h15 : ∀ a0 : Int32, Agree Inv (N_T_side a0) (M_side a0))
    (h16 : ∀ a0 : Int32, Agree Inv (N_T_seldom a0) (M_seldom a0))
    (h17 : ∀ a0 : Int32, Agree Inv (N_T_leastFine a0) (M_leastFine a0))
    (h18 : ∀ a0 : Int32, ∀ a1 : Int32, ∀ a2 : Int32, Agree Inv (N_T_tow a0 a1 a2) (M_tow a0 a1 a2))
    (h19 : ∀ a0 : Int32, ∀ a1 : Int32, Agree Inv (N_T_broom a0 a1) (M_broom a0 a1))
    (h20 : ∀ a0 : Int32, ∀ a1 : Int32, Agree Inv (N_T_fits a0 a1) (M_fits a0 a1))
    (h21 : ∀ a0 : Int32, Agree Inv (N_T_paid a0) (M_paid a0))
    (h22 : ∀ a0 : Int32, Agree Inv (N_T_bell a0) (M_bell a0))
    (h23 : ∀ a0 : Int32, ∀ a1 : Int32, ∀ a2 : Int32, ∀ a3 : Int32, Agree Inv (N_T_odds a0 a1 a2 a3) (M_odds a0 a1 a2 a3))
    (h24 : ∀ a0 : Int32, Agree Inv (N_T_seed a0) (M_seed a0))
    (h25 : ∀ a0 : Int32, ∀ a1 : Int32, ∀ a2 : Int32, Agree Inv (N_T_voice a0 a1 a2) (M_voice a0 a1 a2))
    (h26 : ∀ a0 : Int32, Agree Inv (N_T_trace a0) (M_trace a0))
    (h27 : ∀ a0 : Int32, ∀ a1 : Int32, ∀ a2 : Int32, Agree Inv (N_T_sheet a0 a1 a2) (M_sheet a0 a1 a2))
    (h28 : ∀ a0 : Int32, ∀ a1 : Int32, ∀ a2 : Int32, Agree Inv (N_T_put a0 a1 a2) (M_put a0 a1 a2))
    (h29 : ∀ a0 : Int32, ∀ a1 : Int32, ∀ a2 : Int32, ∀ a3 : Int32, ∀ a4 : Int32, Agree Inv (N_T_move a0 a1 a2 a3 a4) (M_move a0 a1 a2 a3 a4))
    (h30 : ∀ a0 : Int32, Agree Inv (N_T_dirts a0) (M_dirts a0))
    (h31 : ∀ a0 : Int32, Agree Inv (N_T_judge a0) (M_judge a0))
    (h32 : Agree Inv (N_T_image ) (M_image ))
    (h33 : Agree Inv (N_T_restore ) (M_restore ))
    (h34 : ∀ a0 : Int32, Agree Inv (N_T_tell a0) (M_tell a0))
    (h35 : Agree Inv (N_T_check ) (M_check ))
    (h36 : ∀ a0 : Int32, Agree Inv (N_T_count a0) (M_count a0))
    (h37 : ∀ a0 : Int32, Agree Inv (N_T_told a0) (M_told a0)) : ∀ (n k : Nat) (A : Nat → Nat → Nat) (τ : CS) (σ : RS) (ce sl : Nat), Ln < 6 * k + n → k ≤ 599 → ce + 3 * (600 - k) ≤ 590000 → sl + 103 * (600 - k) ≤ 7300000 → Inv k τ σ → G ce sl (wC g A τ (wR g r σ [])) (lL b A r (nI (6 * k))) 18 [] := by
  have hG := hL.toG
  intro n
  induction n with
  | zero =>
    intro k A τ σ ce sl hn hk hce hsl hInv
    refine g_iload_n hG dL_law_18 rfl ?_
    refine g_aload_n hG dL_law_19 rfl ?_
    refine l_slen hL dL_law_20 ?_
    refine g_bipushv hG dL_law_21 kb_6 ?_
    refine g_isub hG dL_law_23 ?_
    refine g_icmp_gt (tgt := 1390) hG dL_law_24 rfl (fun _ => ?_) (fun q => absurd ?_ q)
    · refine g_iconstv hG dL_law_1390 ki_1 ?_
      exact l_ret hL (by omega) (by omega) dL_law_1391
    · rw [Int32.lt_iff_toInt_lt]
      have e1 : (nI Ln - nI 6).toInt = (Ln : Int) - 6 := pk_sub_toInt (by omega) (by omega)
      have e2 : (nI (6 * k)).toInt = ((6 * k : Nat) : Int) := nI_toInt (by omega)
      show (nI Ln - nI 6).toInt < _
      rw [e1, e2]
      omega
  | succ n ih =>
    intro k A τ σ ce sl hn hk hce hsl hInv
    have e1 : (nI Ln - nI 6).toInt = (Ln : Int) - 6 := pk_sub_toInt (by omega) (by omega)
    have e2 : (nI (6 * k)).toInt = ((6 * k : Nat) : Int) := nI_toInt (by omega)
    refine g_iload_n hG dL_law_18 rfl ?_
    refine g_aload_n hG dL_law_19 rfl ?_
    refine l_slen hL dL_law_20 ?_
    refine g_bipushv hG dL_law_21 kb_6 ?_
    refine g_isub hG dL_law_23 ?_
    refine g_icmp_gt (tgt := 1390) hG dL_law_24 rfl (fun _ => ?_) (fun q => ?_)
    · refine g_iconstv hG dL_law_1390 ki_1 ?_
      exact l_ret hL (by omega) (by omega) dL_law_1391
    · have hlt : 6 * k + 6 ≤ Ln := by
        rw [Int32.lt_iff_toInt_lt] at q
        have q2 : ¬ (nI Ln - nI 6).toInt < (nI (6 * k)).toInt := q
        rw [e1, e2] at q2
        omega
      have hin : ∀ j : Int32, 0 < j → j < 6 → inb (nI (6 * k) + j) Ln = true := by
        intro j h0 h6
        have hj0 : ¬ j < 0 := by
          intro q3
          rw [Int32.lt_iff_toInt_lt] at h0 q3
          omega
        obtain ⟨i, hi, rfl⟩ := nI_of hj0
        have hi6 : i < 6 := (nI_ltI hi (by decide : 6 < 2 ^ 31)).mp h6
        rw [nI_add]
        have h1 := vp_in_nI (n := 6 * k + i) (N := Ln) (by omega) (by omega)
        unfold vp_in at h1
        unfold inb
        simpa using h1
      have hin0 : inb (nI (6 * k)) Ln = true := by
        have h1 := vp_in_nI (n := 6 * k) (N := Ln) (by omega) (by omega)
        unfold vp_in at h1
        unfold inb
        simpa using h1
      have next : ∀ (A1 : Nat → Nat → Nat) (τ1 : CS) (σ1 : RS), A1 5 99 = A 5 99 → Inv (k + 1) τ1 σ1 → G (ce + 3) (sl + 103) (wC g A1 τ1 (wR g r σ1 [])) (lL b A1 r (nI (6 * k))) 1384 [] := by
        intro A1 τ1 σ1 _ hI
        refine g_iincv (c := 6) hG dL_law_1384 rfl (by decide) (by decide) ?_
        refine g_goto (tgt := 18) hG dL_law_1387 rfl ?_
        refine g_loc hG (lL b A1 r (nI (6 * (k + 1)))) ⟨rfl, rfl, rfl, ?_, trivial⟩ ?_
        · rw [show 6 * (k + 1) = 6 * k + 6 by omega, ← nI_add]
          rfl
        · exact ih (k + 1) A1 τ1 σ1 (ce + 3) (sl + 103) (by omega) (by omega) (by omega) (by omega) hI
      refine g_aload_n hG dL_law_27 rfl ?_
      refine g_iload_n hG dL_law_28 rfl ?_
      refine l_sld hL dL_law_29 hin0 ?_
      refine g_bipushv hG dL_law_30 kb_63 ?_
      refine g_iand hG dL_law_32 ?_
      obtain ⟨j, hj, ej⟩ := pk_andE (xs (ix (nI (6 * k)))) (m := 63) 6 (by decide)
      have hj64 : j < 64 := hj
      rcases Nat.lt_or_ge j 38 with hj38 | hj38
      · rcases (show j = 0 ∨ j = 1 ∨ j = 2 ∨ j = 3 ∨ j = 4 ∨ j = 5 ∨ j = 6 ∨ j = 7 ∨ j = 8 ∨ j = 9 ∨ j = 10 ∨ j = 11 ∨ j = 12 ∨ j = 13 ∨ j = 14 ∨ j = 15 ∨ j = 16 ∨ j = 17 ∨ j = 18 ∨ j = 19 ∨ j = 20 ∨ j = 21 ∨ j = 22 ∨ j = 23 ∨ j = 24 ∨ j = 25 ∨ j = 26 ∨ j = 27 ∨ j = 28 ∨ j = 29 ∨ j = 30 ∨ j = 31 ∨ j = 32 ∨ j = 33 ∨ j = 34 ∨ j = 35 ∨ j = 36 ∨ j = 37 by omega) with rfl | rfl | rfl | rfl | rfl | rfl | rfl | rfl | rfl | rfl | rfl | rfl | rfl | rfl | rfl | rfl | rfl | rfl | rfl | rfl | rfl | rfl | rfl | rfl | rfl | rfl | rfl | rfl | rfl | rfl | rfl | rfl | rfl | rfl | rfl | rfl | rfl | rfl
        · refine g_tabC (tgt := 200) (c := (0 : Int32)) hG (ej.trans (by decide)) dL_law_33 (by decide) (by decide) rfl rfl ?_
          exact lc_0 hL hin (by omega) (by omega) h0 (by omega) hInv next
        · refine g_tabC (tgt := 243) (c := (1 : Int32)) hG (ej.trans (by decide)) dL_law_33 (by decide) (by decide) rfl rfl ?_
          exact lc_1 hL hin (by omega) (by omega) h1 (by omega) hInv next
        · refine g_tabC (tgt := 276) (c := (2 : Int32)) hG (ej.trans (by decide)) dL_law_33 (by decide) (by decide) rfl rfl ?_
          exact lc_2 hL hin (by omega) (by omega) h2 (by omega) hInv next
        · refine g_tabC (tgt := 319) (c := (3 : Int32)) hG (ej.trans (by decide)) dL_law_33 (by decide) (by decide) rfl rfl ?_
          exact lc_3 hL hin (by omega) (by omega) h3 (by omega) hInv next
        · refine g_tabC (tgt := 352) (c := (4 : Int32)) hG (ej.trans (by decide)) dL_law_33 (by decide) (by decide) rfl rfl ?_
          exact lc_4 hL hin (by omega) (by omega) h4 (by omega) hInv next
        · refine g_tabC (tgt := 385) (c := (5 : Int32)) hG (ej.trans (by decide)) dL_law_33 (by decide) (by decide) rfl rfl ?_
          exact lc_5 hL hin (by omega) (by omega) h5 (by omega) hInv next
        · refine g_tabC (tgt := 418) (c := (6 : Int32)) hG (ej.trans (by decide)) dL_law_33 (by decide) (by decide) rfl rfl ?_
          exact lc_6 hL hin (by omega) (by omega) h6 (by omega) hInv next
        · refine g_tabC (tgt := 451) (c := (7 : Int32)) hG (ej.trans (by decide)) dL_law_33 (by decide) (by decide) rfl rfl ?_
          exact lc_7 hL hin (by omega) (by omega) h7 (by omega) hInv next
        · refine g_tabC (tgt := 514) (c := (8 : Int32)) hG (ej.trans (by decide)) dL_law_33 (by decide) (by decide) rfl rfl ?_
          exact lc_8 hL hin (by omega) (by omega) h8 (by omega) hInv next
        · refine g_tabC (tgt := 537) (c := (9 : Int32)) hG (ej.trans (by decide)) dL_law_33 (by decide) (by decide) rfl rfl ?_
          exact lc_9 hL hin (by omega) (by omega) h9 (by omega) hInv next
        · refine g_tabC (tgt := 590) (c := (10 : Int32)) hG (ej.trans (by decide)) dL_law_33 (by decide) (by decide) rfl rfl ?_
          exact lc_10 hL hin (by omega) (by omega) h10 (by omega) hInv next
        · refine g_tabC (tgt := 613) (c := (11 : Int32)) hG (ej.trans (by decide)) dL_law_33 (by decide) (by decide) rfl rfl ?_
          exact lc_11 hL hin (by omega) (by omega) h11 (by omega) hInv next
        · refine g_tabC (tgt := 636) (c := (12 : Int32)) hG (ej.trans (by decide)) dL_law_33 (by decide) (by decide) rfl rfl ?_
          exact lc_12 hL hin (by omega) (by omega) h12 (by omega) hInv next
        · refine g_tabC (tgt := 669) (c := (13 : Int32)) hG (ej.trans (by decide)) dL_law_33 (by decide) (by decide) rfl rfl ?_
          exact lc_13 hL hin (by omega) (by omega) h13 (by omega) hInv next
        · refine g_tabC (tgt := 702) (c := (14 : Int32)) hG (ej.trans (by decide)) dL_law_33 (by decide) (by decide) rfl rfl ?_
          exact lc_14 hL hin (by omega) (by omega) h14 (by omega) hInv next
        · refine g_tabC (tgt := 715) (c := (15 : Int32)) hG (ej.trans (by decide)) dL_law_33 (by decide) (by decide) rfl rfl ?_
          exact lc_15 hL hin (by omega) (by omega) h15 (by omega) hInv next
        · refine g_tabC (tgt := 738) (c := (16 : Int32)) hG (ej.trans (by decide)) dL_law_33 (by decide) (by decide) rfl rfl ?_
          exact lc_16 hL hin (by omega) (by omega) h16 (by omega) hInv next
        · refine g_tabC (tgt := 761) (c := (17 : Int32)) hG (ej.trans (by decide)) dL_law_33 (by decide) (by decide) rfl rfl ?_
          exact lc_17 hL hin (by omega) (by omega) h17 (by omega) hInv next
        · refine g_tabC (tgt := 784) (c := (18 : Int32)) hG (ej.trans (by decide)) dL_law_33 (by decide) (by decide) rfl rfl ?_
          exact lc_18 hL hin (by omega) (by omega) h18 (by omega) hInv next
        · refine g_tabC (tgt := 827) (c := (19 : Int32)) hG (ej.trans (by decide)) dL_law_33 (by decide) (by decide) rfl rfl ?_
          exact lc_19 hL hin (by omega) (by omega) h19 (by omega) hInv next
        · refine g_tabC (tgt := 860) (c := (20 : Int32)) hG (ej.trans (by decide)) dL_law_33 (by decide) (by decide) rfl rfl ?_
          exact lc_20 hL hin (by omega) (by omega) h20 (by omega) hInv next
        · refine g_tabC (tgt := 893) (c := (21 : Int32)) hG (ej.trans (by decide)) dL_law_33 (by decide) (by decide) rfl rfl ?_
          exact lc_21 hL hin (by omega) (by omega) h21 (by omega) hInv next
        · refine g_tabC (tgt := 916) (c := (22 : Int32)) hG (ej.trans (by decide)) dL_law_33 (by decide) (by decide) rfl rfl ?_
          exact lc_22 hL hin (by omega) (by omega) h22 (by omega) hInv next
        · refine g_tabC (tgt := 939) (c := (23 : Int32)) hG (ej.trans (by decide)) dL_law_33 (by decide) (by decide) rfl rfl ?_
          exact lc_23 hL hin (by omega) (by omega) h23 (by omega) hInv next
        · refine g_tabC (tgt := 992) (c := (24 : Int32)) hG (ej.trans (by decide)) dL_law_33 (by decide) (by decide) rfl rfl ?_
          exact lc_24 hL hin (by omega) (by omega) h24 (by omega) hInv next
        · refine g_tabC (tgt := 1015) (c := (25 : Int32)) hG (ej.trans (by decide)) dL_law_33 (by decide) (by decide) rfl rfl ?_
          exact lc_25 hL hin (by omega) (by omega) h25 (by omega) hInv next
        · refine g_tabC (tgt := 1058) (c := (26 : Int32)) hG (ej.trans (by decide)) dL_law_33 (by decide) (by decide) rfl rfl ?_
          exact lc_26 hL hin (by omega) (by omega) h26 (by omega) hInv next
        · refine g_tabC (tgt := 1081) (c := (27 : Int32)) hG (ej.trans (by decide)) dL_law_33 (by decide) (by decide) rfl rfl ?_
          exact lc_27 hL hin (by omega) (by omega) h27 (by omega) hInv next
        · refine g_tabC (tgt := 1124) (c := (28 : Int32)) hG (ej.trans (by decide)) dL_law_33 (by decide) (by decide) rfl rfl ?_
          exact lc_28 hL hin (by omega) (by omega) h28 (by omega) hInv next
        · refine g_tabC (tgt := 1167) (c := (29 : Int32)) hG (ej.trans (by decide)) dL_law_33 (by decide) (by decide) rfl rfl ?_
          exact lc_29 hL hin (by omega) (by omega) h29 (by omega) hInv next
        · refine g_tabC (tgt := 1230) (c := (30 : Int32)) hG (ej.trans (by decide)) dL_law_33 (by decide) (by decide) rfl rfl ?_
          exact lc_30 hL hin (by omega) (by omega) h30 (by omega) hInv next
        · refine g_tabC (tgt := 1253) (c := (31 : Int32)) hG (ej.trans (by decide)) dL_law_33 (by decide) (by decide) rfl rfl ?_
          exact lc_31 hL hin (by omega) (by omega) h31 (by omega) hInv next
        · refine g_tabC (tgt := 1276) (c := (32 : Int32)) hG (ej.trans (by decide)) dL_law_33 (by decide) (by decide) rfl rfl ?_
          exact lc_32 hL hin (by omega) (by omega) h32 (by omega) hInv next
        · refine g_tabC (tgt := 1289) (c := (33 : Int32)) hG (ej.trans (by decide)) dL_law_33 (by decide) (by decide) rfl rfl ?_
          exact lc_33 hL hin (by omega) (by omega) h33 (by omega) hInv next
        · refine g_tabC (tgt := 1302) (c := (34 : Int32)) hG (ej.trans (by decide)) dL_law_33 (by decide) (by decide) rfl rfl ?_
          exact lc_34 hL hin (by omega) (by omega) h34 (by omega) hInv next
        · refine g_tabC (tgt := 1325) (c := (35 : Int32)) hG (ej.trans (by decide)) dL_law_33 (by decide) (by decide) rfl rfl ?_
          exact lc_35 hL hin (by omega) (by omega) h35 (by omega) hInv next
        · refine g_tabC (tgt := 1338) (c := (36 : Int32)) hG (ej.trans (by decide)) dL_law_33 (by decide) (by decide) rfl rfl ?_
          exact lc_36 hL hin (by omega) (by omega) h36 (by omega) hInv next
        · refine g_tabC (tgt := 1361) (c := (37 : Int32)) hG (ej.trans (by decide)) dL_law_33 (by decide) (by decide) rfl rfl ?_
          exact lc_37 hL hin (by omega) (by omega) h37 (by omega) hInv next
      · refine g_tableOut (tgt := 1384) hG dL_law_33 (by rw [ej, nI_toInt (by omega)]; omega) rfl ?_
        refine g_widen hG (k := ce + 3) (n := sl + 103) (by omega) (by omega) ?_
        exact next A τ σ rfl (hmono _ _ _ hInv)
