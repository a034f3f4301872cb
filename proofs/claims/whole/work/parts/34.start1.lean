set_option maxRecDepth 100000 in
set_option maxHeartbeats 4000000 in
/-- the law from its entry, over the agreement of all calls -/
theorem start_of {p : Program} {e : Env} {s : State} {m : MethodId} {below : List Frame} {meth : Method} {c : Code} (l : Launch) {b L : Nat} {xs : Nat → Int32} {Inv : Nat → CS → RS → Prop} (hL : L ≤ 3072) (C0 : lw_At p s m meth c b L xs) (hInit : Inv 0 τ0 σ0R) (hmono : ∀ k τ σ, Inv k τ σ → Inv (k + 1) τ σ)
    (h0 : ∀ a0 : Int32, ∀ a1 : Int32, ∀ a2 : Int32, Agree Inv (N_T_yard a0 a1 a2) (M_yard a0 a1 a2))
    (h1 : ∀ a0 : Int32, ∀ a1 : Int32, Agree Inv (N_T_ofYard a0 a1) (M_ofYard a0 a1))
    (h2 : ∀ a0 : Int32, ∀ a1 : Int32, ∀ a2 : Int32, Agree Inv (N_T_change a0 a1 a2) (M_change a0 a1 a2))
    (h3 : ∀ a0 : Int32, ∀ a1 : Int32, Agree Inv (N_T_set a0 a1) (M_set a0 a1))
    (h4 : ∀ a0 : Int32, ∀ a1 : Int32, Agree Inv (N_T_become a0 a1) (M_become a0 a1))
    (h5 : ∀ a0 : Int32, ∀ a1 : Int32, Agree Inv (N_T_as a0 a1) (M_as a0 a1))
    (h6 : ∀ a0 : Int32, ∀ a1 : Int32, Agree Inv (N_T_sign a0 a1) (M_sign a0 a1))
    (h7 : ∀ a0 : Int64, ∀ a1 : Int32, Agree Inv (N_T_feed a0 a1) (M_feed a0 a1))
    (h8 : ∀ a0 : Int32, Agree Inv (N_T_text a0) (M_text a0))
    (h9 : ∀ a0 : Int32, ∀ a1 : Int32, ∀ a2 : Int32, ∀ a3 : Int32, Agree Inv (N_T_law a0 a1 a2 a3) (M_law a0 a1 a2 a3))
    (h10 : ∀ a0 : Int32, Agree Inv (N_T_days a0) (M_days a0))
    (h11 : ∀ a0 : Int32, Agree Inv (N_T_loose a0) (M_loose a0))
    (h12 : ∀ a0 : Int32, ∀ a1 : Int32, Agree Inv (N_T_then a0 a1) (M_then a0 a1))
    (h13 : ∀ a0 : Int32, ∀ a1 : Int32, Agree Inv (N_T_worst a0 a1) (M_worst a0 a1))
    (h14 : Agree Inv (N_T_stay ) (M_stay ))
    (h15 : ∀ a0 : Int32, Agree Inv (N_T_side a0) (M_side a0))
    (h16 : ∀ a0 : Int32, Agree Inv (N_T_seldom a0) (M_seldom a0))
    (h17 : ∀ a0 : Int32, Agree Inv (N_T_leastFine a0) (M_leastFine a0))
    (h18 : ∀ a0 : Int32, ∀ a1 : Int32, ∀ a2 : Int32, Agree Inv (N_T_tow a0 a1 a2) (M_tow a0 a1 a2))
    (h19 : ∀ a0 : Int32, ∀ a1 : Int32, Agree Inv (N_T_broom a0 a1) (M_broom a0 a1))
    (h20 : ∀ a0 : Int32, ∀ a1 : Int32, Agree Inv (N_T_fits a0 a1) (M_fits a0 a1))
    (h21 : ∀ a0 : Int32, Agree Inv (N_T_paid a0) (M_paid a0))
    (h22 : ∀ a0 : Int32, Agree Inv (N_T_bell a0) (M_bell a0))
    (h23 : ∀ a0 : Int32, ∀ a1 : Int32, ∀ a2 : Int32, ∀ a3 : Int32, Agree Inv (N_T_odds a0 a1 a2 a3) (M_odds a0 a1 a2 a3))
    (h24 : ∀ a0 : Int32, Agree Inv (N_T_seed a0) (M_seed a0))
    (h25 : ∀ a0 : Int32, ∀ a1 : Int32, ∀ a2 : Int32, Agree Inv (N_T_voice a0 a1 a2) (M_voice a0 a1 a2))
    (h26 : ∀ a0 : Int32, Agree Inv (N_T_trace a0) (M_trace a0))
    (h27 : ∀ a0 : Int32, ∀ a1 : Int32, ∀ a2 : Int32, Agree Inv (N_T_sheet a0 a1 a2) (M_sheet a0 a1 a2))
    (h28 : ∀ a0 : Int32, ∀ a1 : Int32, ∀ a2 : Int32, Agree Inv (N_T_put a0 a1 a2) (M_put a0 a1 a2))
    (h29 : ∀ a0 : Int32, ∀ a1 : Int32, ∀ a2 : Int32, ∀ a3 : Int32, ∀ a4 : Int32, Agree Inv (N_T_move a0 a1 a2 a3 a4) (M_move a0 a1 a2 a3 a4))
    (h30 : ∀ a0 : Int32, Agree Inv (N_T_dirts a0) (M_dirts a0))
    (h31 : ∀ a0 : Int32, Agree Inv (N_T_judge a0) (M_judge a0))
    (h32 : Agree Inv (N_T_image ) (M_image ))
    (h33 : Agree Inv (N_T_restore ) (M_restore ))
    (h34 : ∀ a0 : Int32, Agree Inv (N_T_tell a0) (M_tell a0))
    (h35 : Agree Inv (N_T_check ) (M_check ))
    (h36 : ∀ a0 : Int32, Agree Inv (N_T_count a0) (M_count a0))
    (h37 : ∀ a0 : Int32, Agree Inv (N_T_told a0) (M_told a0)) : W p l e room_1 s m #[Value.ref b] below meth c s.heap [] 0 0 (lw_Z below #[Value.ref b] s) (entryFrame m ([Value.ref b] : List Value).toArray 4) := by
  obtain ⟨hx, hb, hr, hml, hown, hts, hX, hbl, hlocks, hgv⟩ := id C0
  obtain ⟨g, hg, hK⟩ := gK_start hts hgv
  have hLL : IsL g l b L xs meth.name (BW g p l e room_1 s m #[Value.ref b] below meth c (lw_Z below #[Value.ref b] s) 4) := ⟨p, e, s, m, below, meth, c, hx, hb, hr, hml, hown, fun w hw => hts w (List.mem_filter.mp hw).1, hK, hlocks, rfl, hX, hbl, hg, ExI_start hts, rfl⟩
  have key : (BW g p l e room_1 s m #[Value.ref b] below meth c (lw_Z below #[Value.ref b] s) 4) 0 0 [] [(0, .ref b)] 0 [] := by
    generalize (BW g p l e room_1 s m #[Value.ref b] below meth c (lw_Z below #[Value.ref b] s) 4) = G at hLL
    have hG := hLL.toG
    refine g_new (ci := 11) (fs := [.null, .null, .null, .null, .null, .null, .null, .null, .null, .int 0]) hG dL_law_0 rfl inX11 tyX11_ok cl_L_7 nw_X11 ni_X11 (fun j hj => by rcases (show j = 0 ∨ j = 1 ∨ j = 2 ∨ j = 3 ∨ j = 4 ∨ j = 5 ∨ j = 6 ∨ j = 7 ∨ j = 8 ∨ j = 9 by omega) with rfl | rfl | rfl | rfl | rfl | rfl | rfl | rfl | rfl | rfl <;> rfl) (Nat.le_of_ble_eq_true rfl) (Nat.le_of_ble_eq_true rfl) (fun q => ?_)
    refine g_dup hG dL_law_3 rfl ?_
    refine l_callIx hLL dL_law_4 (i_X11 (Y := [])) b_X11_init il_L_9 rfl ⟨Nat.le_of_ble_eq_true rfl, Nat.le_of_ble_eq_true rfl⟩ ⟨Nat.le_of_ble_eq_true rfl, Nat.le_of_ble_eq_true rfl⟩ _ rfl (Nat.le_of_ble_eq_true rfl) (fun w hw => ?_)
    obtain ⟨A, hA, hw⟩ := hw
    subst hA
    refine g_perm hG hw ?_
    refine g_astore_n hG dL_law_7 (by decide) ?_
    refine g_new (ci := 12) (fs := [.null, .null, .null, .null, .int 0, .int 0, .null, .int 0, .int 0, .int 0, .int 0, .int 0, .int 0, .int 0, .int 0, .int 0, .null, .null, .null, .null, .null, .int 0, .int 0, .int 0, .int 0]) hG dL_law_8 rfl inX12 tyX12_ok cl_L_10 nw_X12 ni_X12 (fun j hj => by rcases (show j = 0 ∨ j = 1 ∨ j = 2 ∨ j = 3 ∨ j = 4 ∨ j = 5 ∨ j = 6 ∨ j = 7 ∨ j = 8 ∨ j = 9 ∨ j = 10 ∨ j = 11 ∨ j = 12 ∨ j = 13 ∨ j = 14 ∨ j = 15 ∨ j = 16 ∨ j = 17 ∨ j = 18 ∨ j = 19 ∨ j = 20 ∨ j = 21 ∨ j = 22 ∨ j = 23 ∨ j = 24 by omega) with rfl | rfl | rfl | rfl | rfl | rfl | rfl | rfl | rfl | rfl | rfl | rfl | rfl | rfl | rfl | rfl | rfl | rfl | rfl | rfl | rfl | rfl | rfl | rfl | rfl <;> rfl) (Nat.le_of_ble_eq_true rfl) (Nat.le_of_ble_eq_true rfl) (fun q2 => ?_)
    refine g_perm hG (List.perm_append_singleton _ _) ?_
    refine g_dup hG dL_law_11 rfl ?_
    refine g_callI hG dL_law_12 (i_X12 (Y := wC g A τ0 [])) b_X12_init il_L_12 rfl ⟨Nat.le_of_ble_eq_true rfl, Nat.le_of_ble_eq_true rfl⟩ ⟨Nat.le_of_ble_eq_true rfl, Nat.le_of_ble_eq_true rfl⟩ _ rfl (Nat.le_of_ble_eq_true rfl) (fun w hw => ?_)
    obtain ⟨r, hr2, hw⟩ := hw
    subst hr2
    refine g_perm hG hw ?_
    refine g_perm hG (wperm g A τ0 r σ0R).symm ?_
    refine g_astore_n hG dL_law_15 (by decide) ?_
    refine g_iconstv hG dL_law_16 ki_0 ?_
    refine g_istore_n hG dL_law_17 (by decide) ?_
    refine g_loc hG (lL b A r (nI (6 * 0))) ⟨rfl, rfl, rfl, rfl, trivial⟩ ?_
    exact law_loop hmono hLL hL h0 h1 h2 h3 h4 h5 h6 h7 h8 h9 h10 h11 h12 h13 h14 h15 h16 h17 h18 h19 h20 h21 h22 h23 h24 h25 h26 h27 h28 h29 h30 h31 h32 h33 h34 h35 h36 h37 (L + 1) 0 A τ0 σ0R _ _ (by omega) (by omega) (by decide) (by decide) hInit
  have hl := lv_entry ([.ref b]) (n := 4) (Nat.le_of_ble_eq_true rfl)
  rw [lg_entry_eq]
  exact key s.heap [] _ (fun k q h => by simp at h) ⟨fun i j p q h => by simp at h, fun k q h => by simp at h⟩ va_S.rf hl
