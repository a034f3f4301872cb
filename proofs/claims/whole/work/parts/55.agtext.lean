def τQ (τ : CS) (u t : Nat) : CS := si (si (si (si (sa τ 3 0 (va_cpy (τ.2.1 0 13) (τ.2.1 3 0) 0 0 t)) 3 2 (nI t)) 3 5 (nI u)) 3 3 0) 3 4 0
theorem fault_e {τ : CS} {u t : Nat} (ht : t ≤ 50) : N_Q_faultIn (nI t) (nI u) τ = ob ((rdp 60).1 0 0 (τQ τ u t)) fun v12 s => if v12 = 0 then some (s.1 3 3, s) else if s.1 3 3 = s.1 3 2 then some (-1, s) else some (s.1 3 3, s) := by
  unfold N_Q_faultIn
  rw [gd_t (cpok_t ht), ix_nI (by omega)]
  rfl
theorem τQ_q3 (τ : CS) (u t : Nat) : q3 τ (τQ τ u t) := (((q3_sa.tr q3_si).tr q3_si).tr q3_si).tr q3_si
theorem τQ_C {τ : CS} {u t : Nat} (ht : t ≤ 50) (hu : u < 2) (hb : ∀ i, i < t → ∃ v : Nat, v < 256 ∧ τ.2.1 0 13 i = nI v) : txC (τQ τ u t) u t (τ.2.1 0 13) := by
  refine ⟨ht, hu, ?_, ?_, ?_, ?_, fun i hi => ⟨?_, hb i hi⟩⟩
  · unfold τQ; rw [si_ne _ _ (by decide), si_ne _ _ (by decide), si_ne _ _ (by decide), si_eq]
  · unfold τQ; rw [si_ne _ _ (by decide), si_ne _ _ (by decide), si_eq]
  · unfold τQ; rw [si_ne _ _ (by decide), si_eq]; rfl
  · unfold τQ; rw [si_eq]; rfl
  · have e : (τQ τ u t).2.1 3 0 = va_cpy (τ.2.1 0 13) (τ.2.1 3 0) 0 0 t := sa_eq _ _ _ _
    rw [e, pk_cpy_in (by omega) (by omega)]
    exact congrArg (τ.2.1 0 13) (by omega)
def σT (σ : RS) (u : Nat) : RS := ra (ra σ 3 (mcp (σ.2 0) (σ.2 3) 240)) 0 (upd (cpT (σ.2 0) u 0) (5 + u) (σ.2 0 3))
theorem textR_e {σ : RS} {u : Nat} (hu : u < 2) : (ob (M_moveAll 0 3 σ) fun _ s => M_text_b30 FU (nI u) 0 s) = ob (M_walks (nI u) 1 1 1 (σT σ u)) fun v15 s => lt (if s.1 14 = 0 then (0 : Int32) else (if v15 = v15 then 1 else 0)) fun v21 => lt (s.1 8) fun v23 => if v21 = 0 then ob (M_moveAll 3 0 s) fun _ s2 => M_text_b129 v21 v23 s2 else M_text_b129 v21 v23 s := by
  unfold M_moveAll
  rw [ob_s]
  have e := text_cp hu 50 0 950 (ra σ 3 (mcp (σ.2 0) (σ.2 3) 240)) rfl
  have e2 : M_text_b30 FU (nI u) 0 (ra σ 3 (mcp (σ.2 0) (σ.2 3) 240)) = M_text_b30 950 (nI u) (nI 50) (ra (ra σ 3 (mcp (σ.2 0) (σ.2 3) 240)) 0 (cpT ((ra σ 3 (mcp (σ.2 0) (σ.2 3) 240)).2 0) u 0)) := e
  obtain ⟨nn, hnn⟩ : ∃ nn, (950 : Nat) = nn + 1 := ⟨949, rfl⟩
  rw [e2, hnn]
  have c1 : (50 : Int32) ≤ nI 50 := by decide
  have b1 : inb (nI (5 + u)) 240 = true := inb_nI (by omega) (by decide)
  have x1 : ix (nI (5 + u)) = 5 + u := ix_nI (by omega)
  have e3 : (ra σ 3 (mcp (σ.2 0) (σ.2 3) 240)).2 0 = σ.2 0 := ra_ne _ _ (by decide)
  have e4 : cpT (σ.2 0) u 0 3 = σ.2 0 3 := by unfold cpT; rw [if_neg (by omega)]
  simp only [M_text_b30, if_pos c1, n5u, gd_t b1, x1, lt_e, ra_eq, ra_ra, e3, e4]
  rfl
theorem σT_R {τ : CS} {σ : RS} {u t : Nat} (hu : u < 2) (ht : t ≤ 50) (h3 : σ.2 0 3 = nI t) (hb : ∀ i, i < t → σ.2 0 (70 + i) = τ.2.1 0 13 i) : txR (σT σ u) u t (τ.2.1 0 13) := by
  have e : (σT σ u).2 0 = upd (cpT (σ.2 0) u 0) (5 + u) (σ.2 0 3) := ra_eq _ _ _
  refine ⟨by rw [e, upd_eq]; exact h3, fun i hi => ?_⟩
  rw [e, upd_ne _ _ (by omega)]
  unfold cpT
  rw [if_pos (by omega), ← hb i hi]
  exact congrArg (σ.2 0) (by omega)
theorem Inv_l2 {k : Nat} {τ τ' : CS} {σ σ' : RS} (h : Inv k τ σ) (h1 : ∀ o f, 2 ≤ o → o < 8 → o ≠ 3 → τ'.1 o f = τ.1 o f) (h2 : ∀ o f, 2 ≤ o → o < 8 → o ≠ 3 → τ'.2.1 o f = τ.2.1 o f) (h3 : ∀ o f, 2 ≤ o → o < 7 → τ'.2.2 o f = τ.2.2 o f) (hl2 : lsame2 τ τ') (hn' : τ'.2.2 7 0 ≤ τ.2.2 7 0 + 1) (hr : rsame σ σ') (hl : lawsok τ' = true) (hK : Kept (σ'.2 0) τ' 0) : Inv (k + 1) τ' σ' := by
  obtain ⟨-, ⟨i, hi, b1, b2, b3, b4⟩, h3', h4, h5, h6, h7, n, hn, hn2⟩ := h
  refine ⟨hK, ⟨i, by omega, ?_, ?_, ?_, fun q => ?_⟩, ?_, ?_, ?_, ?_, hl, τ'.2.2 7 0, by omega, rfl⟩
  · rw [h1 _ _ (by omega) (by omega) (by omega)]; exact b1
  · rw [hr.1 _ (by omega)]; exact b2
  · rw [hr.1 _ (by omega)]; exact b3
  · rw [hr.2 1 (by omega) (by omega) (by omega) (by omega)]
    exact (b4 q).same2 ⟨fun f => h1 _ _ (by omega) (by omega) (by omega), fun f => h2 _ _ (by omega) (by omega) (by omega), fun f => h3 _ _ (by omega) (by omega)⟩ hl2
  · unfold Shts at h3' ⊢
    rw [h2 5 6 (by omega) (by omega) (by omega), h2 5 7 (by omega) (by omega) (by omega), hr.2 16 (by omega) (by omega) (by omega) (by omega), hr.2 17 (by omega) (by omega) (by omega) (by omega), hr.2 18 (by omega) (by omega) (by omega) (by omega)]
    refine ⟨h3'.1, fun s hs i hi => ?_⟩
    rw [h2 6 s (by omega) (by omega) (by omega)]; exact h3'.2 s hs i hi
  · unfold Trc at h4 ⊢
    rw [h1 _ _ (by omega) (by omega) (by omega), hr.1 21 (by omega), hr.2 20 (by omega) (by omega) (by omega) (by omega), h2 4 0 (by omega) (by omega) (by omega)]
    exact h4
  · intro j hj
    rw [hr.2 6 (by omega) (by omega) (by omega) (by omega), h2 5 8 (by omega) (by omega) (by omega)]
    exact h5 j hj
  · rw [hr.1 _ (by omega)]; exact h6
theorem lawsok_iff {τ : CS} : lawsok τ = true ↔ ∀ d, d < 3 → τ.2.2 d 11 < τ.2.2 7 0 ∧ τ.2.2 d 12 < τ.2.2 7 0 := by
  unfold lawsok
  simp only [Bool.and_eq_true, decide_eq_true_eq]
  constructor
  · intro ⟨a, b, c, d, e, f⟩ q hq
    rcases (show q = 0 ∨ q = 1 ∨ q = 2 by omega) with rfl | rfl | rfl
    · exact ⟨a, b⟩
    · exact ⟨c, d⟩
    · exact ⟨e, f⟩
  · intro h
    exact ⟨(h 0 (by omega)).1, (h 0 (by omega)).2, (h 1 (by omega)).1, (h 1 (by omega)).2, (h 2 (by omega)).1, (h 2 (by omega)).2⟩
theorem text_bad {k : Nat} {τ τ' : CS} {σ σ' : RS} {u q : Nat} (h : Inv k τ σ) (hq : q3 τ τ') (hr : req (σT σ u) σ') : AgP k (some (-10 - nI q, si τ' 0 14 0)) (ob (M_moveAll 3 0 σ') fun _ s2 => M_text_b129 0 (nI q) s2) := by
  unfold M_moveAll M_text_b129
  rw [ob_s, lt_e, if_pos rfl]
  refine ⟨_, _, _, rfl, rfl, ?_⟩
  have e3 : σ'.2 = (σT σ u).2 := hr.1
  refine Inv_of h ((q3_c hq).tr (cs_si (by omega))) ?_ (lawsok_eq (τ := τ) hq.1 (Inv_l h)) ?_
  · refine ((((rs_ra (f := 3) (by omega)).tr (rs_ra (f := 0) (by omega))).tr (req_r hr)).tr (rs_ra (f := 0) (by omega))).tr (rs_ra (f := 0) (by omega))
  · rw [ra_eq, ra_eq]
    refine Kept_tp0 (Kept.rcg (row := σ.2 0) (fun i hi => ?_) (h.1.same (q3_d (by decide) hq) (q3_l hq)))
    rw [mcp_lt hi, e3]
    have e4 : (σT σ u).2 3 = mcp (σ.2 0) (σ.2 3) 240 := by
      unfold σT
      rw [ra_ne _ _ (by decide), ra_eq]
    rw [e4, mcp_lt hi]
theorem text_good {k : Nat} {τ τ' : CS} {σ σ' : RS} {u t W : Nat} {x : Int32} (h : Inv k τ σ) (hu : u < 2) (ht : t ≤ 50) (h3 : σ.2 0 3 = nI t) (hb : ∀ i, i < t → σ.2 0 (70 + i) = τ.2.1 0 13 i) (hq : q3 τ τ') (h5 : τ'.1 3 5 = nI u) (hr : req (σT σ u) σ') (hW0 : 0 < W) (hW : W ≤ 50) (w3 : τ'.1 3 4 = nI W) (P : ∀ (σ : RS) (a b c : Int32), txR σ u t (τ.2.1 0 13) → ∃ (x : Int32) (σ' : RS) (cd : List Int32), M_walks (nI u) a b c σ = some (x, σ') ∧ req σ σ' ∧ cd.length = W ∧ (∀ k, k < W → τ'.2.1 3 1 k = cd.getD k 0) ∧ EvC a b c cd x) : Inv (k + 1) (slw (lawNew (si τ' 0 14 0)) 0 (11 + u) (τ.2.2 7 0)) (ra σ' 0 (upd (σ'.2 0) 3 0)) ∧ N_Q_lawRead (si τ' 0 14 0) = some (τ.2.2 7 0, lawNew (si τ' 0 14 0)) := by
  have hlo := Inv_l h
  have hok := lawsok_iff.mp hlo
  have e22 : (si τ' 0 14 0).2.2 = τ.2.2 := hq.1
  have e21 : (si τ' 0 14 0).2.1 = τ'.2.1 := rfl
  have e34 : (si τ' 0 14 0).1 3 4 = nI W := by
    have : (si τ' 0 14 0).1 3 4 = τ'.1 3 4 := by simp [si, up2]
    rw [this]; exact w3
  have e35 : (si τ' 0 14 0).1 3 5 = nI u := by
    have : (si τ' 0 14 0).1 3 5 = τ'.1 3 5 := by simp [si, up2]
    rw [this]; exact h5
  have xW : ix (nI W) = W := ix_nI (by omega)
  obtain ⟨n, hn⟩ : ∃ n, n = τ.2.2 7 0 := ⟨_, rfl⟩
  have f1 : ∀ o f, o < n + 8 → (slw (lawNew (si τ' 0 14 0)) 0 (11 + u) (τ.2.2 7 0)).1 o f = (si τ' 0 14 0).1 o f := fun o f ho => by
    have : ¬ o = τ.2.2 7 0 + 8 := by omega
    simp [slw, lawNew, up2, e22, this]
  have f2 : ∀ o f, o < n + 8 → (slw (lawNew (si τ' 0 14 0)) 0 (11 + u) (τ.2.2 7 0)).2.1 o f = τ'.2.1 o f := fun o f ho => by
    have : ¬ o = τ.2.2 7 0 + 8 := by omega
    simp [slw, lawNew, up2, e22, this, e21]
  have f3 : ∀ o f, o < n + 8 → ¬ (o = 7 ∧ f = 0) → ¬ (o = 0 ∧ f = 11 + u) → (slw (lawNew (si τ' 0 14 0)) 0 (11 + u) (τ.2.2 7 0)).2.2 o f = τ.2.2 o f := fun o f ho h7 h0 => by
    have c0 : ¬ o = τ.2.2 7 0 + 8 := by omega
    by_cases c1 : o = 0
    · subst c1
      have c2 : f ≠ 11 + u := fun q => h0 ⟨rfl, q⟩
      simp [slw, lawNew, up2, e22, c2]
    · by_cases c3 : o = 7
      · subst c3
        have c4 : f ≠ 0 := fun q => h7 ⟨rfl, q⟩
        simp [slw, lawNew, up2, e22, c4]
      · simp [slw, lawNew, up2, e22, c0, c1, c3]
  have g0 : (slw (lawNew (si τ' 0 14 0)) 0 (11 + u) (τ.2.2 7 0)).2.2 0 (11 + u) = n := by simp [slw, up2, hn]
  have g7 : (slw (lawNew (si τ' 0 14 0)) 0 (11 + u) (τ.2.2 7 0)).2.2 7 0 = n + 1 := by simp [slw, lawNew, up2, e22, hn]
  have gL0 : (slw (lawNew (si τ' 0 14 0)) 0 (11 + u) (τ.2.2 7 0)).2.2 (n + 8) 0 = W := by
    rw [hn]
    simp [slw, lawNew, up2, e22, e34, xW]
  have gL1 : (slw (lawNew (si τ' 0 14 0)) 0 (11 + u) (τ.2.2 7 0)).1 (n + 8) 0 = nI u := by
    rw [hn]
    simp [slw, lawNew, up2, e22, e35]
  have gL2 : ∀ i, i < W → (slw (lawNew (si τ' 0 14 0)) 0 (11 + u) (τ.2.2 7 0)).2.1 (n + 8) 1 i = τ'.2.1 3 1 i := fun i hi => by
    have : (slw (lawNew (si τ' 0 14 0)) 0 (11 + u) (τ.2.2 7 0)).2.1 (n + 8) 1 = va_cpy (τ'.2.1 3 1) (fun _ => 0) 0 0 W := by
      rw [hn]
      simp [slw, lawNew, up2, e22, e34, xW, e21]
    rw [this, pk_cpy_in (by omega) (by omega)]
    exact congrArg (τ'.2.1 3 1) (by omega)
  refine ⟨?_, ?_⟩
  · have hl2 : lsame2 τ (slw (lawNew (si τ' 0 14 0)) 0 (11 + u) (τ.2.2 7 0)) := by
      refine ⟨fun j hj => ⟨?_, ?_, ?_⟩, by rw [g7]; omega⟩
      · rw [f1 _ _ (by omega)]
        have : (si τ' 0 14 0).1 (j + 8) 0 = τ'.1 (j + 8) 0 := by simp [si, up2]
        rw [this]; exact hq.2.1 _ _ (by omega)
      · rw [f2 _ _ (by omega)]; exact hq.2.2 _ _ (by omega)
      · exact f3 _ _ (by omega) (by omega) (by omega)
    have s1 : ∀ o f, o < 8 → o ≠ 3 → ¬ (o = 0 ∧ f = 14) → (slw (lawNew (si τ' 0 14 0)) 0 (11 + u) (τ.2.2 7 0)).1 o f = τ.1 o f := fun o f ho h3 h0 => by
      rw [f1 _ _ (by omega)]
      have : (si τ' 0 14 0).1 o f = τ'.1 o f := by
        by_cases c : o = 0
        · subst c
          exact si_ne _ _ (fun q => h0 ⟨rfl, q⟩)
        · simp [si, up2, c]
      rw [this]; exact hq.2.1 _ _ h3
    have s2 : ∀ o f, o < 8 → o ≠ 3 → (slw (lawNew (si τ' 0 14 0)) 0 (11 + u) (τ.2.2 7 0)).2.1 o f = τ.2.1 o f := fun o f ho h3 => by
      rw [f2 _ _ (by omega)]; exact hq.2.2 _ _ h3
    have e3 : σ'.2 = (σT σ u).2 := hr.1
    have er : σ'.2 0 = upd (cpT (σ.2 0) u 0) (5 + u) (σ.2 0 3) := by rw [e3]; exact ra_eq _ _ _
    have el : ∀ i, i ≠ 5 + u → i ≠ 3 → i < 140 → (upd (σ'.2 0) 3 0) i = σ.2 0 i := fun i h1 h2 h3 => by
      rw [upd_ne _ _ h2, er, upd_ne _ _ h1]
      unfold cpT
      rw [if_neg (by omega)]
    refine Inv_l2 h (fun o f a b c => s1 o f b c (by omega)) (fun o f a b c => s2 o f b c) (fun o f a b => f3 o f (by omega) (by omega) (by omega)) hl2 (by rw [g7]; omega) (((rs_ra (f := 3) (by omega)).tr (rs_ra (f := 0) (by omega))).tr ((req_r hr).tr (rs_ra (f := 0) (by omega)))) ?_ ?_
    · refine lawsok_iff.mpr (fun d hd => ?_)
      obtain ⟨o1, o2⟩ := hok d hd
      rw [g7]
      constructor
      · by_cases c : d = 0 ∧ 11 = 11 + u
        · obtain ⟨ca, cb⟩ := c
          have hu0 : u = 0 := by omega
          subst hu0
          have g0' : (slw (lawNew (si τ' 0 14 0)) 0 (11 + 0) (τ.2.2 7 0)).2.2 0 11 = n := g0
          rw [ca, g0']; omega
        · rw [f3 d 11 (by omega) (by omega) c]; omega
      · by_cases c : d = 0 ∧ 12 = 11 + u
        · obtain ⟨ca, cb⟩ := c
          have hu0 : u = 1 := by omega
          subst hu0
          have g0' : (slw (lawNew (si τ' 0 14 0)) 0 (11 + 1) (τ.2.2 7 0)).2.2 0 12 = n := g0
          rw [ca, g0']; omega
        · rw [f3 d 12 (by omega) (by omega) c]; omega
    · rw [ra_eq]
      obtain ⟨S, F0, F1, a1, a2, a3, ⟨t1, t2, t3⟩, a5, a6, a7, a8, a9, a10⟩ := h.1
      have hS := a1.1
      obtain ⟨F, l1, l2, l3, l4⟩ := text_law (τR := τ') (τF := slw (lawNew (si τ' 0 14 0)) 0 (11 + u) (τ.2.2 7 0)) (j := n) (row := upd (σ'.2 0) 3 0) hu ht hW0 hW P (by rw [g7]; omega) gL0 gL1 gL2 (by rw [upd_ne _ _ (by omega), er, upd_eq]; exact h3) (fun i hi => by
        rw [upd_ne _ _ (by omega), er, upd_ne _ _ (by omega)]
        unfold cpT
        rw [if_pos (by omega), ← hb i hi]
        exact congrArg (σ.2 0) (by omega))
      have kR : RRow (upd (σ'.2 0) 3 0) S := a2.cg hS (fun i hi q => el i (by omega) (by omega) (by omega))
      have kC : CStr (slw (lawNew (si τ' 0 14 0)) 0 (11 + u) (τ.2.2 7 0)) 0 S := by
        obtain ⟨z1, z2, z3, z4⟩ := a3
        refine ⟨by rw [s1 _ _ (by omega) (by omega) (by omega)]; exact z1, fun i hi => ?_, ?_, ?_⟩
        · rw [s2 _ _ (by omega) (by omega), s2 _ _ (by omega) (by omega), s2 _ _ (by omega) (by omega), s2 _ _ (by omega) (by omega)]; exact z2 i hi
        · rw [s1 _ _ (by omega) (by omega) (by omega)]; exact z3
        · rw [s1 _ _ (by omega) (by omega) (by omega), s1 _ _ (by omega) (by omega) (by omega), s1 _ _ (by omega) (by omega) (by omega), s1 _ _ (by omega) (by omega) (by omega)]; exact z4
      have kT : TWz (upd (σ'.2 0) 3 0) (slw (lawNew (si τ' 0 14 0)) 0 (11 + u) (τ.2.2 7 0)) 0 := by
        refine ⟨⟨0, by omega, by rw [upd_eq]; rfl, by rw [f1 _ _ (by omega), si_eq]; rfl, fun i hi => absurd hi (Nat.not_lt_zero _)⟩, ?_, ?_⟩
        · obtain ⟨w, w1, w2, w3, w4⟩ := t2
          refine ⟨w, w1, by rw [el _ (by omega) (by omega) (by omega)]; exact w2, by rw [s1 _ _ (by omega) (by omega) (by omega)]; exact w3, fun i hi => ?_⟩
          rw [el _ (by omega) (by omega) (by omega), s2 _ _ (by omega) (by omega)]; exact w4 i hi
        · rw [el _ (by omega) (by omega) (by omega), s1 _ _ (by omega) (by omega) (by omega)]; exact t3
      rcases (show u = 0 ∨ u = 1 by omega) with rfl | rfl
      · refine ⟨S, F, F1, a1, kR, kC, kT, l3 rfl, a6, ?_, l2, ?_, ?_⟩
        · have : (slw (lawNew (si τ' 0 14 0)) 0 (11 + 0) (τ.2.2 7 0)).2.2 0 11 = n := g0
          rw [this]; exact l1
        · rw [f3 0 12 (by omega) (by omega) (by omega)]; exact a9.same2 hl2
        · refine a10.cg ?_ (fun i hi => ?_)
          · exact el _ (by omega) (by omega) (by omega)
          · rw [upd_ne _ _ (by omega), er, upd_ne _ _ (by omega)]
            unfold cpT
            rw [if_neg (by omega)]
      · refine ⟨S, F0, F, a1, kR, kC, kT, a5, l4 rfl, ?_, ?_, ?_, l2⟩
        · rw [f3 0 11 (by omega) (by omega) (by omega)]; exact a7.same2 hl2
        · refine a8.cg ?_ (fun i hi => ?_)
          · exact el _ (by omega) (by omega) (by omega)
          · rw [upd_ne _ _ (by omega), er, upd_ne _ _ (by omega)]
            unfold cpT
            rw [if_neg (by omega)]
        · have : (slw (lawNew (si τ' 0 14 0)) 0 (11 + 1) (τ.2.2 7 0)).2.2 0 12 = n := g0
          rw [this]; exact l1
  · unfold N_Q_lawRead
    rw [e34, gd_t (inb_nI (by omega) (by decide)), gd_t (lawsok_eq (τ := τ) e22 hlo), e22]
theorem ag_text (x : Int32) : Agree Inv (N_T_text x) (M_text x) := by
  intro k τ σ hk h
  show AgP k _ _
  unfold N_T_text M_text
  refine chk E1 h (fun c1 c2 => ?_)
  obtain ⟨u, -, hu1, rfl⟩ := in_lit 0 1 (by decide) (by decide) c1 c2
  have hu : u < 2 := by omega
  obtain ⟨S, F0, F1, a1, a2, a3, ⟨⟨t, q1, q2, q3', q4⟩, t2, t3⟩, a5, a6, a7, a8, a9, a10⟩ := id h.1
  have hC : txC (τQ τ u t) u t (τ.2.1 0 13) := τQ_C q1 hu (fun i hi => (q4 i hi).2)
  have hR : txR (σT σ u) u t (τ.2.1 0 13) := σT_R hu q1 q2 (fun i hi => (q4 i hi).1)
  show AgP k (ob (N_Q_faultIn (τ.1 0 14) (nI u) τ) _) (ob (M_moveAll 0 3 σ) fun _ s => M_text_b30 FU (nI u) 0 s)
  rw [q3', fault_e q1, textR_e hu]
  obtain ⟨τ', q, p1, p2, p3, hh⟩ := text_run hC hR
  have pq : q3 τ τ' := (τQ_q3 τ u t).tr (pzC_q3 p1)
  have h2 : τ'.1 3 2 = nI t := by rw [p1.2.1 3 2 (by decide)]; exact hC.2.2.1
  have h5 : τ'.1 3 5 = nI u := by rw [p1.2.1 3 5 (by decide)]; exact hC.2.2.2.1
  rcases hh with ⟨e, P⟩ | ⟨e, W, w1, w2, w3, P⟩
  · obtain ⟨y, σ', m1, m2, m3, m4⟩ := P _ 1 1 1 hR
    rw [e, m1, ob_s, ob_s, if_pos rfl, ob_s, lt_e, lt_e, lt_e, if_pos m3, m4, if_pos rfl, p3, if_neg (nI_pos (by omega))]
    exact text_bad h pq m2
  · obtain ⟨y, σ', cd, m1, m2, m3, m4, m5, m6, m7⟩ := P _ 1 1 1 hR
    rw [e, m1, ob_s, ob_s, if_neg (by decide), p3, h2]
    by_cases c : q = t
    · subst c
      rw [if_pos rfl] at m3
      have m3' : ¬ σ'.1 14 = 0 := by rw [m3]; decide
      obtain ⟨G1, G2⟩ := text_good h hu q1 q2 (fun i hi => (q4 i hi).1) pq h5 m2 w1 w2 w3 (fun σ a b c hr => by
        obtain ⟨y, σ', cd, n1, n2, -, -, n5, n6, n7⟩ := P σ a b c hr
        exact ⟨y, σ', cd, n1, n2, n5, n6, n7⟩) (x := y)
      rw [if_pos rfl, ob_s, lt_e, lt_e, lt_e, if_neg m3', if_pos rfl, if_pos (by decide : (-1 : Int32) < 0), if_neg i10]
      unfold M_text_b129
      rw [lt_e, if_neg i10]
      rcases (show u = 0 ∨ u = 1 by omega) with rfl | rfl
      · rw [if_pos (by decide), G2, ob_s, lt_e]
        exact ⟨_, _, _, rfl, rfl, G1⟩
      · rw [if_neg (by decide), G2, ob_s, lt_e]
        exact ⟨_, _, _, rfl, rfl, G1⟩
    · rw [if_neg c] at m3
      rw [if_neg (fun z => c ((nI_eq (by omega) (by omega)).mp z)), ob_s, lt_e, lt_e, lt_e, if_pos m3, m4, if_pos rfl, if_neg (nI_pos (by omega))]
      exact text_bad h pq m2
theorem Inv_q {k : Nat} {τ τ' : CS} {σ σ' : RS} (h : Inv k τ σ) (hc : ceq τ τ') (hr : req σ σ') : Inv (k + 1) τ' σ' := by
  refine Inv_of h (ceq_c hc) (req_r hr) (lawsok_eq hc.2.1 (Inv_l h)) ?_
  rw [hr.1]
  exact h.1.same (ceq_dsame (by decide) hc) (ceq_lsame hc)
theorem ag_law (x a b c : Int32) : Agree Inv (N_T_law x a b c) (M_law x a b c) := by
  intro k τ σ hk h
  show AgP k _ _
  unfold N_T_law M_law
  refine chk E1 h (fun c1 c2 => ?_)
  obtain ⟨u, -, hu1, rfl⟩ := in_lit 0 1 (by decide) (by decide) c1 c2
  obtain ⟨S, F0, F1, a1, a2, a3, a4, a5, a6, a7, a8, a9, a10⟩ := id h.1
  rcases (show u = 0 ∨ u = 1 by omega) with rfl | rfl
  · obtain ⟨τ', e1, hc⟩ := a7.2 τ ⟨rfl, rfl, rfl, a7.1⟩ a b c
    obtain ⟨σ', e2, hr⟩ := a8 σ ⟨rfl, fun _ _ => rfl⟩ a b c
    rw [if_pos (by decide), gd_t (decide_eq_true a7.1), e1, e2, ob_s, ob_s]
    exact ⟨_, _, _, rfl, rfl, Inv_q h hc hr⟩
  · obtain ⟨τ', e1, hc⟩ := a9.2 τ ⟨rfl, rfl, rfl, a9.1⟩ a b c
    obtain ⟨σ', e2, hr⟩ := a10 σ ⟨rfl, fun _ _ => rfl⟩ a b c
    rw [if_neg (by decide), gd_t (decide_eq_true a9.1), e1, e2, ob_s, ob_s]
    exact ⟨_, _, _, rfl, rfl, Inv_q h hc hr⟩
theorem b01id {v : Int32} (h : v = 0 ∨ v = 1) : (if v = 0 then (0 : Int32) else 1) = v := by
  rcases h with rfl | rfl <;> decide
theorem ag_sign (x z : Int32) : Agree Inv (N_T_sign x z) (M_sign x z) := by
  intro k τ σ hk h
  show AgP k _ _
  unfold N_T_sign M_sign
  refine chk E1 h (fun c1 c2 => chk E1 h (fun c3 c4 => ?_))
  obtain ⟨S, F0, F1, a1, a2, a3, a4, a5, a6, a7, a8, a9, a10⟩ := id h.1
  have h15 : σ.1 15 = 0 := by obtain ⟨-, -, -, -, -, h15, -⟩ := h; exact h15
  have d1 : τ.1 0 7 = S.2.2 0 := a3.2.2.2.1
  have d2 : σ.2 0 0 = S.2.2 0 := a2.2.2.1
  unfold N_S_signOf M_isSigned
  rw [d1, d2, h15, if_pos (by decide), gd_t (decide_eq_true a9.1)]
  obtain ⟨τ', e1, hc⟩ := a9.2 τ ⟨rfl, rfl, rfl, a9.1⟩ x (irm (S.2.2 0 + z) 7) (irm (S.2.2 0 + z) 30)
  obtain ⟨σ', e2, hr⟩ := a10 σ ⟨rfl, fun _ _ => rfl⟩ x (irm (S.2.2 0 + z) 7) (irm (S.2.2 0 + z) 30)
  have e2' : M_lawOf 1 x (irm (S.2.2 0 + z) 7) (irm (S.2.2 0 + z) 30) σ = some (F1 x (irm (S.2.2 0 + z) 7) (irm (S.2.2 0 + z) 30), σ') := e2
  rw [e1, e2', ob_s, ob_s, ob_s, ob_s, b01id (a6 _ _ _), b01id (a6 _ _ _)]
  exact ⟨_, _, _, rfl, rfl, Inv_q h hc hr⟩
