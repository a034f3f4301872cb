/-! image, restore -/
theorem ix50 : ix (50 : Int32) = 50 ∧ ix (20 : Int32) = 20 := by decide
theorem keepG {d e : Nat} (hne : e ≠ d) (τ : CS) : ∃ τK, N_S_keepAllOf d e τ = some (0, τK) ∧ (∀ o f, o ≠ d → τK.1 o f = τ.1 o f) ∧ (∀ o f, o ≠ d → τK.2.1 o f = τ.2.1 o f) ∧ (∀ o f, o ≠ d → τK.2.2 o f = τ.2.2 o f) ∧ (∀ f, (5 ≤ f ∧ f ≤ 10) ∨ f = 14 ∨ f = 16 ∨ f = 17 → τK.1 d f = τ.1 e f) ∧ (∀ f k, 1 ≤ f → f ≤ 4 → k < 12 → τK.2.1 d f k = τ.2.1 e f k) ∧ (∀ k, k < 50 → τK.2.1 d 13 k = τ.2.1 e 13 k) ∧ (∀ k, k < 20 → τK.2.1 d 15 k = τ.2.1 e 15 k) ∧ τK.2.2 d 11 = τ.2.2 e 11 ∧ τK.2.2 d 12 = τ.2.2 e 12 := by
  obtain ⟨τT, e1, k1, k2, k3, k4, k5, k6, k7⟩ := thinkG hne τ
  unfold N_S_keepAllOf
  rw [e1, ob_s]
  simp only [lt_e]
  refine ⟨_, rfl, fun o f ho => ?_, fun o f ho => ?_, fun o f ho => ?_, fun f hf => ?_, fun f k h1 h2 h3 => ?_, fun k hk => ?_, fun k hk => ?_, k6, k7⟩
  · rw [← k1 o f (by omega)]; simp [si, sa, up2, ho]
  · rw [← k3 o f (by omega)]; simp [si, sa, up2, ho]
  · exact k5 o f (by omega)
  · rcases hf with hf | rfl | rfl | rfl
    · have a1 : f ≠ 14 := by omega
      have a2 : f ≠ 16 := by omega
      have a3 : f ≠ 17 := by omega
      rw [← k2 f hf.1 hf.2]; simp [si, sa, up2, a1, a2, a3]
    · rw [← k1 e 14 (by omega)]; simp [si, sa, up2, hne]
    · rw [← k1 e 16 (by omega)]; simp [si, sa, up2, hne]
    · rw [← k1 e 17 (by omega)]; simp [si, sa, up2, hne]
  · have a1 : f ≠ 13 := by omega
    have a2 : f ≠ 15 := by omega
    rw [← k4 f k h1 h2 h3]; simp [si, sa, up2, a1, a2]
  · rw [← k3 e 13 (by omega)]; simp [si, sa, up2, hne, va_cpy, ix12, ix50, hk]
  · rw [← k3 e 15 (by omega)]; simp [si, sa, up2, hne, va_cpy, ix12, ix50, hk]
theorem keep_K {d e : Nat} {τ τK : CS} {row : Nat → Int32} (hd : d < 8) (h : Kept row τ e) (g1 : ∀ o f, o ≠ d → τK.1 o f = τ.1 o f) (g2 : ∀ o f, o ≠ d → τK.2.1 o f = τ.2.1 o f) (g3 : ∀ o f, o ≠ d → τK.2.2 o f = τ.2.2 o f) (hd7 : d ≠ 7) (k1 : ∀ f, (5 ≤ f ∧ f ≤ 10) ∨ f = 14 ∨ f = 16 ∨ f = 17 → τK.1 d f = τ.1 e f) (k2 : ∀ f k, 1 ≤ f → f ≤ 4 → k < 12 → τK.2.1 d f k = τ.2.1 e f k) (k3 : ∀ k, k < 50 → τK.2.1 d 13 k = τ.2.1 e 13 k) (k4 : ∀ k, k < 20 → τK.2.1 d 15 k = τ.2.1 e 15 k) (k5 : τK.2.2 d 11 = τ.2.2 e 11) (k6 : τK.2.2 d 12 = τ.2.2 e 12) : Kept row τK d := by
  obtain ⟨S, F0, F1, a1, a2, a3, ⟨⟨t, q1, q2, q3, q4⟩, ⟨v, v1, v2, v3, v4⟩, t3⟩, a5, a6, a7, a8, a9, a10⟩ := h
  have hl : lsame τ τK := ⟨fun j => ⟨g1 _ _ (by omega), g2 _ _ (by omega), g3 _ _ (by omega)⟩, g3 _ _ (by omega)⟩
  refine ⟨S, F0, F1, a1, a2, thinkG_C a1.1 a3 (fun f x y => k1 f (Or.inl ⟨x, y⟩)) k2, ⟨⟨t, q1, q2, ?_, fun i hi => ?_⟩, ⟨v, v1, v2, ?_, fun i hi => ?_⟩, ?_⟩, a5, a6, by rw [k5]; exact a7.same hl, a8, by rw [k6]; exact a9.same hl, a10⟩
  · rw [k1 14 (by omega)]; exact q3
  · rw [k3 i (by omega)]; exact q4 i hi
  · rw [k1 16 (by omega)]; exact v3
  · rw [k4 i (by omega)]; exact v4 i hi
  · rw [k1 17 (by omega)]; exact t3
theorem ag_image : Agree Inv (N_T_image) (M_image) := by
  intro k τ σ hk h
  show AgP k _ _
  obtain ⟨τK, e, g1, g2, g3, k1, k2, k3, k4, k5, k6⟩ := keepG (d := 2) (e := 0) (by decide) τ
  obtain ⟨h1, ⟨i, hi, b1, b2, b3, b4⟩, h3, h4, h5, h6, h7, n, hn, hn2⟩ := id h
  have hK2 : Kept (σ.2 0) τK 2 := keep_K (by decide) h1 g1 g2 g3 (by decide) k1 k2 k3 k4 k5 k6
  have e9 : τK.1 5 9 = nI i := (g1 5 9 (by decide)).trans b1
  unfold N_T_image M_image M_moveAll
  rw [e, ob_s, ob_s, lt_e, lt_e, lt_e]
  have x1 : (ri (ra σ 1 (mcp (σ.2 0) (σ.2 1) 240)) 4 1).1 5 = nI i := by rw [ri_ne _ _ (by decide)]; exact b2
  rw [e9, x1, nI_1, si_eq, ri_eq]
  refine ⟨_, _, _, rfl, rfl, ?_, ⟨i + 1, by omega, si_eq _ _ _ _, ri_eq _ _ _, ?_, fun _ => ?_⟩, ?_, ?_, ?_, ?_, ?_, n, by omega, ?_⟩
  · have ds : dsame 0 τ τK := ⟨fun f => g1 _ _ (by decide), fun f => g2 _ _ (by decide), fun f => g3 _ _ (by decide)⟩
    have ls : lsame τ τK := ⟨fun j => ⟨g1 _ _ (by omega), g2 _ _ (by omega), g3 _ _ (by omega)⟩, g3 _ _ (by omega)⟩
    have : (ri (ri (ra σ 1 (mcp (σ.2 0) (σ.2 1) 240)) 4 1) 5 (nI (i + 1))).2 0 = σ.2 0 := ra_ne σ (f := 1) (g := 0) (mcp (σ.2 0) (σ.2 1) 240) (by decide)
    rw [this]
    exact (h1.same ds ls).same (dsame_si (by decide)) (lsame_si (by decide))
  · rw [ri_ne _ _ (by decide), ri_eq, if_neg (by omega)]
  · have : (ri (ri (ra σ 1 (mcp (σ.2 0) (σ.2 1) 240)) 4 1) 5 (nI (i + 1))).2 1 = mcp (σ.2 0) (σ.2 1) 240 := ra_eq σ 1 (mcp (σ.2 0) (σ.2 1) 240)
    rw [this]
    exact (Kept.rcg (fun j hj => mcp_lt hj) hK2).same (dsame_si (by decide)) (lsame_si (by decide))
  · unfold Shts at h3 ⊢
    have a6 : (si τK 5 9 (nI (i + 1))).2.1 5 = τ.2.1 5 := funext fun f => g2 5 f (by decide)
    have a7 : (si τK 5 9 (nI (i + 1))).2.1 6 = τ.2.1 6 := funext fun f => g2 6 f (by decide)
    have c : ∀ f, f ≠ 1 → (ri (ri (ra σ 1 (mcp (σ.2 0) (σ.2 1) 240)) 4 1) 5 (nI (i + 1))).2 f = σ.2 f := fun f hf => ra_ne σ (f := 1) (mcp (σ.2 0) (σ.2 1) 240) hf
    rw [a6, a7, c 16 (by decide), c 17 (by decide), c 18 (by decide)]
    exact h3
  · unfold Trc at h4 ⊢
    have a1 : (si τK 5 9 (nI (i + 1))).1 4 1 = τ.1 4 1 := (si_o _ _ (by decide)).trans (g1 4 1 (by decide))
    have a2 : (si τK 5 9 (nI (i + 1))).2.1 4 0 = τ.2.1 4 0 := g2 4 0 (by decide)
    have a3 : (ri (ri (ra σ 1 (mcp (σ.2 0) (σ.2 1) 240)) 4 1) 5 (nI (i + 1))).1 21 = σ.1 21 := by rw [ri_ne _ _ (by decide), ri_ne _ _ (by decide)]; rfl
    have c : (ri (ri (ra σ 1 (mcp (σ.2 0) (σ.2 1) 240)) 4 1) 5 (nI (i + 1))).2 20 = σ.2 20 := ra_ne σ (f := 1) (g := 20) (mcp (σ.2 0) (σ.2 1) 240) (by decide)
    rw [a1, a2, a3, c]
    exact h4
  · intro j hj
    have a2 : (si τK 5 9 (nI (i + 1))).2.1 5 8 = τ.2.1 5 8 := g2 5 8 (by decide)
    have c : (ri (ri (ra σ 1 (mcp (σ.2 0) (σ.2 1) 240)) 4 1) 5 (nI (i + 1))).2 6 = σ.2 6 := ra_ne σ (f := 1) (g := 6) (mcp (σ.2 0) (σ.2 1) 240) (by decide)
    rw [a2, c]
    exact h5 j hj
  · rw [ri_ne _ _ (by decide), ri_ne _ _ (by decide)]; exact h6
  · have hok := lawsok_iff.mp h7
    refine lawsok_iff.mpr (fun d hd => ?_)
    have a : (si τK 5 9 (nI (i + 1))).2.2 7 0 = τ.2.2 7 0 := g3 7 0 (by decide)
    rw [a]
    by_cases c : d = 2
    · subst c
      have b1 : (si τK 5 9 (nI (i + 1))).2.2 2 11 = τ.2.2 0 11 := k5
      have b2 : (si τK 5 9 (nI (i + 1))).2.2 2 12 = τ.2.2 0 12 := k6
      rw [b1, b2]; exact hok 0 (by omega)
    · have b1 : (si τK 5 9 (nI (i + 1))).2.2 d 11 = τ.2.2 d 11 := g3 d 11 c
      have b2 : (si τK 5 9 (nI (i + 1))).2.2 d 12 = τ.2.2 d 12 := g3 d 12 c
      rw [b1, b2]; exact hok d hd
  · exact (g3 7 0 (by decide)).trans hn2
theorem ag_restore : Agree Inv (N_T_restore) (M_restore) := by
  intro k τ σ hk h
  show AgP k _ _
  obtain ⟨h1, ⟨i, hi, b1, b2, b3, b4⟩, h3, h4, h5, h6, h7, n, hn, hn2⟩ := id h
  unfold N_T_restore M_restore
  rw [b1, b3]
  by_cases c : i = 0
  · subst c
    rw [if_pos (by decide : nI 0 = 0), if_pos (by decide)]
    exact err2 E2 h
  · rw [if_neg (nI_ne0 (by omega) (by omega)), if_neg c, if_neg i10]
    obtain ⟨τK, e, g1, g2, g3, k1, k2, k3, k4, k5, k6⟩ := keepG (d := 0) (e := 2) (by decide) τ
    have hK : Kept (σ.2 1) τK 0 := keep_K (by decide) (b4 c) g1 g2 g3 (by decide) k1 k2 k3 k4 k5 k6
    unfold M_moveAll
    rw [e, ob_s, ob_s, ra_eq]
    have hK' : Kept (mcp (σ.2 1) (σ.2 0) 240) τK 0 := Kept.rcg (fun j hj => mcp_lt hj) hK
    obtain ⟨S, -, -, a1, a2, a3, -⟩ := id hK'
    have d1 : τK.1 0 7 = S.2.2 0 := a3.2.2.2.1
    have d2 : mcp (σ.2 1) (σ.2 0) 240 0 = S.2.2 0 := a2.2.2.1
    refine ⟨_, _, _, rfl, by rw [d1, d2], ?_⟩
    refine Inv_of h ⟨fun o f a b => g1 o f (by omega), fun o f a b c => g2 o f (by omega), fun o f a => g3 o f (by omega)⟩ (rs_ra (by omega)) ?_ (by rw [ra_eq]; exact hK')
    have hok := lawsok_iff.mp h7
    refine lawsok_iff.mpr (fun d hd => ?_)
    rw [g3 7 0 (by decide)]
    by_cases c : d = 0
    · subst c
      rw [k5, k6]; exact hok 2 (by omega)
    · rw [g3 d 11 c, g3 d 12 c]; exact hok d hd
