theorem irm_e {a d : Nat} (ha : a < 2 ^ 31) (h0 : 0 < d) (hd : d < 2 ^ 31) : irm (nI a) (nI d) = nI (a % d) := by
  unfold irm
  exact pk_rem ha h0 hd
theorem rng_nI {a : Nat} {b : Nat} (h : a ≤ b) (hb : b < 2 ^ 31) : rng (nI a) 0 b := by
  unfold rng
  rw [nI_toInt (by omega)]
  omega
theorem upd_comm (f : Nat → Int32) {a b : Nat} (x y : Int32) (h : a ≠ b) : upd (upd f a x) b y = upd (upd f b y) a x := by
  funext j
  unfold upd
  by_cases c : j = a
  · subst c
    have : ¬ j = b := h
    simp [this]
  · simp [c]
/-- street 0's count on both sides -/
theorem Inv_n {k : Nat} {τ : CS} {σ : RS} (h : Inv k τ σ) : ∃ S : SP, S.1 ≤ 12 ∧ RRow (σ.2 0) S ∧ CStr τ 0 S ∧ SPok S 9999 ∧ σ.2 0 2 = nI S.1 ∧ τ.1 0 5 = nI S.1 := by
  obtain ⟨⟨S, F0, F1, a1, a2, a3, -⟩, -⟩ := h
  exact ⟨S, a1.1, a2, a3, a1, a2.1, a3.1⟩
theorem Inv_l {k : Nat} {τ : CS} {σ : RS} (h : Inv k τ σ) : lawsok τ = true := by
  obtain ⟨-, -, -, -, -, -, h7, -⟩ := h
  exact h7
theorem yr0 {q : Nat} (h : q < 7) : yrng 0 (nI q) := by
  unfold yrng
  exact ⟨fun _ => ⟨q, h, rfl⟩, fun w => absurd w (by decide), fun w => absurd w (by decide), fun w => absurd w (by decide)⟩
theorem yr1 {v : Int32} (h : rng v 0 9) : yrng 1 v := by
  unfold yrng
  exact ⟨fun w => absurd w (by decide), fun _ => h, fun w => absurd w (by decide), fun w => absurd w (by decide)⟩
theorem yr2 {v : Int32} (h : rng v 0 999) : yrng 2 v := by
  unfold yrng
  exact ⟨fun w => absurd w (by decide), fun w => absurd w (by decide), fun _ => h, fun w => absurd w (by decide)⟩
theorem yr4 {v : Int32} (h : rng v 0 99) : yrng 4 v := by
  unfold yrng
  exact ⟨fun w => absurd w (by decide), fun w => absurd w (by decide), fun w => absurd w (by decide), fun _ => h⟩
theorem ag_become (x z : Int32) : Agree Inv (N_T_become x z) (M_become x z) := by
  intro k τ σ hk h
  obtain ⟨S, hS, hr, hc, hok, n1, n2⟩ := Inv_n h
  unfold N_T_become M_become N_T_within M_in
  rw [has_e, isYard_e]
  simp only [ob_s]
  rw [n1, n2]
  by_cases c : (if x < 0 then (0 : Int32) else if nI S.1 - 1 < x then 0 else 1) = 0
  · rw [if_pos c, if_pos c]; exact err2 E1 h
  rw [if_neg c, if_neg c]
  obtain ⟨c1, c2⟩ := in_ne c
  obtain ⟨j, hj, rfl⟩ := in_cnt (by omega) c1 c2
  by_cases e : (if z < 0 then (0 : Int32) else if 69 < z then 0 else 1) = 0
  · rw [if_pos e, if_pos e]; exact err2 E1 h
  rw [if_neg e, if_neg e]
  obtain ⟨e1, e2⟩ := in_ne e
  obtain ⟨q, -, hq, rfl⟩ := in_lit 0 69 (by decide) (by decide) e1 e2
  have hb : inb (nI j) 12 = true := inb_nI (by omega) (by decide)
  have hd : nI q / (10 : Int32) = nI (q / 10) := pk_div (by omega) (by decide) (by decide)
  have hm : irm (nI q) (10 : Int32) = nI (q % 10) := irm_e (by omega) (by decide) (by decide)
  unfold N_S_shape M_becomes
  rw [hd, hm, gd_t hb, lt_e, gd_t hb, lt_e, gd_t hb, lt_e, ix_nI (by omega), ob_s]
  rw [show (1 : Int32) = nI 1 from rfl, gets_e (by omega) (by decide), ob_s]
  have hi : (10 : Int32) + (5 : Int32) * nI j = nI (10 + 5 * j) := by rw [show (10 : Int32) = nI 10 from rfl, show (5 : Int32) = nI 5 from rfl, pk_mul, nI_add]
  rw [hi, gd_t (inb_nI (by omega) (by decide)), lt_e, gd_t (inb_nI (by omega) (by decide)), lt_e, ix_nI (by omega), ob_s]
  refine ⟨_, _, ra (ra σ 0 (upd (σ.2 0) (10 + 5 * j + 1) (nI (q % 10)))) 0 (upd ((ra σ 0 (upd (σ.2 0) (10 + 5 * j + 1) (nI (q % 10)))).2 0) (10 + 5 * j) (nI (q / 10))), rfl, ?_, ?_⟩
  · have e7 : σ.2 0 (10 + 5 * j) = S.2.1 0 j := hr.2.1 j hj 0 (by decide)
    rw [ra_eq, upd_ne _ _ (by omega), e7, (hc.2.1 j hj).1]
  · refine Inv_of h ((cs_sa (by omega)).tr (cs_sa (by omega))) ((rs_ra (by omega)).tr (rs_ra (by omega))) (lawsok_eq (τ := τ) rfl (Inv_l h)) ?_
    rw [ra_eq, ra_eq]
    have k1 := Kept_y (f := 0) (v := nI (q / 10)) hS hr hj (Or.inl rfl) (yr0 (by omega)) h.1
    obtain ⟨S1, -, -, g1, g2, -⟩ := id k1
    have e5 : S1.1 = S.1 := by
      have h5 := g2.1
      rw [upd_ne _ _ (by omega), n1] at h5
      exact ((nI_eq (by omega) (by have := g1.1; omega)).mp h5).symm
    have k2 := Kept_y (f := 1) (v := nI (q % 10)) g1.1 g2 (by rw [e5]; exact hj) (Or.inr (Or.inl rfl)) (yr1 (rng_nI (b := 9) (by omega) (by decide))) k1
    rw [upd_comm _ _ _ (by omega)] at k2
    exact k2
theorem ag_tell (x : Int32) : Agree Inv (N_T_tell x) (M_tell x) := by
  intro k τ σ hk h
  obtain ⟨⟨S, F0, F1, a1, a2, a3, ⟨t1, ⟨w, w1, w2, w3, w4⟩, t3⟩, a5, a6, a7, a8, a9, a10⟩, -⟩ := id h
  unfold N_T_tell M_tell
  rw [w2, w3]
  by_cases c : w = 20
  · subst c
    rw [if_neg (by decide), if_pos (by decide)]
    exact err2 E4 h
  · have hlt : nI w < (20 : Int32) := (nI_ltI (by omega) (by decide : 20 < 2 ^ 31)).mpr (by omega)
    have hne : ¬ nI w = (20 : Int32) := fun q => c ((nI_eq (by omega) (by decide : 20 < 2 ^ 31)).mp q)
    rw [if_pos hlt, if_neg hne, gd_t (inb_nI (by omega) (by decide)), lt_e, lt_e, ix_nI (by omega)]
    have hi : (120 : Int32) + nI w = nI (120 + w) := by rw [show (120 : Int32) = nI 120 from rfl, nI_add]
    rw [hi, gd_t (inb_nI (by omega) (by decide)), lt_e, lt_e, ix_nI (by omega)]
    have e1 : (sa τ 0 15 (upd (τ.2.1 0 15) w x)).1 0 16 = nI w := w3
    have e2 : (ra σ 0 (upd (σ.2 0) (120 + w) x)).2 0 4 = nI w := by rw [ra_eq, upd_ne _ _ (by omega)]; exact w2
    rw [e1, e2, nI_1]
    refine ⟨nI (w + 1), si (sa τ 0 15 (upd (τ.2.1 0 15) w x)) 0 16 (nI (w + 1)), ra (ra σ 0 (upd (σ.2 0) (120 + w) x)) 0 (upd ((ra σ 0 (upd (σ.2 0) (120 + w) x)).2 0) 4 (nI (w + 1))), ?_, ?_, ?_⟩
    · rw [show (si (sa τ 0 15 (upd (τ.2.1 0 15) w x)) 0 16 (nI (w + 1))).1 0 16 = nI (w + 1) by simp [si, up2]]
    · rw [ra_eq, upd_eq]
    · refine Inv_of h ((cs_sa (by omega)).tr (cs_si (by omega))) ((rs_ra (by omega)).tr (rs_ra (by omega))) (lawsok_eq (τ := τ) rfl (Inv_l h)) ?_
      rw [ra_eq, ra_eq]
      have hl : lsame τ (si (sa τ 0 15 (upd (τ.2.1 0 15) w x)) 0 16 (nI (w + 1))) := (lsame_sa (by decide)).tr (lsame_si (by decide))
      have hs : ∀ f, f ≠ 16 → (si (sa τ 0 15 (upd (τ.2.1 0 15) w x)) 0 16 (nI (w + 1))).1 0 f = τ.1 0 f := fun f hf => by simp [si, sa, up2, hf]
      have ht : ∀ f, f ≠ 15 → (si (sa τ 0 15 (upd (τ.2.1 0 15) w x)) 0 16 (nI (w + 1))).2.1 0 f = τ.2.1 0 f := fun f hf => by simp [si, sa, up2, hf]
      have hS := a1.1
      refine ⟨S, F0, F1, a1, (a2.up hS (by omega)).up hS (by omega), ?_, ⟨?_, ?_, ?_⟩, a5, a6, a7.same hl, (a8.up (by decide) (by omega)).up (by decide) (by omega), a9.same hl, (a10.up (by decide) (by omega)).up (by decide) (by omega)⟩
      · obtain ⟨s1, s2, s3, s4⟩ := a3
        refine ⟨by rw [hs _ (by decide)]; exact s1, fun j hj => ?_, by rw [hs _ (by decide)]; exact s3, ?_⟩
        · rw [ht _ (by decide), ht _ (by decide), ht _ (by decide), ht _ (by decide)]; exact s2 j hj
        · rw [hs _ (by decide), hs _ (by decide), hs _ (by decide), hs _ (by decide)]; exact s4
      · obtain ⟨t, q1, q2, q3, q4⟩ := t1
        refine ⟨t, q1, ?_, by rw [hs _ (by decide)]; exact q3, fun j hj => ?_⟩
        · rw [upd_ne _ _ (by omega), upd_ne _ _ (by omega)]; exact q2
        · rw [upd_ne _ _ (by omega), upd_ne _ _ (by omega), ht _ (by decide)]; exact q4 j hj
      · refine ⟨w + 1, by omega, by rw [upd_eq], by simp [si, up2], fun j hj => ?_⟩
        have e9 : (si (sa τ 0 15 (upd (τ.2.1 0 15) w x)) 0 16 (nI (w + 1))).2.1 0 15 = upd (τ.2.1 0 15) w x := by simp [si, sa, up2]
        rw [e9, upd_ne _ _ (by omega)]
        by_cases c5 : j = w
        · subst c5; rw [upd_eq, upd_eq]
        · rw [upd_ne _ _ (by omega), upd_ne _ _ c5]; exact w4 j (by omega)
      · rw [upd_ne _ _ (by omega), upd_ne _ _ (by omega), hs _ (by decide)]; exact t3
