/-! numbers, rows; the first calls -/
theorem inb_nI {j n : Nat} (h : j < n) (hn : n < 2 ^ 31) : inb (nI j) n = true := by
  have h1 := vp_in_nI (n := j) (N := n) h hn
  unfold vp_in at h1
  unfold inb
  simpa using h1
theorem ix_nI {j : Nat} (h : j < 2 ^ 31) : ix (nI j) = j := nI_clamp h
theorem in_ne {x lo hi : Int32} (h : ¬ (if x < lo then (0 : Int32) else if hi < x then 0 else 1) = 0) : ¬ x < lo ∧ ¬ hi < x := by
  by_cases a : x < lo
  · rw [if_pos a] at h; exact absurd rfl h
  · rw [if_neg a] at h
    by_cases b : hi < x
    · rw [if_pos b] at h; exact absurd rfl h
    · exact ⟨a, b⟩
theorem in_lit {x : Int32} (a b : Nat) (hb : b < 2 ^ 31) (hab : a ≤ b) (c1 : ¬ x < nI a) (c2 : ¬ nI b < x) : ∃ j : Nat, a ≤ j ∧ j ≤ b ∧ x = nI j := by
  rw [Int32.lt_iff_toInt_lt, nI_toInt (by omega)] at c1
  rw [Int32.lt_iff_toInt_lt, nI_toInt hb] at c2
  have c0 : ¬ x < 0 := by
    rw [Int32.lt_iff_toInt_lt, Int32.toInt_zero]
    omega
  obtain ⟨j, hj, rfl⟩ := nI_of c0
  rw [nI_toInt hj] at c1 c2
  exact ⟨j, by omega, by omega, rfl⟩
theorem in_cnt {x : Int32} {n : Nat} (hn : n < 2 ^ 30) (c1 : ¬ x < 0) (c2 : ¬ (nI n - 1) < x) : ∃ j : Nat, j < n ∧ x = nI j := by
  obtain ⟨j, hj, rfl⟩ := nI_of c1
  rw [Int32.lt_iff_toInt_lt, nI_toInt hj] at c2
  have e : (nI n - nI 1).toInt = (n : Int) - 1 := pk_sub_toInt (by omega) (by omega)
  have c3 : ¬ (nI n - nI 1).toInt < (j : Int) := c2
  rw [e] at c3
  exact ⟨j, by omega, rfl⟩
theorem ra_eq (σ : RS) (f : Nat) (h : Nat → Int32) : (ra σ f h).2 f = h := by simp [ra, va_up]
theorem ra_ne (σ : RS) {f g : Nat} (h : Nat → Int32) (hn : g ≠ f) : (ra σ f h).2 g = σ.2 g := by simp [ra, va_up, hn]
theorem upd_eq (f : Nat → Int32) (k : Nat) (x : Int32) : upd f k x k = x := by simp [upd]
theorem upd_ne (f : Nat → Int32) {k j : Nat} (x : Int32) (h : j ≠ k) : upd f k x j = f j := by simp [upd, h]
theorem LawR.cg {row row' : Nat → Int32} {u : Nat} {F : LF} (h : LawR row u F) (h1 : row' (5 + u) = row (5 + u)) (h2 : ∀ i, i < 50 → row' (140 + 50 * u + i) = row (140 + 50 * u + i)) : LawR row' u F := by
  intro σ ⟨a, b⟩
  exact h σ ⟨a.trans h1, fun i hi => (b i hi).trans (h2 i hi)⟩
/-- a row's changed number lies where no street, no text is -/
theorem LawR.up {row : Nat → Int32} {u i : Nat} {v : Int32} {F : LF} (h : LawR row u F) (hu : u < 2) (hi : i < 5 ∨ (6 < i ∧ i < 140)) : LawR (upd row i v) u F := h.cg (upd_ne _ _ (by omega)) (fun j hj => upd_ne _ _ (by omega))
theorem RRow.up {row : Nat → Int32} {S : SP} {i : Nat} {v : Int32} (h : RRow row S) (hS : S.1 ≤ 12) (hi : i = 1 ∨ (2 < i ∧ i < 7) ∨ 70 ≤ i) : RRow (upd row i v) S := by
  obtain ⟨a, b, c1, c2, c3, c4⟩ := h
  refine ⟨by rw [upd_ne _ _ (by omega)]; exact a, fun k hk f hf => by rw [upd_ne _ _ (by omega)]; exact b k hk f hf, ?_, ?_, ?_, ?_⟩
  · rw [upd_ne _ _ (by omega)]; exact c1
  · rw [upd_ne _ _ (by omega)]; exact c2
  · rw [upd_ne _ _ (by omega)]; exact c3
  · rw [upd_ne _ _ (by omega)]; exact c4
theorem ag_told (x : Int32) : Agree Inv (N_T_told x) (M_told x) := by
  intro k τ σ hk h
  unfold N_T_told M_told N_T_within M_in
  rw [ob_s, ob_s]
  by_cases c : (if x < 1 then (0 : Int32) else if 5 < x then 0 else 1) = 0
  · rw [if_pos c, if_pos c]; exact err2 E1 h
  · rw [if_neg c, if_neg c]
    obtain ⟨c1, c2⟩ := in_ne c
    obtain ⟨j, h1, h2, rfl⟩ := in_lit 1 5 (by decide) (by decide) c1 c2
    have hb : inb (nI j) 6 = true := inb_nI (by omega) (by decide)
    rw [gd_t hb, gd_t hb]
    refine ⟨_, _, _, rfl, ?_, Inv_mono _ _ _ h⟩
    obtain ⟨-, -, -, -, h5, -⟩ := h
    rw [ix_nI (by omega), h5 j (by omega)]
theorem ag_trace (x : Int32) : Agree Inv (N_T_trace x) (M_trace x) := by
  intro k τ σ hk h
  obtain ⟨-, -, -, ⟨n, hn, t1, t2, t3⟩, -⟩ := id h
  unfold N_T_trace M_trace N_T_within M_in
  rw [ob_s, ob_s, t1, t2]
  by_cases c : (if x < 0 then (0 : Int32) else if nI n - 1 < x then 0 else 1) = 0
  · rw [if_pos c, if_pos c]; exact err2 E2 h
  · rw [if_neg c, if_neg c]
    obtain ⟨c1, c2⟩ := in_ne c
    obtain ⟨j, h1, rfl⟩ := in_cnt (by omega) c1 c2
    have hb : inb (nI j) 40 = true := inb_nI (by omega) (by decide)
    rw [gd_t hb, gd_t hb]
    refine ⟨_, _, _, rfl, ?_, Inv_mono _ _ _ h⟩
    rw [ix_nI (by omega), t3 j h1]
theorem ag_seed (x : Int32) : Agree Inv (N_T_seed x) (M_seed x) := by
  intro k τ σ hk h
  obtain ⟨⟨S, F0, F1, a1, a2, a3, ⟨t1, t2, t3⟩, a5, a6, a7, a8, a9, a10⟩, ⟨i, hi, b1, b2, b3, b4⟩, h3, h4, h5, h6, h7, n, hn, hn2⟩ := h
  unfold N_T_seed M_seed
  rw [lt_e, lt_e, lt_e, lt_e]
  refine ⟨_, _, _, rfl, by rw [t3], ?_⟩
  have e0 : (ra σ 0 (upd (σ.2 0) 1 x)).2 0 = upd (σ.2 0) 1 x := ra_eq _ _ _
  have e1 : (ra σ 0 (upd (σ.2 0) 1 x)).2 1 = σ.2 1 := ra_ne _ _ (by decide)
  have hs : ∀ f, f ≠ 17 → (si τ 0 17 x).1 0 f = τ.1 0 f := fun f hf => by simp [si, up2, hf]
  refine ⟨?_, ⟨i, by omega, b1, b2, b3, fun q => ?_⟩, h3, h4, h5, h6, h7, n, by omega, hn2⟩
  · rw [e0]
    refine ⟨S, F0, F1, a1, a2.up a1.1 (by omega), ?_, ⟨?_, ?_, ?_⟩, a5, a6, a7.same (lsame_si (by decide)), a8.up (by decide) (by omega), a9.same (lsame_si (by decide)), a10.up (by decide) (by omega)⟩
    · obtain ⟨s1, s2, s3, s4⟩ := a3
      refine ⟨by rw [hs _ (by decide)]; exact s1, s2, by rw [hs _ (by decide)]; exact s3, ?_⟩
      rw [hs _ (by decide), hs _ (by decide), hs _ (by decide), hs _ (by decide)]
      exact s4
    · obtain ⟨t, q1, q2, q3, q4⟩ := t1
      exact ⟨t, q1, by rw [upd_ne _ _ (by decide)]; exact q2, by rw [hs _ (by decide)]; exact q3, fun j hj => by rw [upd_ne _ _ (by omega)]; exact q4 j hj⟩
    · obtain ⟨t, q1, q2, q3, q4⟩ := t2
      exact ⟨t, q1, by rw [upd_ne _ _ (by decide)]; exact q2, by rw [hs _ (by decide)]; exact q3, fun j hj => by rw [upd_ne _ _ (by omega)]; exact q4 j hj⟩
    · rw [upd_eq]
      simp [si, up2]
  · rw [e1]
    exact (b4 q).same (dsame_si (by decide)) (lsame_si (by decide))
