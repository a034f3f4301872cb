/-! odds -/
def cpP : Nat → Int32 → Int32 → Int32 → Option Int32
  | 0, _, _, _ => none
  | n + 1, x0, x1, x2 => if x2 ≤ 1 then some 1 else if nz x2 = true then (if irm x0 x2 = 0 then (if irm x1 x2 = 0 then some x2 else cpP n x0 x1 (x2 + -1)) else cpP n x0 x1 (x2 + -1)) else none
theorem cpP_e : ∀ (n : Nat) (x0 x1 x2 v : Int32) (τ : CS), cpP n x0 x1 x2 = some v → N_T_commonPart_b2 n x0 x1 x2 τ = some (v, τ) := by
  intro n
  induction n with
  | zero => intro x0 x1 x2 v τ h; cases h
  | succ n ih =>
    intro x0 x1 x2 v τ h
    have h' : (if x2 ≤ 1 then some 1 else if nz x2 = true then (if irm x0 x2 = 0 then (if irm x1 x2 = 0 then some x2 else cpP n x0 x1 (x2 + -1)) else cpP n x0 x1 (x2 + -1)) else none) = some v := h
    rw [N_T_commonPart_b2]
    unfold N_T_commonPart_b21
    by_cases c1 : x2 ≤ 1
    · rw [if_pos c1] at h' ⊢
      cases h'; rfl
    · rw [if_neg c1] at h' ⊢
      by_cases c2 : nz x2 = true
      · rw [if_pos c2] at h'
        rw [gd_t c2]
        by_cases c3 : irm x0 x2 = 0
        · rw [if_pos c3] at h' ⊢
          rw [gd_t c2]
          by_cases c4 : irm x1 x2 = 0
          · rw [if_pos c4] at h' ⊢
            cases h'; rfl
          · rw [if_neg c4] at h' ⊢
            exact ih _ _ _ _ _ h'
        · rw [if_neg c3] at h' ⊢
          exact ih _ _ _ _ _ h'
      · rw [if_neg c2] at h'
        cases h'
def dvP : Nat → Int32 → Int32 → Option Int32
  | 0, _, _ => none
  | n + 1, x2, x3 => if x3 = 0 then some x2 else if nz x3 = true then dvP n x3 (irm x2 x3) else none
theorem dvP_e : ∀ (n : Nat) (x2 x3 v : Int32) (σ : RS), dvP n x2 x3 = some v → M_divisor_b4 n x2 x3 σ = some (v, σ) := by
  intro n
  induction n with
  | zero => intro x2 x3 v σ h; cases h
  | succ n ih =>
    intro x2 x3 v σ h
    have h' : (if x3 = 0 then some x2 else if nz x3 = true then dvP n x3 (irm x2 x3) else none) = some v := h
    rw [M_divisor_b4]
    by_cases c1 : x3 = 0
    · rw [if_pos c1] at h' ⊢
      cases h'; rfl
    · rw [if_neg c1] at h' ⊢
      by_cases c2 : nz x3 = true
      · rw [if_pos c2] at h'
        rw [gd_t c2, lt_e]
        exact ih _ _ _ _ h'
      · rw [if_neg c2] at h'
        cases h'
theorem cp_tab : ∀ q : Nat, q < 11 → cpP 12 (nI q) 10 10 = some (nI (Nat.gcd q 10)) ∧ dvP 12 (nI q) 10 = some (nI (Nat.gcd q 10)) ∧ nz (nI (Nat.gcd q 10)) = true := by decide +kernel
theorem cpP_mono : ∀ (n : Nat) (x0 x1 x2 v : Int32) (m : Nat), cpP n x0 x1 x2 = some v → cpP (n + m) x0 x1 x2 = some v := by
  intro n
  induction n with
  | zero => intro x0 x1 x2 v m h; cases h
  | succ n ih =>
    intro x0 x1 x2 v m h
    have h' : (if x2 ≤ 1 then some 1 else if nz x2 = true then (if irm x0 x2 = 0 then (if irm x1 x2 = 0 then some x2 else cpP n x0 x1 (x2 + -1)) else cpP n x0 x1 (x2 + -1)) else none) = some v := h
    rw [show n + 1 + m = (n + m) + 1 by omega]
    show (if x2 ≤ 1 then some 1 else if nz x2 = true then (if irm x0 x2 = 0 then (if irm x1 x2 = 0 then some x2 else cpP (n + m) x0 x1 (x2 + -1)) else cpP (n + m) x0 x1 (x2 + -1)) else none) = some v
    by_cases c1 : x2 ≤ 1
    · rw [if_pos c1] at h' ⊢; exact h'
    · rw [if_neg c1] at h' ⊢
      by_cases c2 : nz x2 = true
      · rw [if_pos c2] at h' ⊢
        by_cases c3 : irm x0 x2 = 0
        · rw [if_pos c3] at h' ⊢
          by_cases c4 : irm x1 x2 = 0
          · rw [if_pos c4] at h' ⊢; exact h'
          · rw [if_neg c4] at h' ⊢; exact ih _ _ _ _ _ h'
        · rw [if_neg c3] at h' ⊢; exact ih _ _ _ _ _ h'
      · rw [if_neg c2] at h' ⊢; exact h'
theorem dvP_mono : ∀ (n : Nat) (x2 x3 v : Int32) (m : Nat), dvP n x2 x3 = some v → dvP (n + m) x2 x3 = some v := by
  intro n
  induction n with
  | zero => intro x2 x3 v m h; cases h
  | succ n ih =>
    intro x2 x3 v m h
    have h' : (if x3 = 0 then some x2 else if nz x3 = true then dvP n x3 (irm x2 x3) else none) = some v := h
    rw [show n + 1 + m = (n + m) + 1 by omega]
    show (if x3 = 0 then some x2 else if nz x3 = true then dvP (n + m) x3 (irm x2 x3) else none) = some v
    by_cases c1 : x3 = 0
    · rw [if_pos c1] at h' ⊢; exact h'
    · rw [if_neg c1] at h' ⊢
      by_cases c2 : nz x3 = true
      · rw [if_pos c2] at h' ⊢; exact ih _ _ _ _ h'
      · rw [if_neg c2] at h' ⊢; exact h'
theorem common_e {q : Nat} (hq : q ≤ 10) (τ : CS) (σ : RS) : N_T_commonPart (nI q) 10 τ = some (nI (Nat.gcd q 10), τ) ∧ M_divisor (nI q) 10 σ = some (nI (Nat.gcd q 10), σ) ∧ nz (nI (Nat.gcd q 10)) = true := by
  obtain ⟨a, b, c⟩ := cp_tab q (by omega)
  exact ⟨cpP_e _ _ _ _ _ _ (cpP_mono 12 _ _ _ _ 988 a), dvP_e _ _ _ _ _ (dvP_mono 12 _ _ _ 988 b), c⟩
theorem ag_odds (x v n part : Int32) : Agree Inv (N_T_odds x v n part) (M_odds x v n part) := by
  intro k τ σ hk h
  show AgP k _ _
  have eA : N_T_odds x v n part τ = N_T_odds_b25 x v n part (if (if n < 0 then (0 : Int32) else if 60 < n then 0 else 1) = 0 then 0 else if (if part < 0 then (0 : Int32) else if 1 < part then 0 else 1) = 0 then 0 else 1) τ := by
    unfold N_T_odds N_T_within
    rw [ob_s]
    by_cases c : (if n < 0 then (0 : Int32) else if 60 < n then 0 else 1) = 0
    · rw [if_pos c, if_pos c]
    · rw [if_neg c, if_neg c, ob_s]
  rw [eA]
  unfold N_T_odds_b25 M_odds
  refine chkY E1 h (fun S0 y hy hx hS0 hr0 hc0 => chk E1 h (fun c1 c2 => ?_))
  subst hx
  unfold M_in
  rw [ob_s]
  by_cases a1 : (if n < 0 then (0 : Int32) else if 60 < n then 0 else 1) = 0
  · rw [if_pos a1, if_pos a1, if_pos rfl]; exact err2 E1 h
  rw [if_neg a1, if_neg a1, ob_s]
  by_cases a2 : (if part < 0 then (0 : Int32) else if 1 < part then 0 else 1) = 0
  · rw [if_pos a2, if_pos a2, if_pos rfl]; exact err2 E1 h
  rw [if_neg a2, if_neg a2, if_neg i10]
  obtain ⟨n1, n2⟩ := in_ne a1
  obtain ⟨N, -, hN, rfl⟩ := in_lit 0 60 (by decide) (by decide) n1 n2
  obtain ⟨S, F0, F1, hS, w, r, hL, hR, hF0, hF1, h15⟩ := Inv_day h
  have hn : S0.1 = S.1 := RRow_n hr0 r.1 hS0.1 hS.1
  rw [hn] at hy
  have h12 := hS.1
  obtain ⟨σS, e2, b⟩ := save_e σ
  rw [e2, ob_s]
  have hF' : FU = 1000 := rfl
  have loop : ∀ (m f1 f2 i q : Nat) (τ1 : CS) (σ1 : RS), i + m = 10 → m < f1 → m < f2 → q ≤ i → t1 τ τ1 → rB σ σ1 → AgP k (N_T_odds_b71 f1 (nI y) v (nI N) part 10 (nI q) (nI i) τ1) (M_odds_b64 f2 (nI y) v (nI N) part (nI q) (nI i) σ1) := by
    intro m
    induction m with
    | zero =>
      intro f1 f2 i q τ1 σ1 hm h1 h2 hq t b1
      obtain ⟨f1, rfl⟩ : ∃ q, f1 = q + 1 := ⟨f1 - 1, by omega⟩
      obtain ⟨f2, rfl⟩ : ∃ q, f2 = q + 1 := ⟨f2 - 1, by omega⟩
      have hi : i = 10 := by omega
      subst hi
      obtain ⟨g1, g2, g3⟩ := common_e hq τ1 σ1
      rw [N_T_odds_b71, M_odds_b64, if_pos (by decide : (10 : Int32) ≤ nI 10), if_pos (by decide : (10 : Int32) ≤ nI 10), g1, g2, ob_s, ob_s, gd_t g3]
      by_cases c : part = 0
      · rw [if_pos c, if_pos c, gd_t g3]
        exact ⟨_, _, _, rfl, rfl, Inv_tB h t b1⟩
      · rw [if_neg c, if_neg c, gd_t g3]
        exact ⟨_, _, _, rfl, rfl, Inv_tB h t b1⟩
    | succ m ih =>
      intro f1 f2 i q τ1 σ1 hm h1 h2 hq t b1
      obtain ⟨f1, rfl⟩ : ∃ q, f1 = q + 1 := ⟨f1 - 1, by omega⟩
      obtain ⟨f2, rfl⟩ : ∃ q, f2 = q + 1 := ⟨f2 - 1, by omega⟩
      have c : ¬ (10 : Int32) ≤ nI i := nI_ge (a := i) (b := 10) (by omega) (by decide)
      have hok : SPok (setG S 1 (nI i)) 9999 := hS.wind (rng_nI (b := 9) (by omega) (by decide))
      obtain ⟨τT, e1, t2, wT, hLT⟩ := think1 h12 t w.1 hL
      have w2 := wT.1.wind (v := nI i)
      obtain ⟨τ3, e3, f3⟩ := behindC (S := setG S 1 (nI i)) (N := N) (y := y) (CL_si (f := 8) (v := nI i) hLT) hF0 hF1 (by omega) hy hok (by omega) ⟨w2, fr.rf 1 _⟩
      have t3 : t1 τ τ3 := t2.si.fr f3
      have r1 : RRow ((ra σ1 0 (upd (σ1.2 0) 7 (nI i))).2 0) (setG S 1 (nI i)) := by rw [ra_eq]; exact (rB_W h12 b1 r.1).1.wind h12
      have hRl := rB_L b1 hR
      have hR1 : RLw (ra σ1 0 (upd (σ1.2 0) 7 (nI i))) F0 F1 := ⟨by rw [ra_eq]; exact hRl.1.up (by decide) (by omega), by rw [ra_eq]; exact hRl.2.up (by decide) (by omega)⟩
      have q15 : σ1.1 15 = 0 := rB_15 b1 h15
      obtain ⟨σ3, e4, w4⟩ := passR (N := N) hR1 hF0 hF1 q15 (by omega) hok (by omega) ⟨r1, frr.rf _⟩
      have i2 : M_its (nI y) 2 σ3 = some ((itD F0 F1 N (setG S 1 (nI i))).2.1 2 y, σ3) := its_S (S := itD F0 F1 N (setG S 1 (nI i))) (w := 2) (by rw [itD_n]; exact h12) w4.1 (by rw [itD_n]; exact hy) (by decide)
      obtain ⟨σB, e5, bB⟩ := back_e ((b1.1.ra0).frr w4.2)
      rw [N_T_odds_b71, M_odds_b64, if_neg c, if_neg c, e1, ob_s, lt_e, e3, ob_s, lt_e, e4, ob_s, i2, ob_s, lt_e, e5, ob_s]
      unfold N_T_odds_b114
      rw [nI_1]
      by_cases g : v ≤ (itD F0 F1 N (setG S 1 (nI i))).2.1 2 y
      · have z : nI q + (0 : Int32) = nI q := nI_add q 0
        rw [if_pos g, if_pos g, z]
        exact ih f1 f2 (i + 1) q τ3 σB (by omega) (by omega) (by omega) (by omega) t3 bB
      · rw [if_neg g, if_neg g, nI_1]
        exact ih f1 f2 (i + 1) (q + 1) τ3 σB (by omega) (by omega) (by omega) (by omega) t3 bB
  exact loop 10 FU FU 0 0 τ σS rfl (by omega) (by omega) (by omega) (t1.rf (Inv_l h)) b
