/-! broom, bell -/
def gdL (S : SP) : Nat → Nat → Int32 → Int32
  | 0, _, x => x
  | m + 1, k, x => gdL S m (k + 1) (if x < S.2.1 2 k then S.2.1 2 k else x)
theorem gdC {d : Nat} {S : SP} {τ : CS} (h12 : S.1 ≤ 12) (hc : CStr τ d S) : ∀ (m n k : Nat) (x : Int32), k + m = S.1 → m < n → N_S_greatestDirt_b4 d n x (nI k) τ = some (gdL S m k x, τ) := by
  intro m
  induction m with
  | zero =>
    intro n k x hm hn
    obtain ⟨n, rfl⟩ : ∃ q, n = q + 1 := ⟨n - 1, by omega⟩
    have c1 : nI S.1 ≤ nI k := nI_le (by omega) (by omega)
    simp only [N_S_greatestDirt_b4, hc.1, if_pos c1, gdL]
  | succ m ih =>
    intro n k x hm hn
    obtain ⟨n, rfl⟩ : ∃ q, n = q + 1 := ⟨n - 1, by omega⟩
    have hk : k < S.1 := by omega
    have c1 : ¬ nI S.1 ≤ nI k := nI_ge hk (by omega)
    have b1 : inb (nI k) 12 = true := inb_nI (by omega) (by decide)
    have x1 : ix (nI k) = k := ix_nI (by omega)
    simp only [N_S_greatestDirt_b4, hc.1, if_neg c1, gd_t b1, x1, (hc.2.1 k hk).2.2.1, lt_e, nI_1, gdL]
    exact ih n (k + 1) _ (by omega) (by omega)
theorem gdR {S : SP} {σ : RS} (h12 : S.1 ≤ 12) (hr : RRow (σ.2 0) S) : ∀ (m n k : Nat) (x : Int32), k + m = S.1 → m < n → M_dirtiest_b4 n x (nI k) σ = some (gdL S m k x, σ) := by
  intro m
  induction m with
  | zero =>
    intro n k x hm hn
    obtain ⟨n, rfl⟩ : ∃ q, n = q + 1 := ⟨n - 1, by omega⟩
    have c1 : nI S.1 ≤ nI k := nI_le (by omega) (by omega)
    simp only [M_dirtiest_b4, hr.1, if_pos c1, gdL]
  | succ m ih =>
    intro n k x hm hn
    obtain ⟨n, rfl⟩ : ∃ q, n = q + 1 := ⟨n - 1, by omega⟩
    have hk : k < S.1 := by omega
    have c1 : ¬ nI S.1 ≤ nI k := nI_ge hk (by omega)
    have i2 : M_its (nI k) 2 σ = some (S.2.1 2 k, σ) := its_S (w := 2) h12 hr hk (by decide)
    simp only [M_dirtiest_b4, hr.1, if_neg c1, i2, ob_s, M_dirtiest_b34, nI_1, gdL]
    by_cases c : S.2.1 2 k ≤ x
    · rw [if_pos c, if_neg (i32_le_nlt c)]
      exact ih n (k + 1) _ (by omega) (by omega)
    · rw [if_neg c, if_pos (i32_nle c)]
      exact ih n (k + 1) _ (by omega) (by omega)
theorem greatC {d : Nat} {S : SP} {τ : CS} (h12 : S.1 ≤ 12) (hc : CStr τ d S) : N_S_greatestDirt d τ = some (gdL S S.1 0 0, τ) := by
  have hF' : FU = 1000 := rfl
  exact gdC h12 hc S.1 FU 0 0 (by omega) (by omega)
theorem greatR {S : SP} {σ : RS} (h12 : S.1 ≤ 12) (hr : RRow (σ.2 0) S) : M_dirtiest σ = some (gdL S S.1 0 0, σ) := by
  have hF' : FU = 1000 := rfl
  exact gdR h12 hr S.1 FU 0 0 (by omega) (by omega)
theorem itD_n {F0 F1 : LF} : ∀ (m : Nat) (S : SP), (itD F0 F1 m S).1 = S.1 := by
  intro m
  induction m with
  | zero => intro S; rfl
  | succ m ih => intro S; exact ih (d1S F0 F1 S)
theorem ag_broom (x z : Int32) : Agree Inv (N_T_broom x z) (M_broom x z) := by
  intro k τ σ hk h
  show AgP k _ _
  unfold N_T_broom M_broom
  refine chk E1 h (fun c1 c2 => chk E1 h (fun c3 c4 => ?_))
  obtain ⟨N, -, hN, rfl⟩ := in_lit 0 30 (by decide) (by decide) c1 c2
  obtain ⟨S, F0, F1, hS, w, r, hL, hR, hF0, hF1, h15⟩ := Inv_day h
  have h12 := hS.1
  have n1 : τ.1 0 5 = nI S.1 := w.1.1
  have n2 : σ.2 0 2 = nI S.1 := r.1.1
  rw [n1, n2]
  by_cases c0 : nI S.1 = 0
  · rw [if_pos c0, if_pos c0]
    exact err2 E2 h
  rw [if_neg c0, if_neg c0]
  obtain ⟨σS, e2, b⟩ := save_e σ
  rw [e2, ob_s]
  have hF' : FU = 1000 := rfl
  have loop : ∀ (m f1 f2 y : Nat) (be le : Int32) (τ1 : CS) (σ1 : RS), y + m = S.1 → m < f1 → m < f2 → t1 τ τ1 → rB σ σ1 → AgP k (N_T_broom_b53 f1 (nI N) z be le (nI y) τ1) (M_broom_b64 f2 (nI N) z be le (nI y) σ1) := by
    intro m
    induction m with
    | zero =>
      intro f1 f2 y be le τ1 σ1 hm h1 h2 t b1
      obtain ⟨f1, rfl⟩ : ∃ q, f1 = q + 1 := ⟨f1 - 1, by omega⟩
      obtain ⟨f2, rfl⟩ : ∃ q, f2 = q + 1 := ⟨f2 - 1, by omega⟩
      have c : nI S.1 ≤ nI y := nI_le (by omega) (by omega)
      have n3 : τ1.1 0 5 = nI S.1 := (t.1 0 5 (by decide)).trans n1
      have n4 : σ1.2 2 2 = nI S.1 := (b1.1.2 2 (by omega)).trans n2
      simp only [N_T_broom_b53, M_broom_b64, n3, n4, if_pos c]
      exact ⟨_, _, _, rfl, rfl, Inv_tB h t b1⟩
    | succ m ih =>
      intro f1 f2 y be le τ1 σ1 hm h1 h2 t b1
      obtain ⟨f1, rfl⟩ : ∃ q, f1 = q + 1 := ⟨f1 - 1, by omega⟩
      obtain ⟨f2, rfl⟩ : ∃ q, f2 = q + 1 := ⟨f2 - 1, by omega⟩
      have hy : y < S.1 := by omega
      have c : ¬ nI S.1 ≤ nI y := nI_ge hy (by omega)
      have n3 : τ1.1 0 5 = nI S.1 := (t.1 0 5 (by decide)).trans n1
      have n4 : σ1.2 2 2 = nI S.1 := (b1.1.2 2 (by omega)).trans n2
      have i1 : inb (nI y) 12 = true := inb_nI (by omega) (by decide)
      have x1 : ix (nI y) = y := ix_nI (by omega)
      obtain ⟨τT, e1, t2, wT, hLT⟩ := think1 h12 t w.1 hL
      have wT' : CW τT 1 (wS S (S.2.1 2) (S.2.2 3) (S.2.2 0)) τT := by rw [wS_0]; exact wT
      have wS' : RW σ1 (wS S (S.2.1 2) (S.2.2 3) (S.2.2 0)) σ1 := by rw [wS_0]; exact rB_W h12 b1 r.1
      have w2 := CW.dirt (k := y) (v := 0) wT'
      have r2' := RW.dirt (k := y) (v := 0) h12 hy wS'
      have hok : SPok (wS S (upd (S.2.1 2) y 0) (S.2.2 3) (S.2.2 0)) 9999 := wS_ok hS (rng_upd (fun j hj => (hS.2.1 j hj).2.2.1) (rng_nI (a := 0) (b := 999) (by omega) (by decide))) hS.2.2.2.2.2 hS.2.2.1
      obtain ⟨τ3, e3, w3, s3⟩ := passC (N := N) hLT hF0 hF1 (by omega) hok (by omega) w2
      obtain ⟨σ3, e4, r3⟩ := passR (N := N) (rB_L b1 hR) hF0 hF1 (rB_15 b1 h15) (by omega) hok (by omega) r2'
      have g2 : M_gets (nI y) 2 0 σ1 = some (0, ra σ1 0 (upd (σ1.2 0) (10 + 5 * y + 2) 0)) := gets_e (k := y) (w := 2) (by omega) (by decide) 0 σ1
      have t3 := t2.fr w3.2
      obtain ⟨σB, e5, bB⟩ := back_e (b1.1.frr r3.2)
      rw [N_T_broom_b53, M_broom_b64, n3, n4, if_neg c, if_neg c, e1, ob_s, gd_t i1, lt_e, x1, e3, ob_s, greatC s3.1 w3.1, ob_s, g2, ob_s, e4, ob_s, greatR s3.1 r3.1, ob_s, e5, ob_s, lt_e, lt_e]
      unfold N_T_broom_b118
      rw [nI_1]
      by_cases q : le ≤ gdL (itD F0 F1 N (wS S (upd (S.2.1 2) y 0) (S.2.2 3) (S.2.2 0))) (itD F0 F1 N (wS S (upd (S.2.1 2) y 0) (S.2.2 3) (S.2.2 0))).1 0 0
      · rw [if_pos q, if_pos q, if_pos q]
        exact ih f1 f2 (y + 1) be le τ3 σB (by omega) (by omega) (by omega) t3 bB
      · rw [if_neg q, if_neg q, if_neg q]
        exact ih f1 f2 (y + 1) _ _ τ3 σB (by omega) (by omega) (by omega) t3 bB
  exact loop S.1 FU FU 0 0 1000 τ σS (by omega) (by omega) (by omega) (t1.rf (Inv_l h)) b
/-! a street with other cars -/
def setC (S : SP) (g : Nat → Int32) : SP := (S.1, fun q j => if q = 3 then g j else S.2.1 q j, S.2.2)
theorem SPok.cars {S : SP} {D : Int} {g : Nat → Int32} (h : SPok S D) (hg : ∀ j, j < S.1 → g j = 0 ∨ g j = 1) : SPok (setC S g) D := by
  obtain ⟨h1, h2, h3⟩ := h
  exact ⟨h1, fun k hk => ⟨(h2 k hk).1, (h2 k hk).2.1, (h2 k hk).2.2.1, hg k hk, (h2 k hk).2.2.2.2⟩, h3⟩
theorem CStr.cars {τ : CS} {d : Nat} {S : SP} {g : Nat → Int32} {c : Nat} (h : CStr τ d S) (hc : c < 2 ^ S.1) (hg : ∀ j, j < S.1 → g j = nI (c / 2 ^ j % 2)) : CStr (si τ d 6 (nI c)) d (setC S g) := by
  obtain ⟨a1, a2, a3, a4, a5, a6, a7⟩ := h
  have k : ∀ f, f ≠ 6 → (si τ d 6 (nI c)).1 d f = τ.1 d f := fun f hf => si_ne _ _ hf
  exact ⟨(k 5 (by decide)).trans a1, a2, ⟨c, hc, si_eq _ _ _ _, hg⟩, (k 7 (by decide)).trans a4, (k 8 (by decide)).trans a5, (k 9 (by decide)).trans a6, (k 10 (by decide)).trans a7⟩
theorem RRow.cars {row : Nat → Int32} {S : SP} {g : Nat → Int32} {k : Nat} {v : Int32} (h12 : S.1 ≤ 12) (hk : k < S.1) (h : RRow row (setC S g)) : RRow (upd row (10 + 5 * k + 3) v) (setC S (upd g k v)) := by
  obtain ⟨a, b, c1, c2, c3, c4⟩ := h
  refine ⟨by rw [upd_ne _ _ (by omega)]; exact a, fun j hj f hf => ?_, by rw [upd_ne _ _ (by omega)]; exact c1, by rw [upd_ne _ _ (by omega)]; exact c2, by rw [upd_ne _ _ (by omega)]; exact c3, by rw [upd_ne _ _ (by omega)]; exact c4⟩
  have hb : row (10 + 5 * j + f) = if f = 3 then g j else S.2.1 f j := b j hj f hf
  show upd row (10 + 5 * k + 3) v (10 + 5 * j + f) = if f = 3 then upd g k v j else S.2.1 f j
  by_cases c : f = 3
  · subst c
    rw [if_pos rfl] at hb ⊢
    by_cases c2 : j = k
    · subst c2; rw [upd_eq, upd_eq]
    · rw [upd_ne _ _ (by omega), upd_ne _ _ c2]; exact hb
  · rw [if_neg c] at hb ⊢
    rw [upd_ne _ _ (by omega)]; exact hb
theorem RRow.carg {row : Nat → Int32} {S : SP} {g g' : Nat → Int32} (h : RRow row (setC S g)) (e : ∀ j, j < S.1 → g j = g' j) : RRow row (setC S g') := by
  obtain ⟨a, b, c⟩ := h
  refine ⟨a, fun j hj f hf => ?_, c⟩
  have hb : row (10 + 5 * j + f) = if f = 3 then g j else S.2.1 f j := b j hj f hf
  show row (10 + 5 * j + f) = if f = 3 then g' j else S.2.1 f j
  rw [hb, e j hj]
theorem setC_id (S : SP) : setC S (S.2.1 3) = S := by
  obtain ⟨n, g, q⟩ := S
  unfold setC
  congr 2
  funext a j
  by_cases c : a = 3 <;> simp [c]
theorem CL_si {τ : CS} {F0 F1 : LF} {f : Nat} {v : Int32} (h : CL τ 1 F0 F1) : CL (si τ 1 f v) 1 F0 F1 := ⟨h.1, h.2.1.same (lsame_si (by decide)), h.2.2.same (lsame_si (by decide))⟩
def bellE (x1 x2 : Int32) (σ : RS) : Option (Int32 × RS) := ob (M_passes x1 σ) fun _ s => ob (M_allDirt s) fun v24 s2 => lt (x2 - v24) fun v27 => ob (M_moveAll 2 0 s2) fun _ s3 => some (v27, s3)
theorem bell_loop {S : SP} {x1 x2 : Int32} (h12 : S.1 ≤ 12) : ∀ (m n k : Nat) (g : Nat → Int32) (σ : RS), k + m = S.1 → m < n → (∀ j, j < k → g j = 0) → RRow (σ.2 0) (setC S g) → ∃ σ', M_bell_b53 n x1 x2 (nI k) σ = bellE x1 x2 σ' ∧ RRow (σ'.2 0) (setC S (fun _ => 0)) ∧ frr σ σ' := by
  intro m
  induction m with
  | zero =>
    intro n k g σ hm hn hg hr
    obtain ⟨n, rfl⟩ : ∃ q, n = q + 1 := ⟨n - 1, by omega⟩
    have hn1 : σ.2 0 2 = nI S.1 := hr.1
    have c1 : nI S.1 ≤ nI k := nI_le (by omega) (by omega)
    simp only [M_bell_b53, hn1, if_pos c1]
    exact ⟨σ, rfl, hr.carg (fun j hj => hg j (by omega)), frr.rf σ⟩
  | succ m ih =>
    intro n k g σ hm hn hg hr
    obtain ⟨n, rfl⟩ : ∃ q, n = q + 1 := ⟨n - 1, by omega⟩
    have hk : k < S.1 := by omega
    have hn1 : σ.2 0 2 = nI S.1 := hr.1
    have c1 : ¬ nI S.1 ≤ nI k := nI_ge hk (by omega)
    have g3 : M_gets (nI k) 3 0 σ = some (0, ra σ 0 (upd (σ.2 0) (10 + 5 * k + 3) 0)) := gets_e (k := k) (w := 3) (by omega) (by decide) 0 σ
    simp only [M_bell_b53, hn1, if_neg c1, g3, ob_s, nI_1]
    obtain ⟨σ', e, hr', hf⟩ := ih n (k + 1) (upd g k 0) (ra σ 0 (upd (σ.2 0) (10 + 5 * k + 3) 0)) (by omega) (by omega) (fun j hj => by
      by_cases c : j = k
      · subst c; exact upd_eq _ _ _
      · rw [upd_ne _ _ c]; exact hg j (by omega)) (by rw [ra_eq]; exact hr.cars h12 hk)
    exact ⟨σ', e, hr', (frr_ra (by omega)).tr hf⟩
theorem ag_bell (x : Int32) : Agree Inv (N_T_bell x) (M_bell x) := by
  intro k τ σ hk h
  show AgP k _ _
  unfold N_T_bell M_bell
  refine chk E1 h (fun c1 c2 => ?_)
  obtain ⟨N, -, hN, rfl⟩ := in_lit 0 60 (by decide) (by decide) c1 c2
  obtain ⟨S, F0, F1, hS, w, r, hL, hR, hF0, hF1, h15⟩ := Inv_day h
  have h12 := hS.1
  have hF' : FU = 1000 := rfl
  obtain ⟨τT, e1, t, wT, hLT⟩ := think1 h12 (t1.rf (Inv_l h)) w.1 hL
  obtain ⟨σS, e2, b⟩ := save_e σ
  obtain ⟨τ2, e3, w2, s2⟩ := passC (N := N) hLT hF0 hF1 (by omega) hS (by omega) wT
  obtain ⟨σ2, e4, r2'⟩ := passR (N := N) (rB_L b hR) hF0 hF1 (rB_15 b h15) (by omega) hS (by omega) (rB_W h12 b r.1)
  have t2 := t.fr w2.2
  obtain ⟨σB, e5, bB⟩ := back_e (b.1.frr r2'.2)
  obtain ⟨τU, e6, t3, wU, hLU⟩ := think1 h12 t2 w.1 hL
  have wB := rB_W h12 bB r.1
  obtain ⟨σC, e7, rC, fC⟩ := bell_loop (S := S) (x1 := nI N) (x2 := suS (itD F0 F1 N S)) h12 S.1 FU 0 (S.2.1 3) σB (by omega) (by omega) (fun j hj => absurd hj (Nat.not_lt_zero _)) (by rw [setC_id]; exact wB.1)
  have hok : SPok (setC S (fun _ => 0)) 9999 := hS.cars (fun j hj => Or.inl rfl)
  have wV : CStr (si τU 1 6 (nI 0)) 1 (setC S (fun _ => 0)) := wU.1.cars (Nat.two_pow_pos _) (fun j hj => by rw [Nat.zero_div]; rfl)
  obtain ⟨τ4, e8, w4, s4⟩ := passC (N := N) (CL_si (f := 6) (v := nI 0) hLU) hF0 hF1 (by omega) hok (by omega) ⟨wV, fr.rf 1 _⟩
  obtain ⟨σ4, e9, r4⟩ := passR (σ0 := σC) (N := N) ⟨frr_L (by decide) fC (rB_L bB hR).1, frr_L (by decide) fC (rB_L bB hR).2⟩ hF0 hF1 ((fC.1 15 (by omega)).trans (rB_15 bB h15)) (by omega) hok (by omega) ⟨rC, frr.rf σC⟩
  have t4 : t1 τ τ4 := t3.si.fr w4.2
  obtain ⟨σD, e10, bD⟩ := back_e ((bB.1.frr fC).frr r4.2)
  have e7' : M_bell_b53 FU (nI N) (suS (itD F0 F1 N S)) 0 σB = bellE (nI N) (suS (itD F0 F1 N S)) σC := e7
  have e8' : N_S_passAll 1 (nI N) (si τU 1 6 0) = some (0, τ4) := e8
  rw [e1, e2, ob_s, ob_s, e3, e4, ob_s, ob_s, sumC s2.1 w2.1, sumR s2.1 r2'.1, ob_s, ob_s, e6, e5, ob_s, ob_s, lt_e, e8', e7', ob_s, sumC s4.1 w4.1, ob_s]
  unfold bellE
  rw [e9, ob_s, sumR s4.1 r4.1, ob_s, lt_e, e10, ob_s]
  exact ⟨_, _, _, rfl, rfl, Inv_tB h t4 bD⟩
