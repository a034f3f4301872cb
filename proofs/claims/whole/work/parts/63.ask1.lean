/-! worst, check, leastFine, broom -/
def dfL (S : SP) (v : Int32) : Nat → Nat → Nat
  | 0, k => k
  | m + 1, k => if v ≤ S.2.1 2 k then k else dfL S v m (k + 1)
theorem dfL_le (S : SP) (v : Int32) : ∀ (m k : Nat), dfL S v m k ≤ k + m := by
  intro m
  induction m with
  | zero => intro k; exact Nat.le_refl _
  | succ m ih =>
    intro k
    have := ih (k + 1)
    show (if v ≤ S.2.1 2 k then k else dfL S v m (k + 1)) ≤ k + (m + 1)
    split <;> omega
theorem i32_nlt {x y : Int32} (h : ¬ x < y) : y ≤ x := by rw [Int32.lt_iff_toInt_lt] at h; rw [Int32.le_iff_toInt_le]; omega
theorem i32_nle {x y : Int32} (h : ¬ x ≤ y) : y < x := by rw [Int32.le_iff_toInt_le] at h; rw [Int32.lt_iff_toInt_lt]; omega
theorem i32_lt_nle {x y : Int32} (h : x < y) : ¬ y ≤ x := by rw [Int32.lt_iff_toInt_lt] at h; rw [Int32.le_iff_toInt_le]; omega
theorem i32_le_nlt {x y : Int32} (h : x ≤ y) : ¬ y < x := by rw [Int32.le_iff_toInt_le] at h; rw [Int32.lt_iff_toInt_lt]; omega
theorem fwC {d : Nat} {S : SP} {τ : CS} {v : Int32} (h12 : S.1 ≤ 12) (hc : CStr τ d S) : ∀ (m n k : Nat), k + m = S.1 → m < n → N_S_firstWith_b2 d n v (nI k) τ = some ((if dfL S v m k = S.1 then -1 else nI (dfL S v m k)), τ) := by
  intro m
  induction m with
  | zero =>
    intro n k hm hn
    obtain ⟨n, rfl⟩ : ∃ q, n = q + 1 := ⟨n - 1, by omega⟩
    have c1 : nI S.1 ≤ nI k := nI_le (by omega) (by omega)
    have e : dfL S v 0 k = S.1 := by show k = S.1; omega
    simp only [N_S_firstWith_b2, hc.1, if_pos c1]
    rw [if_pos e]
  | succ m ih =>
    intro n k hm hn
    obtain ⟨n, rfl⟩ : ∃ q, n = q + 1 := ⟨n - 1, by omega⟩
    have hk : k < S.1 := by omega
    have c1 : ¬ nI S.1 ≤ nI k := nI_ge hk (by omega)
    have b1 : inb (nI k) 12 = true := inb_nI (by omega) (by decide)
    have x1 : ix (nI k) = k := ix_nI (by omega)
    simp only [N_S_firstWith_b2, hc.1, if_neg c1, gd_t b1, x1, (hc.2.1 k hk).2.2.1, nI_1]
    by_cases c : S.2.1 2 k < v
    · have e : dfL S v (m + 1) k = dfL S v m (k + 1) := if_neg (i32_lt_nle c)
      rw [if_pos c, e, ih n (k + 1) (by omega) (by omega)]
    · have e : dfL S v (m + 1) k = k := if_pos (i32_nlt c)
      rw [if_neg c, e, if_neg (show ¬ k = S.1 by omega)]
theorem firstC {d : Nat} {S : SP} {τ : CS} {v : Int32} (h12 : S.1 ≤ 12) (hc : CStr τ d S) : N_S_firstWith d v τ = some ((if dfL S v S.1 0 = S.1 then -1 else nI (dfL S v S.1 0)), τ) := by
  have hF' : FU = 1000 := rfl
  exact fwC h12 hc S.1 FU 0 (by omega) (by omega)
theorem dfR {S : SP} {σ : RS} {v : Int32} (h12 : S.1 ≤ 12) (hr : RRow (σ.2 0) S) : ∀ (m n k : Nat), k + m = S.1 → m < n → M_dirtyFrom_b2 n v (nI k) σ = some (nI (dfL S v m k), σ) := by
  intro m
  induction m with
  | zero =>
    intro n k hm hn
    obtain ⟨n, rfl⟩ : ∃ q, n = q + 1 := ⟨n - 1, by omega⟩
    have c1 : nI S.1 ≤ nI k := nI_le (by omega) (by omega)
    simp only [M_dirtyFrom_b2, hr.1, if_pos c1, dfL]
  | succ m ih =>
    intro n k hm hn
    obtain ⟨n, rfl⟩ : ∃ q, n = q + 1 := ⟨n - 1, by omega⟩
    have hk : k < S.1 := by omega
    have c1 : ¬ nI S.1 ≤ nI k := nI_ge hk (by omega)
    have i2 : M_its (nI k) 2 σ = some (S.2.1 2 k, σ) := its_S (w := 2) h12 hr hk (by decide)
    simp only [M_dirtyFrom_b2, hr.1, if_neg c1, i2, ob_s, nI_1, dfL]
    by_cases c : v ≤ S.2.1 2 k
    · rw [if_pos c, if_pos c]
    · rw [if_neg c, if_neg c, ih n (k + 1) (by omega) (by omega)]
theorem dirtyR {S : SP} {σ : RS} {v : Int32} (h12 : S.1 ≤ 12) (hr : RRow (σ.2 0) S) : M_dirtyFrom v σ = some (nI (dfL S v S.1 0), σ) := by
  have hF' : FU = 1000 := rfl
  exact dfR h12 hr S.1 FU 0 (by omega) (by omega)
theorem pass1C {τ0 τ : CS} {d : Nat} {F0 F1 : LF} {S : SP} {D : Int} (hL : CL τ0 d F0 F1) (hF : FR0 F0) (hF1 : FR1 F1) (hS : SPok S D) (hD : D + 1 < 1000000) (w : CW τ0 d S τ) : ∃ τ', N_S_passAll d 1 τ = some (0, τ') ∧ CW τ0 d (d1S F0 F1 S) τ' ∧ SPok (d1S F0 F1 S) (D + 1) := passC (N := 1) hL hF hF1 (by decide) hS hD w
theorem pass1R {σ0 σ : RS} {F0 F1 : LF} {S : SP} {D : Int} (hL : RLw σ0 F0 F1) (hF : FR0 F0) (hF1 : FR1 F1) (h15 : σ0.1 15 = 0) (hS : SPok S D) (hD : D + 1 < 1000000) (w : RW σ0 S σ) : ∃ σ', M_oneDay σ = some (0, σ') ∧ RW σ0 (d1S F0 F1 S) σ' := by
  obtain ⟨σ1, e1, w1, s1⟩ := dayR hL hF hS (by omega) (sgH_l (t := S.2.2 0) hL hF1 h15) w
  exact ⟨σ1, e1, w1⟩
theorem ag_worst (x z : Int32) : Agree Inv (N_T_worst x z) (M_worst x z) := by
  intro k τ σ hk h
  show AgP k _ _
  unfold N_T_worst M_worst
  refine chk E1 h (fun c1 c2 => chk E1 h (fun c3 c4 => ?_))
  obtain ⟨S, F0, F1, hS, w, r, hL, hR, hF0, hF1, h15⟩ := Inv_day h
  obtain ⟨τT, e1, t, wT, hLT⟩ := think1 hS.1 (t1.rf (Inv_l h)) w.1 hL
  obtain ⟨σS, e2, b⟩ := save_e σ
  rw [e1, e2, ob_s, ob_s]
  have hF' : FU = 1000 := rfl
  have loop : ∀ (m n1 n2 i : Nat) (S' : SP) (D : Int) (τ1 : CS) (σ1 : RS), i + m = 61 → m < n1 → m < n2 → SPok S' D → D + m < 900000 → CW τT 1 S' τ1 → RW σS S' σ1 → AgP k (N_T_worst_b40 n1 x z (nI i) τ1) (M_worst_b41 n2 x z (nI i) σ1) := by
    intro m
    induction m with
    | zero =>
      intro n1 n2 i S' D τ1 σ1 hm h1 h2 hS' hD w1 r1
      obtain ⟨n1, rfl⟩ : ∃ q, n1 = q + 1 := ⟨n1 - 1, by omega⟩
      obtain ⟨n2, rfl⟩ : ∃ q, n2 = q + 1 := ⟨n2 - 1, by omega⟩
      have hi : i = 61 := by omega
      subst hi
      have c : (60 : Int32) < nI 61 := by decide
      obtain ⟨σB, e5, bB⟩ := back_e (b.1.frr r1.2)
      simp only [N_T_worst_b40, M_worst_b41, if_pos c, M_worst_b71, dirtyR hS'.1 r1.1, ob_s, e5]
      rw [if_neg (by decide : ¬ nI 61 ≤ (60 : Int32))]
      exact errT E2 h (t.fr w1.2) bB
    | succ m ih =>
      intro n1 n2 i S' D τ1 σ1 hm h1 h2 hS' hD w1 r1
      obtain ⟨n1, rfl⟩ : ∃ q, n1 = q + 1 := ⟨n1 - 1, by omega⟩
      obtain ⟨n2, rfl⟩ : ∃ q, n2 = q + 1 := ⟨n2 - 1, by omega⟩
      have c : ¬ (60 : Int32) < nI i := nI_nlt (a := 60) (b := i) (by omega) (by decide)
      have h12 := hS'.1
      have hdf := dfL_le S' x S'.1 0
      have hn1 : σ1.2 0 2 = nI S'.1 := r1.1.1
      simp only [N_T_worst_b40, M_worst_b41, if_neg c, firstC h12 w1.1, dirtyR h12 r1.1, ob_s, hn1, nI_1]
      by_cases q : dfL S' x S'.1 0 = S'.1
      · rw [if_pos q, q, if_pos (by decide : (-1 : Int32) < 0), if_pos rfl]
        obtain ⟨τ2, e3, w2, s2⟩ := pass1C hLT hF0 hF1 hS' (by omega) w1
        obtain ⟨σ2, e4, r2'⟩ := pass1R (rB_L b hR) hF0 hF1 (rB_15 b h15) hS' (by omega) r1
        rw [e3, e4, ob_s, ob_s]
        exact ih n1 n2 (i + 1) (d1S F0 F1 S') (D + 1) τ2 σ2 (by omega) (by omega) (by omega) s2 (by omega) w2 r2'
      · have q2 : ¬ nI (dfL S' x S'.1 0) = nI S'.1 := fun e => q ((nI_eq (by omega) (by omega)).mp e)
        obtain ⟨σB, e5, bB⟩ := back_e (b.1.frr r1.2)
        rw [if_neg q, if_neg q2, if_neg (nI_pos (by omega))]
        unfold M_worst_b71
        rw [dirtyR h12 r1.1, ob_s, e5, ob_s, if_pos (show nI i ≤ (60 : Int32) from nI_le (a := i) (b := 60) (by omega) (by decide))]
        exact ⟨_, _, _, rfl, rfl, Inv_tB h (t.fr w1.2) bB⟩
  exact loop 61 FU FU 0 S 9999 τT σS rfl (by omega) (by omega) hS (by omega) wT (rB_W hS.1 b r.1)
theorem Kept_wt0 {row : Nat → Int32} {τ : CS} (h : Kept row τ 0) : Kept (upd row 4 0) (si τ 0 16 0) 0 := by
  obtain ⟨S, F0, F1, a1, a2, a3, ⟨t1, t2, t3⟩, a5, a6, a7, a8, a9, a10⟩ := h
  have hs : ∀ f, f ≠ 16 → (si τ 0 16 0).1 0 f = τ.1 0 f := fun f hf => si_ne _ _ hf
  refine ⟨S, F0, F1, a1, a2.up a1.1 (by omega), ?_, ⟨?_, ⟨0, by omega, by rw [upd_eq]; rfl, by rw [si_eq]; rfl, fun i hi => absurd hi (Nat.not_lt_zero _)⟩, ?_⟩, a5, a6, a7.same (lsame_si (by decide)), a8.up (by decide) (by omega), a9.same (lsame_si (by decide)), a10.up (by decide) (by omega)⟩
  · obtain ⟨s1, s2, s3, s4⟩ := a3
    refine ⟨by rw [hs _ (by decide)]; exact s1, s2, by rw [hs _ (by decide)]; exact s3, ?_⟩
    rw [hs _ (by decide), hs _ (by decide), hs _ (by decide), hs _ (by decide)]; exact s4
  · obtain ⟨w, w1, w2, w3, w4⟩ := t1
    exact ⟨w, w1, by rw [upd_ne _ _ (by omega)]; exact w2, by rw [hs _ (by decide)]; exact w3, fun i hi => by rw [upd_ne _ _ (by omega)]; exact w4 i hi⟩
  · rw [upd_ne _ _ (by omega), hs _ (by decide)]; exact t3
theorem ag_check : Agree Inv (N_T_check) (M_check) := by
  intro k τ00 σ00 hk h00
  show AgP k _ _
  obtain ⟨-, -, -, -, -, -, ⟨-, ⟨v, v1, v2, v3, v4⟩, -⟩, -⟩ := id h00.1
  unfold N_T_check M_check
  rw [lt_e, lt_e, lt_e, lt_e, v2, v3]
  have h : Inv k (si τ00 0 16 0) (ra σ00 0 (upd (σ00.2 0) 4 0)) := Inv_of0 h00 (cs_si (by omega)) (rs_ra (by omega)) (lawsok_eq (τ := τ00) rfl (Inv_l h00)) (by rw [ra_eq]; exact Kept_wt0 h00.1)
  have hv4 : ∀ i, i < v → (ra σ00 0 (upd (σ00.2 0) 4 0)).2 0 (120 + i) = (si τ00 0 16 0).2.1 0 15 i := fun i hi => by rw [ra_eq, upd_ne _ _ (by omega)]; exact v4 i hi
  generalize si τ00 0 16 0 = τ at *
  generalize ra σ00 0 (upd (σ00.2 0) 4 0) = σ at *
  obtain ⟨S, F0, F1, hS, w, r, hL, hR, hF0, hF1, h15⟩ := Inv_day h
  obtain ⟨τT, e1, t, wT, hLT⟩ := think1 hS.1 (t1.rf (Inv_l h)) w.1 hL
  obtain ⟨σS, e2, b⟩ := save_e σ
  rw [e1, e2, ob_s, ob_s]
  have hF' : FU = 1000 := rfl
  have loop : ∀ (m n1 n2 i : Nat) (S' : SP) (D : Int) (τ1 : CS) (σ1 : RS), i + m = v → m < n1 → m + 1 < n2 → SPok S' D → D + m < 900000 → CW τT 1 S' τ1 → RW σS S' σ1 → AgP k (N_T_check_b29 n1 (nI v) (nI i) τ1) (M_check_b30 n2 (nI v) (nI i) 1 σ1) := by
    intro m
    induction m with
    | zero =>
      intro n1 n2 i S' D τ1 σ1 hm h1 h2 hS' hD w1 r1
      obtain ⟨n1, rfl⟩ : ∃ q, n1 = q + 1 := ⟨n1 - 1, by omega⟩
      obtain ⟨n2, rfl⟩ : ∃ q, n2 = q + 1 := ⟨n2 - 1, by omega⟩
      have c : nI v ≤ nI i := nI_le (by omega) (by omega)
      obtain ⟨σB, e5, bB⟩ := back_e (b.1.frr r1.2)
      simp only [N_T_check_b29, M_check_b30, if_pos c, M_check_b80, ob_s, e5, if_neg i10]
      exact ⟨_, _, _, rfl, rfl, Inv_tB h (t.fr w1.2) bB⟩
    | succ m ih =>
      intro n1 n2 i S' D τ1 σ1 hm h1 h2 hS' hD w1 r1
      obtain ⟨n1, rfl⟩ : ∃ q, n1 = q + 1 := ⟨n1 - 1, by omega⟩
      obtain ⟨n2, rfl⟩ : ∃ q, n2 = q + 1 := ⟨n2 - 1, by omega⟩
      have c : ¬ nI v ≤ nI i := nI_ge (by omega) (by omega)
      obtain ⟨τ2, e3, w2, s2⟩ := pass1C hLT hF0 hF1 hS' (by omega) w1
      obtain ⟨σ2, e4, r2'⟩ := pass1R (rB_L b hR) hF0 hF1 (rB_15 b h15) hS' (by omega) r1
      have b1 : inb (nI i) 20 = true := inb_nI (by omega) (by decide)
      have x1 : ix (nI i) = i := ix_nI (by omega)
      have e12 : (120 : Int32) + nI i = nI (120 + i) := nI_add 120 i
      have b2 : inb (nI (120 + i)) 240 = true := inb_nI (by omega) (by decide)
      have x2 : ix (nI (120 + i)) = 120 + i := ix_nI (by omega)
      have t2 := t.fr w2.2
      have ea : τ2.2.1 0 15 i = τ.2.1 0 15 i := by rw [t2.2.1 0 15 (by decide) (by decide)]
      have eb : σ2.2 0 (120 + i) = τ.2.1 0 15 i := by
        rw [r2'.2.2.2 _ (by omega), b.2 _ (by omega)]; exact hv4 i (by omega)
      simp only [N_T_check_b29, M_check_b30, if_neg c, if_neg i10, e3, e4, ob_s, sumC s2.1 w2.1, sumR s2.1 r2'.1, gd_t b1, x1, e12, gd_t b2, x2, ea, eb, lt_e]
      by_cases q : suS (d1S F0 F1 S') = τ.2.1 0 15 i
      · rw [if_pos q, if_pos q, if_neg i10, nI_1]
        exact ih n1 n2 (i + 1) (d1S F0 F1 S') (D + 1) τ2 σ2 (by omega) (by omega) (by omega) s2 (by omega) w2 r2'
      · rw [if_neg q, if_neg q, if_pos rfl]
        obtain ⟨n2, rfl⟩ : ∃ q, n2 = q + 1 := ⟨n2 - 1, by omega⟩
        obtain ⟨σB, e5, bB⟩ := back_e (b.1.frr r2'.2)
        have z : nI i + (0 : Int32) = nI i := nI_add i 0
        rw [z]
        simp only [M_check_b30, if_neg c, M_check_b80, ob_s, e5]
        exact ⟨_, _, _, rfl, rfl, Inv_tB h t2 bB⟩
  exact loop v FU FU 0 S 9999 τT σS (by omega) (by omega) (by omega) hS (by omega) wT (rB_W hS.1 b r.1)
/-! a street with another fine, or wind -/
def setG (S : SP) (i : Nat) (v : Int32) : SP := (S.1, S.2.1, upd S.2.2 i v)
theorem setG_2 (S : SP) (i : Nat) (v u : Int32) : setG (setG S i v) i u = setG S i u := by
  unfold setG
  congr 2
  funext j
  unfold upd
  by_cases c : j = i <;> simp [c]
theorem CStr.fine {τ : CS} {d : Nat} {S : SP} {v : Int32} (h : CStr τ d S) : CStr (si τ d 9 v) d (setG S 2 v) := by
  obtain ⟨a1, a2, a3, a4, a5, a6, a7⟩ := h
  have k : ∀ f, f ≠ 9 → (si τ d 9 v).1 d f = τ.1 d f := fun f hf => si_ne _ _ hf
  refine ⟨(k 5 (by decide)).trans a1, a2, by rw [k 6 (by decide)]; exact a3, (k 7 (by decide)).trans a4, (k 8 (by decide)).trans a5, ?_, (k 10 (by decide)).trans a7⟩
  rw [si_eq]; rfl
theorem CStr.wind {τ : CS} {d : Nat} {S : SP} {v : Int32} (h : CStr τ d S) : CStr (si τ d 8 v) d (setG S 1 v) := by
  obtain ⟨a1, a2, a3, a4, a5, a6, a7⟩ := h
  have k : ∀ f, f ≠ 8 → (si τ d 8 v).1 d f = τ.1 d f := fun f hf => si_ne _ _ hf
  refine ⟨(k 5 (by decide)).trans a1, a2, by rw [k 6 (by decide)]; exact a3, (k 7 (by decide)).trans a4, ?_, (k 9 (by decide)).trans a6, (k 10 (by decide)).trans a7⟩
  rw [si_eq]; rfl
theorem RRow.fine {row : Nat → Int32} {S : SP} {v : Int32} (h12 : S.1 ≤ 12) (h : RRow row S) : RRow (upd row 8 v) (setG S 2 v) := by
  obtain ⟨a, b, c1, c2, c3, c4⟩ := h
  refine ⟨by rw [upd_ne _ _ (by omega)]; exact a, fun k hk f hf => by rw [upd_ne _ _ (by omega)]; exact b k hk f hf, by rw [upd_ne _ _ (by omega)]; exact c1, by rw [upd_ne _ _ (by omega)]; exact c2, ?_, by rw [upd_ne _ _ (by omega)]; exact c4⟩
  rw [upd_eq]; rfl
theorem RRow.wind {row : Nat → Int32} {S : SP} {v : Int32} (h12 : S.1 ≤ 12) (h : RRow row S) : RRow (upd row 7 v) (setG S 1 v) := by
  obtain ⟨a, b, c1, c2, c3, c4⟩ := h
  refine ⟨by rw [upd_ne _ _ (by omega)]; exact a, fun k hk f hf => by rw [upd_ne _ _ (by omega)]; exact b k hk f hf, by rw [upd_ne _ _ (by omega)]; exact c1, ?_, by rw [upd_ne _ _ (by omega)]; exact c3, by rw [upd_ne _ _ (by omega)]; exact c4⟩
  rw [upd_eq]; rfl
theorem SPok.fine {S : SP} {D : Int} {v : Int32} (h : SPok S D) (hv : rng v 0 99) : SPok (setG S 2 v) D := by
  obtain ⟨h1, h2, h3, h4, h5, h6⟩ := h
  exact ⟨h1, h2, h3, h4, hv, h6⟩
theorem SPok.wind {S : SP} {D : Int} {v : Int32} (h : SPok S D) (hv : rng v 0 9) : SPok (setG S 1 v) D := by
  obtain ⟨h1, h2, h3, h4, h5, h6⟩ := h
  exact ⟨h1, h2, h3, hv, h5, h6⟩
theorem ag_leastFine (x : Int32) : Agree Inv (N_T_leastFine x) (M_leastFine x) := by
  intro k τ σ hk h
  show AgP k _ _
  unfold N_T_leastFine M_leastFine
  refine chk E1 h (fun c1 c2 => ?_)
  obtain ⟨s, -, hs', rfl⟩ := in_lit 0 1 (by decide) (by decide) c1 c2
  have hs : s < 2 := by omega
  obtain ⟨S, F0, F1, hS, w, r, hL, hR, hF0, hF1, h15⟩ := Inv_day h
  have h12 := hS.1
  obtain ⟨τT, e1, t, wT, hLT⟩ := think1 hS.1 (t1.rf (Inv_l h)) w.1 hL
  have hf : σ.2 0 8 = S.2.2 2 := r.1.2.2.2.2.1
  rw [e1, ob_s, lt_e, lt_e, hf]
  have hF' : FU = 1000 := rfl
  have fin : ∀ (σ1 : RS), r2 σ σ1 → (∀ i, i ≠ 8 → σ1.2 0 i = σ.2 0 i) → r2 σ (ra σ1 0 (upd (σ1.2 0) 8 (S.2.2 2))) ∧ ∀ i, i < 240 → (ra σ1 0 (upd (σ1.2 0) 8 (S.2.2 2))).2 0 i = σ.2 0 i := by
    intro σ1 q1 q2
    refine ⟨⟨q1.1, fun f a b => (ra_ne _ _ a).trans (q1.2 f a b)⟩, fun i hi => ?_⟩
    rw [ra_eq]
    by_cases c : i = 8
    · subst c; rw [upd_eq, hf]
    · rw [upd_ne _ _ c]; exact q2 i c
  have e1s : (1 : Int32) - nI s = nI (1 - s) := pk_sub (a := 1) (by omega)
  have hpl : ∀ u, plN (setG S 2 u) (1 - s) < 100 := fun u => plN_lt (S := setG S 2 u) h12
  have loop : ∀ (m n1 n2 v : Nat) (u : Int32) (τ1 : CS) (σ1 : RS), v + m = 100 → m < n1 → m < n2 → t1 τ τ1 → CStr τ1 1 (setG S 2 u) → RRow (σ1.2 0) (setG S 2 (nI v)) → r2 σ σ1 → (∀ i, i ≠ 8 → σ1.2 0 i = σ.2 0 i) → AgP k (N_T_leastFine_b29 n1 (nI s) (nI v) τ1) (M_leastFine_b34 n2 (nI s) (S.2.2 2) (nI v) σ1) := by
    intro m
    induction m with
    | zero =>
      intro n1 n2 v u τ1 σ1 hm h1 h2 t1' w1 r1 q1 q2
      obtain ⟨n1, rfl⟩ : ∃ q, n1 = q + 1 := ⟨n1 - 1, by omega⟩
      obtain ⟨n2, rfl⟩ : ∃ q, n2 = q + 1 := ⟨n2 - 1, by omega⟩
      have hi : v = 100 := by omega
      subst hi
      have c : (99 : Int32) < nI 100 := by decide
      obtain ⟨f1, f2⟩ := fin σ1 q1 q2
      simp only [N_T_leastFine_b29, M_leastFine_b34, if_pos c, M_leastFine_b69, lt_e]
      rw [if_neg (by decide : ¬ nI 100 ≤ (99 : Int32))]
      refine err2 E2 (Inv_of0 h ⟨fun o f a b => t1'.1 o f (by omega), fun o f a b c => t1'.2.1 o f (by omega) c, fun o f a => t1'.2.2.1 o f (by omega)⟩ ⟨fun f q => f1.1 f q, fun f a b c d => f1.2 f a b⟩ t1'.2.2.2 ?_)
      exact Kept.rcg f2 (h.1.same (t1_d (by decide) (by decide) t1') (t1_l t1'))
    | succ m ih =>
      intro n1 n2 v u τ1 σ1 hm h1 h2 t1' w1 r1 q1 q2
      obtain ⟨n1, rfl⟩ : ∃ q, n1 = q + 1 := ⟨n1 - 1, by omega⟩
      obtain ⟨n2, rfl⟩ : ∃ q, n2 = q + 1 := ⟨n2 - 1, by omega⟩
      have c : ¬ (99 : Int32) < nI v := nI_nlt (a := 99) (b := v) (by omega) (by decide)
      have hok : SPok (setG S 2 (nI v)) 9999 := hS.fine (rng_nI (b := 99) (by omega) (by decide))
      have w2 : CStr (si τ1 1 9 (nI v)) 1 (setG S 2 (nI v)) := by
        have := w1.fine (v := nI v)
        rw [setG_2] at this
        exact this
      have ec := stayC (s := s) hok w2 hs
      have ep := placesR (s := 1 - s) hok r1 (by omega)
      have er := stayR (s := s) (l := plN (setG S 2 (nI v)) (1 - s)) hok r1 hs (by have := hpl (nI v); omega)
      have hlt := stN_lt (S := setG S 2 (nI v)) (s := s) (l := plN (setG S 2 (nI v)) (1 - s)) h12 hs
      simp only [N_T_leastFine_b29, M_leastFine_b34, if_neg c, lt_e, ec, ob_s, e1s, ep, er, nI_1]
      by_cases q : nI (stN (setG S 2 (nI v)) s (plN (setG S 2 (nI v)) (1 - s))) = 0
      · rw [if_pos q, if_pos q]
        obtain ⟨f1, f2⟩ := fin σ1 q1 q2
        unfold M_leastFine_b69
        rw [lt_e, if_pos (show nI v ≤ (99 : Int32) from nI_le (a := v) (b := 99) (by omega) (by decide))]
        exact ⟨_, _, _, rfl, rfl, Inv_th h t1'.si f1 f2⟩
      · rw [if_neg q, if_neg q]
        refine ih n1 n2 (v + 1) (nI v) _ _ (by omega) (by omega) (by omega) t1'.si w2 ?_ ⟨q1.1, fun f a b => (ra_ne _ _ a).trans (q1.2 f a b)⟩ (fun i hi => by rw [ra_eq, upd_ne _ _ hi]; exact q2 i hi)
        rw [ra_eq]
        have := RRow.fine (S := setG S 2 (nI v)) (v := nI (v + 1)) h12 r1
        rw [setG_2] at this
        exact this
  exact loop 100 FU FU 0 (S.2.2 2) τT _ rfl (by omega) (by omega) t (by
    have : setG S 2 (S.2.2 2) = S := by
      obtain ⟨n, g, q⟩ := S
      unfold setG
      congr 2
      funext j
      unfold upd
      by_cases c : j = 2 <;> simp [c]
    rw [this]; exact wT.1) (by rw [ra_eq]; exact r.1.fine (v := 0) h12) ⟨fun _ _ => rfl, fun f a b => ra_ne _ _ a⟩ (fun i hi => by rw [ra_eq, upd_ne _ _ hi])
