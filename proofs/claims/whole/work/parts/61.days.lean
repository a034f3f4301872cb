/-! days on both sides; sums; days, count agree -/
def sgb (F1 : LF) (t : Int32) (s : Nat) : Bool := decide (F1 (nI s) (irm t 7) (irm t 30) = 1)
theorem sgb_e {F1 : LF} {t : Int32} {s : Nat} (h : FR1 F1) : F1 (nI s) (irm t 7) (irm t 30) = b01 (sgb F1 t s) := by
  unfold sgb
  rcases h (nI s) (irm t 7) (irm t 30) with q | q <;> rw [q] <;> decide
theorem sg_or (a b : Bool) : b01 a ||| (b01 b <<< ((1 : Int32) &&& 31)) = nI (sgN a b) := by cases a <;> cases b <;> decide
theorem b01_if (a : Bool) : (if b01 a = 0 then (0 : Int32) else 1) = b01 a := by cases a <;> decide
theorem sgC {d : Nat} {S : SP} {τ : CS} {F1 : LF} (hd : d < 8) (hF : FR1 F1) (hc : CStr τ d S) (hL : LawC τ (τ.2.2 d 12) F1) : ∃ τ', N_S_signedNow d τ = some (nI (sgN (sgb F1 (S.2.2 0) 0) (sgb F1 (S.2.2 0) 1)), τ') ∧ ceq τ τ' := by
  obtain ⟨τ1, e1, q1⟩ := hL.2 τ ⟨rfl, rfl, rfl, hL.1⟩ (nI 0) (irm (S.2.2 0) 7) (irm (S.2.2 0) 30)
  have hL1 : LawC τ1 (τ1.2.2 d 12) F1 := by rw [q1.2.1]; exact hL.same (ceq_lsame q1)
  obtain ⟨τ2, e2, q2⟩ := hL1.2 τ1 ⟨rfl, rfl, rfl, hL1.1⟩ (nI 1) (irm (S.2.2 0) 7) (irm (S.2.2 0) 30)
  have t1 : τ.1 d 7 = S.2.2 0 := hc.2.2.2.1
  have t2 : τ1.1 d 7 = S.2.2 0 := by rw [q1.1]; exact t1
  rw [sgb_e hF] at e1 e2
  have e1' : N_L_give (τ.2.2 d 12) 0 (irm (S.2.2 0) 7) (irm (S.2.2 0) 30) τ = some (b01 (sgb F1 (S.2.2 0) 0), τ1) := e1
  have e2' : N_L_give (τ1.2.2 d 12) 1 (irm (S.2.2 0) 7) (irm (S.2.2 0) 30) τ1 = some (b01 (sgb F1 (S.2.2 0) 1), τ2) := e2
  refine ⟨τ2, ?_, q1.tr q2⟩
  unfold N_S_signedNow N_S_signOf
  rw [t1, gd_t (decide_eq_true hL.1), e1', ob_s, ob_s, t2, gd_t (decide_eq_true hL1.1), e2', ob_s, ob_s, sg_or]
theorem sgH_l {σ0 : RS} {F0 F1 : LF} {t : Int32} (hL : RLw σ0 F0 F1) (hF1 : FR1 F1) (h15 : σ0.1 15 = 0) : sgH σ0 t (sgb F1 t 0) (sgb F1 t 1) := by
  intro σ hfr
  have h15' : σ.1 15 = 0 := (hfr.1 15 (by omega)).trans h15
  have hl : LawR (σ.2 0) 1 F1 := frr_L (by decide) hfr hL.2
  obtain ⟨σ1, e1, q1⟩ := hl σ ⟨rfl, fun _ _ => rfl⟩ (nI 0) (irm t 7) (irm t 30)
  obtain ⟨σ2, e2, q2⟩ := hl σ ⟨rfl, fun _ _ => rfl⟩ (nI 1) (irm t 7) (irm t 30)
  rw [sgb_e hF1] at e1 e2
  have e1' : M_lawOf 1 0 (irm t 7) (irm t 30) σ = some (b01 (sgb F1 t 0), σ1) := e1
  have e2' : M_lawOf 1 1 (irm t 7) (irm t 30) σ = some (b01 (sgb F1 t 1), σ2) := e2
  unfold M_isSigned
  rw [h15', if_pos (by decide : (0 : Int32) ≤ 0), if_pos (by decide : (0 : Int32) ≤ 0), e1', e2', ob_s, ob_s, b01_if, b01_if]
  exact ⟨⟨σ1, rfl, q1⟩, ⟨σ2, rfl, q2⟩⟩
def d1S (F0 F1 : LF) (S : SP) : SP := dyS F0 (sgb F1 (S.2.2 0) 0) (sgb F1 (S.2.2 0) 1) S 0 S.1
def itD (F0 F1 : LF) : Nat → SP → SP
  | 0, S => S
  | m + 1, S => itD F0 F1 m (d1S F0 F1 S)
theorem paC {τ0 : CS} {d N : Nat} {F0 F1 : LF} (hL : CL τ0 d F0 F1) (hF : FR0 F0) (hF1 : FR1 F1) (hN : N < 1000) : ∀ (m n i : Nat) (S : SP) (D : Int) (τ : CS), i + m = N → m < n → SPok S D → D + m < 1000000 → CW τ0 d S τ → ∃ τ', N_S_passAll_b2 d n (nI N) (nI i) τ = some (0, τ') ∧ CW τ0 d (itD F0 F1 m S) τ' ∧ SPok (itD F0 F1 m S) (D + m) := by
  have hd : d < 8 := by have := hL.1; omega
  intro m
  induction m with
  | zero =>
    intro n i S D τ hm hn hS hD w
    obtain ⟨n, rfl⟩ : ∃ q, n = q + 1 := ⟨n - 1, by omega⟩
    have c1 : nI N ≤ nI i := nI_le (by omega) (by omega)
    simp only [N_S_passAll_b2, if_pos c1]
    refine ⟨τ, rfl, w, ?_⟩
    rw [show D + ((0 : Nat) : Int) = D by omega]
    exact hS
  | succ m ih =>
    intro n i S D τ hm hn hS hD w
    obtain ⟨n, rfl⟩ : ∃ q, n = q + 1 := ⟨n - 1, by omega⟩
    have c1 : ¬ nI N ≤ nI i := nI_ge (by omega) (by omega)
    obtain ⟨τ1, e1, q1⟩ := sgC hd hF1 w.1 (CW_L hL w).2
    have w1 := w.ceq hd q1
    obtain ⟨τ2, e2, w2, s2⟩ := ppC (a := sgb F1 (S.2.2 0) 0) (b := sgb F1 (S.2.2 0) 1) (lo := 0) (hi := S.1) hL hF hS (by omega) rfl (by omega) (Nat.le_refl _) w1
    have e2' : N_S_passPart d 0 (nI S.1) (nI (sgN (sgb F1 (S.2.2 0) 0) (sgb F1 (S.2.2 0) 1))) τ1 = some (0, τ2) := e2
    have hn1 : τ.1 d 5 = nI S.1 := w.1.1
    simp only [N_S_passAll_b2, if_neg c1, e1, ob_s, hn1, e2', nI_1]
    have r := ih n (i + 1) (d1S F0 F1 S) (D + 1) τ2 (by omega) (by omega) s2 (by omega) w2
    rw [show D + ((m + 1 : Nat) : Int) = D + 1 + m by omega]
    exact r
theorem passC {τ0 : CS} {d N : Nat} {F0 F1 : LF} {S : SP} {D : Int} {τ : CS} (hL : CL τ0 d F0 F1) (hF : FR0 F0) (hF1 : FR1 F1) (hN : N < 1000) (hS : SPok S D) (hD : D + N < 1000000) (w : CW τ0 d S τ) : ∃ τ', N_S_passAll d (nI N) τ = some (0, τ') ∧ CW τ0 d (itD F0 F1 N S) τ' ∧ SPok (itD F0 F1 N S) (D + N) := by
  have hF' : FU = 1000 := rfl
  exact paC hL hF hF1 hN N FU 0 S D τ (by omega) (by omega) hS hD w
theorem paR {σ0 : RS} {N : Nat} {F0 F1 : LF} (hL : RLw σ0 F0 F1) (hF : FR0 F0) (hF1 : FR1 F1) (h15 : σ0.1 15 = 0) (hN : N < 1000) : ∀ (m n i : Nat) (S : SP) (D : Int) (σ : RS), i + m = N → m < n → SPok S D → D + m < 1000000 → RW σ0 S σ → ∃ σ', M_passes_b2 n (nI N) (nI i) σ = some (0, σ') ∧ RW σ0 (itD F0 F1 m S) σ' := by
  intro m
  induction m with
  | zero =>
    intro n i S D σ hm hn hS hD w
    obtain ⟨n, rfl⟩ : ∃ q, n = q + 1 := ⟨n - 1, by omega⟩
    have c1 : nI N ≤ nI i := nI_le (by omega) (by omega)
    simp only [M_passes_b2, if_pos c1]
    exact ⟨σ, rfl, w⟩
  | succ m ih =>
    intro n i S D σ hm hn hS hD w
    obtain ⟨n, rfl⟩ : ∃ q, n = q + 1 := ⟨n - 1, by omega⟩
    have c1 : ¬ nI N ≤ nI i := nI_ge (by omega) (by omega)
    obtain ⟨σ1, e1, w1, s1⟩ := dayR hL hF hS (by omega) (sgH_l (t := S.2.2 0) hL hF1 h15) w
    simp only [M_passes_b2, if_neg c1, e1, ob_s, nI_1]
    exact ih n (i + 1) (d1S F0 F1 S) (D + 1) σ1 (by omega) (by omega) s1 (by omega) w1
theorem passR {σ0 : RS} {N : Nat} {F0 F1 : LF} {S : SP} {D : Int} {σ : RS} (hL : RLw σ0 F0 F1) (hF : FR0 F0) (hF1 : FR1 F1) (h15 : σ0.1 15 = 0) (hN : N < 1000) (hS : SPok S D) (hD : D + N < 1000000) (w : RW σ0 S σ) : ∃ σ', M_passes (nI N) σ = some (0, σ') ∧ RW σ0 (itD F0 F1 N S) σ' := by
  have hF' : FU = 1000 := rfl
  exact paR hL hF hF1 h15 hN N FU 0 S D σ (by omega) (by omega) hS hD w
def suL (S : SP) : Nat → Nat → Int32 → Int32
  | 0, _, x => x
  | m + 1, k, x => suL S m (k + 1) (x + S.2.1 2 k)
def suS (S : SP) : Int32 := suL S S.1 0 0
theorem suC {d : Nat} {S : SP} {τ : CS} (h12 : S.1 ≤ 12) (hc : CStr τ d S) : ∀ (m n k : Nat) (x : Int32), k + m = S.1 → m < n → N_S_dirtOfAll_b4 d n x (nI k) τ = some (suL S m k x, τ) := by
  intro m
  induction m with
  | zero =>
    intro n k x hm hn
    obtain ⟨n, rfl⟩ : ∃ q, n = q + 1 := ⟨n - 1, by omega⟩
    have c1 : nI S.1 ≤ nI k := nI_le (by omega) (by omega)
    simp only [N_S_dirtOfAll_b4, hc.1, if_pos c1, suL]
  | succ m ih =>
    intro n k x hm hn
    obtain ⟨n, rfl⟩ : ∃ q, n = q + 1 := ⟨n - 1, by omega⟩
    have hk : k < S.1 := by omega
    have c1 : ¬ nI S.1 ≤ nI k := nI_ge hk (by omega)
    have b1 : inb (nI k) 12 = true := inb_nI (by omega) (by decide)
    have x1 : ix (nI k) = k := ix_nI (by omega)
    simp only [N_S_dirtOfAll_b4, hc.1, if_neg c1, gd_t b1, x1, (hc.2.1 k hk).2.2.1, lt_e, nI_1, suL]
    exact ih n (k + 1) _ (by omega) (by omega)
theorem sumC {d : Nat} {S : SP} {τ : CS} (h12 : S.1 ≤ 12) (hc : CStr τ d S) : N_S_dirtOfAll d τ = some (suS S, τ) := by
  have hF' : FU = 1000 := rfl
  exact suC h12 hc S.1 FU 0 0 (by omega) (by omega)
theorem suR {S : SP} {σ : RS} (h12 : S.1 ≤ 12) (hr : RRow (σ.2 0) S) : ∀ (m n k : Nat) (x : Int32), k + m = S.1 → m < n → M_allDirt_b4 n x (nI k) σ = some (suL S m k x, σ) := by
  intro m
  induction m with
  | zero =>
    intro n k x hm hn
    obtain ⟨n, rfl⟩ : ∃ q, n = q + 1 := ⟨n - 1, by omega⟩
    have c1 : nI S.1 ≤ nI k := nI_le (by omega) (by omega)
    simp only [M_allDirt_b4, hr.1, if_pos c1, suL]
  | succ m ih =>
    intro n k x hm hn
    obtain ⟨n, rfl⟩ : ∃ q, n = q + 1 := ⟨n - 1, by omega⟩
    have hk : k < S.1 := by omega
    have c1 : ¬ nI S.1 ≤ nI k := nI_ge hk (by omega)
    have i2 : M_its (nI k) 2 σ = some (S.2.1 2 k, σ) := its_S (w := 2) h12 hr hk (by decide)
    simp only [M_allDirt_b4, hr.1, if_neg c1, i2, ob_s, lt_e, nI_1, suL]
    exact ih n (k + 1) _ (by omega) (by omega)
theorem sumR {S : SP} {σ : RS} (h12 : S.1 ≤ 12) (hr : RRow (σ.2 0) S) : M_allDirt σ = some (suS S, σ) := by
  have hF' : FU = 1000 := rfl
  exact suR h12 hr S.1 FU 0 0 (by omega) (by omega)
/-- cars as a set -/
theorem csR {S : SP} {σ : RS} {D : Int} {c : Nat} (hS : SPok S D) (hr : RRow (σ.2 0) S) (c1 : c < 2 ^ S.1) (c3 : ∀ k, k < S.1 → S.2.1 3 k = nI (c / 2 ^ k % 2)) : ∀ (m n k : Nat), k + m = S.1 → m < n → M_carSet_b4 n (nI (c % 2 ^ k)) (nI k) σ = some (nI c, σ) := by
  have h12 := hS.1
  intro m
  induction m with
  | zero =>
    intro n k hm hn
    obtain ⟨n, rfl⟩ : ∃ q, n = q + 1 := ⟨n - 1, by omega⟩
    have cc : nI S.1 ≤ nI k := nI_le (by omega) (by omega)
    have hk : k = S.1 := by omega
    simp only [M_carSet_b4, hr.1, if_pos cc]
    rw [hk, Nat.mod_eq_of_lt c1]
  | succ m ih =>
    intro n k hm hn
    obtain ⟨n, rfl⟩ : ∃ q, n = q + 1 := ⟨n - 1, by omega⟩
    have hk : k < S.1 := by omega
    have cc : ¬ nI S.1 ≤ nI k := nI_ge hk (by omega)
    have i3 : M_its (nI k) 3 σ = some (S.2.1 3 k, σ) := its_S (w := 3) h12 hr hk (by decide)
    have hlt : c % 2 ^ k < 2 ^ k := Nat.mod_lt _ (Nat.two_pow_pos k)
    have e : nI (c % 2 ^ k) ||| (S.2.1 3 k <<< (nI k &&& 31)) = nI (c % 2 ^ (k + 1)) := by
      have es : c % 2 ^ (k + 1) = c % 2 ^ k + 2 ^ k * (c / 2 ^ k % 2) := Nat.mod_pow_succ
      rw [c3 k hk, es]
      rcases Nat.mod_two_eq_zero_or_one (c / 2 ^ k) with q | q
      · rw [q, Nat.mul_zero, Nat.add_zero]
        have z : nI 0 <<< (nI k &&& 31) = nI 0 := by
          rw [pk_shlN _ k (sm31 k (by omega)) (by omega), Nat.zero_mul]
        have l31 : c % 2 ^ k < 2 ^ 31 := Nat.lt_of_lt_of_le hlt (Nat.pow_le_pow_right (by decide) (by omega))
        rw [z, ofn_or l31 (by decide), Nat.or_zero]
      · rw [q, Nat.mul_one]
        exact or_pow hlt (by omega)
    simp only [M_carSet_b4, hr.1, if_neg cc, i3, ob_s, lt_e, e, nI_1]
    exact ih n (k + 1) (by omega) (by omega)
theorem carsR {S : SP} {σ : RS} {D : Int} {c : Nat} (hS : SPok S D) (hr : RRow (σ.2 0) S) (c1 : c < 2 ^ S.1) (c3 : ∀ k, k < S.1 → S.2.1 3 k = nI (c / 2 ^ k % 2)) : M_carSet σ = some (nI c, σ) := by
  have h12 := hS.1
  have hF' : FU = 1000 := rfl
  have := csR hS hr c1 c3 S.1 FU 0 (by omega) (by omega)
  rw [Nat.pow_zero, Nat.mod_one] at this
  exact this
/-- street 0 and the row have gone on together -/
theorem Inv_w {k : Nat} {τ τ' : CS} {σ σ' : RS} {S' : SP} (h : Inv k τ σ) (w : CW τ 0 S' τ') (r : RW σ S' σ') (hS : SPok S' 9999) : Inv (k + 1) τ' σ' := by
  obtain ⟨w1, w2⟩ := w
  obtain ⟨r1, r2⟩ := r
  have hc : csame τ τ' := ⟨fun o f a b => w2.2.1 o f (by omega), fun o f a b c => w2.2.2 o f (by omega) c, fun o f a => by rw [w2.1]⟩
  have hr : rsame σ σ' := ⟨fun f q => r2.1 f q, fun f a b c d => r2.2.1 f a⟩
  refine Inv_of h hc hr (lawsok_eq w2.1 (Inv_l h)) ?_
  obtain ⟨S, F0, F1, a1, a2, a3, ⟨⟨t, q1, q2, q3, q4⟩, ⟨v, v1, v2, v3, v4⟩, t3⟩, a5, a6, a7, a8, a9, a10⟩ := h.1
  have hl := fr_l (d := 0) (by decide) w2
  refine ⟨S', F0, F1, hS, r1, w1, ⟨⟨t, q1, ?_, ?_, fun i hi => ?_⟩, ⟨v, v1, ?_, ?_, fun i hi => ?_⟩, ?_⟩, a5, a6, by rw [w2.1]; exact a7.same hl, frr_L (by decide) r2 a8, by rw [w2.1]; exact a9.same hl, frr_L (by decide) r2 a10⟩
  · rw [r2.2.2 _ (by omega)]; exact q2
  · rw [w2.2.1 _ _ (by omega)]; exact q3
  · rw [r2.2.2 _ (by omega), w2.2.2 _ _ (by omega) (by omega)]; exact q4 i hi
  · rw [r2.2.2 _ (by omega)]; exact v2
  · rw [w2.2.1 _ _ (by omega)]; exact v3
  · rw [r2.2.2 _ (by omega), w2.2.2 _ _ (by omega) (by omega)]; exact v4 i hi
  · rw [r2.2.2 _ (by omega), w2.2.1 _ _ (by omega)]; exact t3
/-- what an invariant gives for days -/
theorem Inv_day {k : Nat} {τ : CS} {σ : RS} (h : Inv k τ σ) : ∃ (S : SP) (F0 F1 : LF), SPok S 9999 ∧ CW τ 0 S τ ∧ RW σ S σ ∧ CL τ 0 F0 F1 ∧ RLw σ F0 F1 ∧ FR0 F0 ∧ FR1 F1 ∧ σ.1 15 = 0 := by
  obtain ⟨⟨S, F0, F1, a1, a2, a3, a4, a5, a6, a7, a8, a9, a10⟩, -, -, -, -, h15, -⟩ := h
  exact ⟨S, F0, F1, a1, ⟨a3, fr.rf 0 τ⟩, ⟨a2, frr.rf σ⟩, ⟨by decide, a7, a9⟩, ⟨a8, a10⟩, a5, a6, h15⟩
theorem SPok_mono {S : SP} {D D' : Int} (h : SPok S D) (hd : D ≤ D') : SPok S D' := by
  obtain ⟨h1, h2, ⟨h3, h3'⟩, h4⟩ := h
  exact ⟨h1, h2, ⟨h3, by omega⟩, h4⟩
theorem SPok_self {S : SP} {D : Int} (h : SPok S D) : SPok S (S.2.2 0).toInt := by
  obtain ⟨h1, h2, ⟨h3, h3'⟩, h4⟩ := h
  exact ⟨h1, h2, ⟨h3, Int.le_refl _⟩, h4⟩
theorem ag_days (x : Int32) : Agree Inv (N_T_days x) (M_days x) := by
  intro k τ σ hk h
  show AgP k _ _
  unfold N_T_days M_days
  refine chk E1 h (fun c1 c2 => ?_)
  obtain ⟨n, hn1, hn2, rfl⟩ := in_lit 1 60 (by decide) (by decide) c1 c2
  obtain ⟨S, F0, F1, hS, w, r, hL, hR, hF0, hF1, h15⟩ := Inv_day h
  have t1 : τ.1 0 7 = S.2.2 0 := w.1.2.2.2.1
  have t2 : σ.2 0 0 = S.2.2 0 := r.1.2.2.1
  rw [t1, t2]
  by_cases c : S.2.2 0 + nI n ≤ 9999
  · rw [if_pos c, if_pos c]
    obtain ⟨t, ht, et⟩ := rng_nat (b := 9999) (by decide) hS.2.2.1
    have hn3 : t + n ≤ 9999 := by
      rw [et, nI_add] at c
      exact (nI_leI (a := t + n) (b := 9999) (by omega) (by decide)).mp c
    have hS' : SPok S t := by
      have := SPok_self hS
      rw [et, nI_toInt (by omega)] at this
      exact this
    obtain ⟨τ', e1, w', s'⟩ := passC (N := n) hL hF0 hF1 (by omega) hS' (by omega) w
    obtain ⟨σ', e2, r'⟩ := passR (N := n) hR hF0 hF1 h15 (by omega) hS' (by omega) r
    rw [e1, e2, ob_s, ob_s, sumC s'.1 w'.1, sumR s'.1 r'.1, ob_s, ob_s]
    exact ⟨_, _, _, rfl, rfl, Inv_w h w' r' (SPok_mono s' (by omega))⟩
  · rw [if_neg c, if_neg c]
    exact err2 E3 h
theorem ag_count (x : Int32) : Agree Inv (N_T_count x) (M_count x) := by
  intro k τ σ hk h
  show AgP k _ _
  obtain ⟨S, F0, F1, hS, w, r, -⟩ := Inv_day h
  obtain ⟨⟨-, -, -, -, -, -, ⟨⟨t, q1, q2, q3, q4⟩, ⟨v, v1, v2, v3, v4⟩, t3⟩, -⟩, -, -, ⟨n, hn, n1, n2, -⟩, -⟩ := id h
  obtain ⟨c0, -, ⟨c, cl, c2, c3⟩, c4, c5, c6, c7⟩ := w.1
  obtain ⟨r0, -, r4, r5, r6, r7⟩ := r.1
  have I := Inv_mono _ _ _ h
  unfold N_T_count M_count
  by_cases x0 : x = 0
  · rw [if_pos x0, if_pos x0]; exact ⟨_, _, _, rfl, by rw [c0, r0], I⟩
  rw [if_neg x0, if_neg x0]
  by_cases x1 : x = 1
  · rw [if_pos x1, if_pos x1]; exact ⟨_, _, _, rfl, by rw [c4, r4], I⟩
  rw [if_neg x1, if_neg x1]
  by_cases x2 : x = 2
  · rw [if_pos x2, if_pos x2]; exact ⟨_, _, _, rfl, by rw [c5, r5], I⟩
  rw [if_neg x2, if_neg x2]
  by_cases x3 : x = 3
  · rw [if_pos x3, if_pos x3]; exact ⟨_, _, _, rfl, by rw [c6, r6], I⟩
  rw [if_neg x3, if_neg x3]
  by_cases x4 : x = 4
  · rw [if_pos x4, if_pos x4]; exact ⟨_, _, _, rfl, by rw [c7, r7], I⟩
  rw [if_neg x4, if_neg x4]
  by_cases x5 : x = 5
  · rw [if_pos x5, if_pos x5, sumC hS.1 w.1, sumR hS.1 r.1, ob_s, ob_s]; exact ⟨_, _, _, rfl, rfl, I⟩
  rw [if_neg x5, if_neg x5]
  by_cases x6 : x = 6
  · rw [if_pos x6, if_pos x6, carsR hS r.1 cl c3, ob_s]; exact ⟨_, _, _, rfl, by rw [c2], I⟩
  rw [if_neg x6, if_neg x6]
  by_cases x7 : x = 7
  · rw [if_pos x7, if_pos x7]; exact ⟨_, _, _, rfl, by rw [q2, q3], I⟩
  rw [if_neg x7, if_neg x7]
  by_cases x8 : x = 8
  · rw [if_pos x8, if_pos x8]; exact ⟨_, _, _, rfl, by rw [v2, v3], I⟩
  rw [if_neg x8, if_neg x8]
  by_cases x9 : x = 9
  · rw [if_pos x9, if_pos x9]; exact ⟨_, _, _, rfl, by rw [n1, n2], I⟩
  rw [if_neg x9, if_neg x9]
  by_cases x10 : x = 10
  · rw [if_pos x10, if_pos x10]; exact ⟨_, _, _, rfl, by rw [t3], I⟩
  rw [if_neg x10, if_neg x10]
  exact err2 E1 h
