/-! fits -/
def leq (S : SP) (g : Nat → Int32) : Nat → Nat → Bool
  | 0, _ => true
  | m + 1, k => decide (g k = S.2.1 2 k) && leq S g m (k + 1)
theorem lqC {S : SP} {τ : CS} {s : Nat} (h12 : S.1 ≤ 12) (hs : s < 4) (hc : CStr τ 1 S) : ∀ (m n k : Nat), k + m = S.1 → m < n → N_T_liesAs_b2 n (nI s) (nI k) τ = some (b01 (leq S (τ.2.1 6 s) m k), τ) := by
  intro m
  induction m with
  | zero =>
    intro n k hm hn
    obtain ⟨n, rfl⟩ : ∃ q, n = q + 1 := ⟨n - 1, by omega⟩
    have c1 : nI S.1 ≤ nI k := nI_le (by omega) (by omega)
    rw [N_T_liesAs_b2, hc.1, if_pos c1]; rfl
  | succ m ih =>
    intro n k hm hn
    obtain ⟨n, rfl⟩ : ∃ q, n = q + 1 := ⟨n - 1, by omega⟩
    have hk : k < S.1 := by omega
    have c1 : ¬ nI S.1 ≤ nI k := nI_ge hk (by omega)
    have b1 : inb (nI k) 12 = true := inb_nI (by omega) (by decide)
    have b2 : inb (nI k) 40 = true := inb_nI (by omega) (by decide)
    have b3 : inb (nI s) 4 = true := inb_nI (by omega) (by decide)
    have x1 : ix (nI k) = k := ix_nI (by omega)
    have x2 : ix (nI s) = s := ix_nI (by omega)
    have el : leq S (τ.2.1 6 s) (m + 1) k = (decide (τ.2.1 6 s k = S.2.1 2 k) && leq S (τ.2.1 6 s) m (k + 1)) := rfl
    rw [N_T_liesAs_b2, hc.1, if_neg c1, gd_t b3, gd_t b2, gd_t b1, x1, x2, (hc.2.1 k hk).2.2.1, el]
    by_cases c : τ.2.1 6 s k = S.2.1 2 k
    · rw [if_pos c, decide_eq_true c, nI_1, ih n (k + 1) (by omega) (by omega)]; rfl
    · rw [if_neg c, decide_eq_false c]; rfl
theorem liesC {S : SP} {τ : CS} {s : Nat} (h12 : S.1 ≤ 12) (hs : s < 4) (hc : CStr τ 1 S) : N_T_liesAs (nI s) τ = some (b01 (leq S (τ.2.1 6 s) S.1 0), τ) := by
  have hF' : FU = 1000 := rfl
  exact lqC h12 hs hc S.1 FU 0 (by omega) (by omega)
theorem lqR {S : SP} {σ : RS} {s : Nat} {g : Nat → Int32} (h12 : S.1 ≤ 12) (hs : s < 4) (hr : RRow (σ.2 0) S) (hg : ∀ i, i < 40 → σ.2 18 (40 * s + i) = g i) : ∀ (m n k : Nat) (a : Bool), k + m = S.1 → m < n → M_isDirtSo_b8 n (nI s) (b01 a) (nI k) σ = some (b01 (a && leq S g m k), σ) := by
  intro m
  induction m with
  | zero =>
    intro n k a hm hn
    obtain ⟨n, rfl⟩ : ∃ q, n = q + 1 := ⟨n - 1, by omega⟩
    have c1 : nI S.1 ≤ nI k := nI_le (by omega) (by omega)
    have e : leq S g 0 k = true := rfl
    rw [M_isDirtSo_b8, hr.1, if_pos c1, gd_t (by cases a <;> decide), e, Bool.and_true]
  | succ m ih =>
    intro n k a hm hn
    obtain ⟨n, rfl⟩ : ∃ q, n = q + 1 := ⟨n - 1, by omega⟩
    have hk : k < S.1 := by omega
    have c1 : ¬ nI S.1 ≤ nI k := nI_ge hk (by omega)
    have i2 : M_its (nI k) 2 σ = some (S.2.1 2 k, σ) := its_S (w := 2) h12 hr hk (by decide)
    have e1 : (40 : Int32) * nI s + nI k = nI (40 * s + k) := by rw [show (40 : Int32) = nI 40 from rfl, pk_mul, nI_add]
    have b1 : inb (nI (40 * s + k)) 160 = true := inb_nI (by omega) (by decide)
    have x1 : ix (nI (40 * s + k)) = 40 * s + k := ix_nI (by omega)
    have el : leq S g (m + 1) k = (decide (g k = S.2.1 2 k) && leq S g m (k + 1)) := rfl
    rw [M_isDirtSo_b8, hr.1, if_neg c1, el]
    unfold M_isDirtSo_b47
    rw [nI_1]
    cases a
    · have := ih n (k + 1) false (by omega) (by omega)
      rw [if_pos b0z]
      exact this
    · rw [if_neg b1z, i2, ob_s, e1, gd_t b1, x1, hg k (by omega)]
      by_cases c : g k = S.2.1 2 k
      · have := ih n (k + 1) true (by omega) (by omega)
        rw [if_pos c.symm, decide_eq_true c]
        exact this
      · have := ih n (k + 1) false (by omega) (by omega)
        rw [if_neg (fun q => c q.symm), decide_eq_false c]
        exact this
def cD (P : Nat → Bool) : Nat → Nat
  | 0 => 0
  | m + 1 => cD P m + (if P m = true then 1 else 0)
theorem cD_le (P : Nat → Bool) : ∀ m, cD P m ≤ m
  | 0 => Nat.le_refl _
  | m + 1 => by
    have := cD_le P m
    show cD P m + (if P m = true then 1 else 0) ≤ m + 1
    split <;> omega
def fh (P : Nat → Bool) : Nat → Option Nat
  | 0 => none
  | m + 1 => match fh P m with
    | some a => some a
    | none => if P m = true then some m else none
def oI (d : Int32) (o : Option Nat) : Int32 := match o with
  | some a => nI a
  | none => d
theorem fh_lt (P : Nat → Bool) : ∀ m a, fh P m = some a → a < m := by
  intro m
  induction m with
  | zero => intro a h; cases h
  | succ m ih =>
    intro a h
    have e : fh P (m + 1) = (match fh P m with
      | some a => some a
      | none => if P m = true then some m else none) := rfl
    rw [e] at h
    cases q : fh P m with
    | some b =>
      rw [q] at h
      cases h
      have := ih a q
      omega
    | none =>
      rw [q] at h
      by_cases c : P m = true
      · have h' : (if P m = true then some m else none) = some a := h
        rw [if_pos c] at h'
        cases h'
        omega
      · have h' : (if P m = true then some m else none) = some a := h
        rw [if_neg c] at h'
        cases h'
theorem fh_s (P : Nat → Bool) (m : Nat) (x : Int32) : oI x (fh P (m + 1)) = oI (if P m = true then nI m else x) (fh P m) := by
  have e : fh P (m + 1) = (match fh P m with
    | some a => some a
    | none => if P m = true then some m else none) := rfl
  rw [e]
  cases fh P m with
  | some a => rfl
  | none =>
    show oI x (if P m = true then some m else none) = (if P m = true then nI m else x)
    by_cases c : P m = true
    · rw [if_pos c, if_pos c]; rfl
    · rw [if_neg c, if_neg c]; rfl
theorem cD_fh (P : Nat → Bool) : ∀ m, cD P m = 0 ↔ fh P m = none := by
  intro m
  induction m with
  | zero => exact ⟨fun _ => rfl, fun _ => rfl⟩
  | succ m ih =>
    have e : fh P (m + 1) = (match fh P m with
      | some a => some a
      | none => if P m = true then some m else none) := rfl
    have e2 : cD P (m + 1) = cD P m + (if P m = true then 1 else 0) := rfl
    rw [e, e2]
    cases q : fh P m with
    | some a =>
      have : cD P m ≠ 0 := fun z => by rw [ih.mp z] at q; cases q
      exact ⟨fun z => by omega, fun z => by cases z⟩
    | none =>
      have z : cD P m = 0 := ih.mpr q
      rw [z]
      by_cases c : P m = true
      · rw [if_pos c]
        show (0 + 1 = 0) ↔ (if P m = true then some m else none) = none
        rw [if_pos c]
        exact ⟨fun z => by omega, fun z => by cases z⟩
      · rw [if_neg c]
        show (0 + 0 = 0) ↔ (if P m = true then some m else none) = none
        rw [if_neg c]
        exact ⟨fun _ => rfl, fun _ => rfl⟩
theorem chkS {k j : Nat} {τ : CS} {σ : RS} {x e : Int32} {A : CS → Option (Int32 × CS)} {B : RS → Option (Int32 × RS)} (he : isE e j) (h : Inv k τ σ) (K : ∀ s : Nat, s < 4 → x = nI s → AgP k (A τ) (B σ)) : AgP k (ob (N_T_isSheet x τ) fun v1 s => (if v1 = 0 then (ob (N_T_fail e s) fun v5 s6 => (some (v5, s6))) else A s)) (ob (M_isSheet x σ) fun v1 s => (if v1 = 0 then (ob (M_errs e s) fun v5 s6 => (some (v5, s6))) else B s)) := by
  unfold N_T_isSheet M_isSheet N_T_within M_in
  rw [ob_s, ob_s, gd_t (isb_in _ _ _), gd_t (isb_in _ _ _), ob_s, ob_s]
  by_cases c : (if x < 0 then (0 : Int32) else if 3 < x then 0 else 1) = 0
  · rw [if_pos c, if_pos c]; exact err2 he h
  · rw [if_neg c, if_neg c]
    obtain ⟨c1, c2⟩ := in_ne c
    obtain ⟨s, -, hs, e⟩ := in_lit 0 3 (by decide) (by decide) c1 c2
    exact K s (by omega) e
theorem Inv_s {k : Nat} {τ : CS} {σ : RS} (h : Inv k τ σ) : Shts τ σ := by
  obtain ⟨-, -, h3, -⟩ := h
  exact h3
theorem ag_fits (x z : Int32) : Agree Inv (N_T_fits x z) (M_fits x z) := by
  intro k τ σ hk h
  show AgP k _ _
  unfold N_T_fits M_fits
  refine chkS E1 h (fun s hs hx => chk E1 h (fun c3 c4 => ?_))
  subst hx
  obtain ⟨u, -, hu, rfl⟩ := in_lit 0 1 (by decide) (by decide) c3 c4
  obtain ⟨S, F0, F1, hS, w, r, hL, hR, hF0, hF1, h15⟩ := Inv_day h
  have h12 := hS.1
  obtain ⟨sh1, sh2⟩ := Inv_s h
  obtain ⟨-, e16, n, hn, e7, e17, -⟩ := sh1 s hs
  have bs : inb (nI s) 4 = true := inb_nI (by omega) (by decide)
  have xs : ix (nI s) = s := ix_nI (by omega)
  have n1 : τ.1 0 5 = nI S.1 := w.1.1
  have n2 : σ.2 0 2 = nI S.1 := r.1.1
  simp only [gd_t bs, xs, e16, e7, e17, n1, n2]
  by_cases c0 : τ.2.1 5 6 s = 0
  · rw [if_pos c0, if_pos c0]; exact err2 E2 h
  rw [if_neg c0, if_neg c0]
  by_cases c6 : ¬ nI n = nI S.1
  · rw [if_neg c6, if_neg c6]; exact err2 E2 h
  have c5 : nI n = nI S.1 := Decidable.byContradiction c6
  rw [if_pos c5, if_pos c5]
  obtain ⟨σS, e2, b⟩ := save_e σ
  rw [e2, ob_s]
  have hF' : FU = 1000 := rfl
  obtain ⟨P, hP⟩ : ∃ P : Nat → Bool, P = fun v => leq (d1S F0 F1 (setG S 2 (nI v))) (τ.2.1 6 s) S.1 0 := ⟨_, rfl⟩
  have okv : ∀ v, v < 100 → SPok (setG S 2 (nI v)) 9999 := fun v hv => hS.fine (rng_nI (b := 99) (by omega) (by decide))
  -- one fine, in the class
  have one : ∀ (v : Nat) (τ1 : CS), v < 100 → t1 τ τ1 → ∃ τ2 τ3 τ4, N_S_thinkOf 1 0 τ1 = some (0, τ2) ∧ N_S_passAll 1 1 (si τ2 1 9 (nI v)) = some (0, τ3) ∧ N_T_liesAs (nI s) τ3 = some (b01 (P v), τ4) ∧ t1 τ τ4 := by
    intro v τ1 hv t
    obtain ⟨τT, e1, t2, wT, hLT⟩ := think1 h12 t w.1 hL
    have w2 := wT.1.fine (v := nI v)
    obtain ⟨τ3, e3, w3, s3⟩ := pass1C (CL_si (f := 9) (v := nI v) hLT) hF0 hF1 (okv v hv) (by omega) ⟨w2, fr.rf 1 _⟩
    have t3 : t1 τ τ3 := t2.si.fr w3.2
    refine ⟨τT, τ3, τ3, e1, e3, ?_, t3⟩
    have := liesC (s := s) s3.1 hs w3.1
    rw [t3.2.1 6 s (by decide) (by omega)] at this
    rw [hP]
    exact this
  have two : ∀ (v : Nat) (σ1 : RS), v < 100 → rB σ σ1 → ∃ σ2 σ3, M_isDirtSo (nI s) (ra σ1 0 (upd (σ1.2 0) 8 (nI v))) = some (b01 (P v), σ2) ∧ M_moveAll 2 0 σ2 = some (0, σ3) ∧ rB σ σ3 := by
    intro v σ1 hv bb
    have r1 : RRow ((ra σ1 0 (upd (σ1.2 0) 8 (nI v))).2 0) (setG S 2 (nI v)) := by rw [ra_eq]; exact (rB_W h12 bb r.1).1.fine h12
    have hRl := rB_L bb hR
    have hR1 : RLw (ra σ1 0 (upd (σ1.2 0) 8 (nI v))) F0 F1 := ⟨by rw [ra_eq]; exact hRl.1.up (by decide) (by omega), by rw [ra_eq]; exact hRl.2.up (by decide) (by omega)⟩
    have q15 : σ1.1 15 = 0 := rB_15 bb h15
    obtain ⟨σ2, e3, w3⟩ := pass1R hR1 hF0 hF1 q15 (okv v hv) (by omega) ⟨r1, frr.rf _⟩
    have b2 : rT σ σ2 := (bb.1.ra0).frr w3.2
    obtain ⟨σ3, e4, b3⟩ := back_e b2
    refine ⟨σ2, σ3, ?_, e4, b3⟩
    have hg : ∀ i, i < 40 → σ2.2 18 (40 * s + i) = τ.2.1 6 s i := fun i hi => by rw [b2.1.2 18 (by decide) (by decide)]; exact sh2 s hs i hi
    have e5 := lqR (S := d1S F0 F1 (setG S 2 (nI v))) (g := τ.2.1 6 s) h12 hs w3.1 hg S.1 FU 0 true (by show 0 + S.1 = S.1; omega) (by omega)
    unfold M_isDirtSo
    rw [e3, ob_s, hP]
    exact e5
  have lC : ∀ (m f v : Nat) (τ1 : CS), v + m = 100 → m < f → t1 τ τ1 → ∃ τ2, t1 τ τ2 ∧ N_T_fits_b63 f (nI s) (nI u) (nI (cD P v)) (oI (-1) (fh P v)) (nI v) τ1 = (if nI u = 0 then some (nI (cD P 100), τ2) else if nI (cD P 100) = 0 then ob (N_T_fail (-1000000002) τ2) fun v s => some (v, s) else some (oI (-1) (fh P 100), τ2)) := by
    intro m
    induction m with
    | zero =>
      intro f v τ1 hm hf t
      obtain ⟨f, rfl⟩ : ∃ q, f = q + 1 := ⟨f - 1, by omega⟩
      have hv : v = 100 := by omega
      subst hv
      rw [N_T_fits_b63, if_pos (by decide : (99 : Int32) < nI 100)]
      exact ⟨τ1, t, rfl⟩
    | succ m ih =>
      intro f v τ1 hm hf t
      obtain ⟨f, rfl⟩ : ∃ q, f = q + 1 := ⟨f - 1, by omega⟩
      obtain ⟨τ2, τ3, τ4, e1, e3, e4, t4⟩ := one v τ1 (by omega) t
      have c : ¬ (99 : Int32) < nI v := nI_nlt (a := 99) (b := v) (by omega) (by decide)
      have hcv := cD_le P v
      obtain ⟨τ5, t5, e5⟩ := ih f (v + 1) τ4 (by omega) (by omega) t4
      refine ⟨τ5, t5, ?_⟩
      rw [N_T_fits_b63, if_neg c, e1, ob_s, lt_e, e3, ob_s, e4, ob_s, ← e5]
      unfold N_T_fits_b123
      rw [nI_1]
      have ec : cD P (v + 1) = cD P v + (if P v = true then 1 else 0) := rfl
      cases hp : P v
      · rw [if_pos b0z, fh_s, hp, if_neg fnt, ec, hp, if_neg fnt]; rfl
      · rw [if_neg b1z, lt_e, fh_s, hp, if_pos tt, ec, hp, if_pos tt, nI_1]
        congr 1
        cases hq : fh P v with
        | none => rfl
        | some a =>
          have ha := fh_lt P v a hq
          show (if 0 ≤ nI a then nI a else nI v) = nI a
          rw [if_pos (nI_pos' (by omega))]
  have lR : ∀ (m f q : Nat) (y : Int32) (σ1 : RS), m ≤ 100 → m < f → rB σ σ1 → ∃ σ2, rB σ σ2 ∧ M_fits_b75 f (nI s) (nI u) (nI q) y (nI m + (-1)) σ1 = (if nI u = 1 then (if nI (q + cD P m) = 0 then ob (M_errs (-1000000002) σ2) fun v s => some (v, s) else M_fits_b157 (nI u) (nI (q + cD P m)) (oI y (fh P m)) σ2) else M_fits_b157 (nI u) (nI (q + cD P m)) (oI y (fh P m)) σ2) := by
    intro m
    induction m with
    | zero =>
      intro f q y σ1 hm hf bb
      obtain ⟨f, rfl⟩ : ∃ q, f = q + 1 := ⟨f - 1, by omega⟩
      rw [M_fits_b75, if_pos (by decide : nI 0 + (-1) < 0)]
      exact ⟨σ1, bb, rfl⟩
    | succ m ih =>
      intro f q y σ1 hm hf bb
      obtain ⟨f, rfl⟩ : ∃ q, f = q + 1 := ⟨f - 1, by omega⟩
      obtain ⟨σ2, σ3, e1, e2, b3⟩ := two m σ1 (by omega) bb
      obtain ⟨σ4, b4, e4⟩ := ih f (q + (if P m = true then 1 else 0)) (if P m = true then nI m else y) σ3 (by omega) (by omega) b3
      refine ⟨σ4, b4, ?_⟩
      have ec : q + cD P (m + 1) = q + (if P m = true then 1 else 0) + cD P m := by
        show q + (cD P m + (if P m = true then 1 else 0)) = _
        omega
      rw [M_fits_b75, pk_m1, if_neg (nI_pos (by omega)), lt_e, e1, ob_s, e2, ob_s, lt_e, lt_e, fh_s, ec, ← e4]
      cases P m
      · rw [if_pos b0z, if_pos b0z, if_neg fnt, if_neg fnt]
        have z : nI q + (0 : Int32) = nI (q + 0) := nI_add q 0
        rw [z]
      · rw [if_neg b1z, if_neg b1z, if_pos tt, if_pos tt, nI_1]
  obtain ⟨τ2, t2, eC⟩ := lC 100 FU 0 τ rfl (by omega) (t1.rf (Inv_l h))
  obtain ⟨σ2, b2, eR⟩ := lR 100 FU 0 0 σS (by omega) (by omega) b
  have eC' : N_T_fits_b63 FU (nI s) (nI u) 0 (-1) 0 τ = (if nI u = 0 then some (nI (cD P 100), τ2) else if nI (cD P 100) = 0 then ob (N_T_fail (-1000000002) τ2) fun v s => some (v, s) else some (oI (-1) (fh P 100), τ2)) := eC
  have e99 : nI 100 + (-1) = (99 : Int32) := by decide
  rw [e99, Nat.zero_add] at eR
  have eR' : M_fits_b75 FU (nI s) (nI u) 0 0 99 σS = _ := eR
  rw [eC', eR']
  have hcv := cD_le P 100
  unfold M_fits_b157
  rcases (show u = 0 ∨ u = 1 by omega) with rfl | rfl
  · rw [if_pos (by decide : nI 0 = (0 : Int32)), if_neg (by decide : ¬ nI 0 = (1 : Int32)), if_pos (by decide : nI 0 = (0 : Int32))]
    exact ⟨_, _, _, rfl, rfl, Inv_tB h t2 b2⟩
  · rw [if_neg (by decide : ¬ nI 1 = (0 : Int32)), if_pos (by decide : nI 1 = (1 : Int32))]
    by_cases c : cD P 100 = 0
    · rw [c, if_pos (by decide : nI 0 = (0 : Int32)), if_pos (by decide : nI 0 = (0 : Int32))]
      exact errT E2 h t2 b2
    · have c' : ¬ nI (cD P 100) = 0 := nI_ne0 (by omega) (by omega)
      rw [if_neg c', if_neg c', if_neg (by decide : ¬ nI 1 = (0 : Int32))]
      cases hq : fh P 100 with
      | none => exact absurd ((cD_fh P 100).mpr hq) c
      | some a => exact ⟨_, _, _, rfl, rfl, Inv_tB h t2 b2⟩
