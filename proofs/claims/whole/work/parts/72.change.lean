/-! change, as -/
theorem flip_bit {n c j : Nat} (hc : c < 2 ^ n) (hj : j < n) (b : Bool) : ∃ c' : Nat, c' < 2 ^ n ∧ (∀ i, c'.testBit i = if i = j then b else c.testBit i) ∧ ∀ s : CS, n ≤ 12 → s.1 0 6 = nI c → N_S_park 0 (nI j) (b01 b) s = some (0, si s 0 6 (nI c')) := by
  cases b
  · refine ⟨nand c (2 ^ j), Nat.lt_of_le_of_lt nand_le hc, fun i => ?_, fun s hn hs => ?_⟩
    · rw [nand_bit, Nat.testBit_two_pow]
      by_cases q : i = j
      · subst q; simp
      · rw [if_neg q, decide_eq_false (fun z => q z.symm)]; simp
    · have q13 := p13 hn
      have pl : 2 ^ j < 2 ^ 31 := Nat.pow_lt_pow_right (by decide) (by omega)
      unfold N_S_park
      rw [if_pos b0z, lt_e, hs, shl31 j (by omega), ofn_nand (by omega) pl]
  · refine ⟨c ||| 2 ^ j, Nat.or_lt_two_pow hc (Nat.pow_lt_pow_right (by decide) hj), fun i => ?_, fun s hn hs => ?_⟩
    · rw [Nat.testBit_or, Nat.testBit_two_pow]
      by_cases q : i = j
      · subst q; simp
      · rw [if_neg q, decide_eq_false (fun z => q z.symm)]; simp
    · have q13 := p13 hn
      have pl : 2 ^ j < 2 ^ 31 := Nat.pow_lt_pow_right (by decide) (by omega)
      unfold N_S_park
      rw [if_neg b1z, lt_e, hs, shl31 j (by omega), ofn_or (by omega) pl]
theorem Inv_car {k j c' : Nat} {τ : CS} {σ : RS} {S : SP} {b : Bool} (h : Inv k τ σ) (hS : SPok S 9999) (w : CStr τ 0 S) (r : RRow (σ.2 0) S) (hj : j < S.1) (hc' : c' < 2 ^ S.1) (hb : ∀ i, i < S.1 → b01 (c'.testBit i) = if i = j then b01 b else S.2.1 3 i) : Inv k (si τ 0 6 (nI c')) (ra σ 0 (upd (σ.2 0) (10 + 5 * j + 3) (b01 b))) := by
  have h12 := hS.1
  refine Inv_of0 h (cs_si (by omega)) (rs_ra (by omega)) (lawsok_eq (τ := τ) rfl (Inv_l h)) ?_
  rw [ra_eq]
  have r0 : RRow (σ.2 0) (setC S (S.2.1 3)) := by rw [setC_id]; exact r
  refine Kept_str (S' := setC S (upd (S.2.1 3) j (b01 b))) h.1 ?_ (r0.cars h12 hj) (w.cars hc' (fun i hi => ?_)) (lsame_si (by decide)) (fun f => rfl) (fun f hf => ?_) (fun f hf => rfl) (fun i hi => ?_) ?_
  · refine hS.cars (fun i hi => ?_)
    by_cases q : i = j
    · subst q
      rw [upd_eq]
      cases b
      · exact Or.inl rfl
      · exact Or.inr rfl
    · rw [upd_ne _ _ q]; exact (hS.2.1 i hi).2.2.2.1
  · rw [← b01_n, hb i hi]
    by_cases q : i = j
    · subst q; rw [upd_eq, if_pos rfl]
    · rw [upd_ne _ _ q, if_neg q]
  · exact si_ne _ _ (by omega)
  · exact upd_ne _ _ (by omega)
  · rw [upd_ne _ _ (by omega), si_ne _ _ (by decide)]; exact Inv_z h
theorem ag_change (x z v : Int32) : Agree Inv (N_T_change x z v) (M_change x z v) := by
  intro k τ σ hk h
  show AgP k _ _
  obtain ⟨S, hS12, hr, hc, hok, n1, n2⟩ := Inv_n h
  have bec : ∀ (j f : Nat) (wz : Nat), j < S.1 → f = 2 + wz → wz < 3 → M_becomes ((((10 : Int32) + ((5 : Int32) * nI j)) + (2 : Int32)) + nI wz) v σ = some (S.2.1 f j, ra σ 0 (upd (σ.2 0) (10 + 5 * j + f) v)) := by
    intro j f wz hj hf hw
    have e : (((10 : Int32) + ((5 : Int32) * nI j)) + (2 : Int32)) + nI wz = nI (10 + 5 * j + f) := by
      rw [show (10 : Int32) = nI 10 from rfl, show (5 : Int32) = nI 5 from rfl, show (2 : Int32) = nI 2 from rfl, pk_mul, nI_add, nI_add, nI_add]
      congr 1; omega
    unfold M_becomes
    rw [e, gd_t (inb_nI (by omega) (by decide)), lt_e, gd_t (inb_nI (by omega) (by decide)), lt_e, ix_nI (by omega), hr.2.1 j hj f (by omega)]
  unfold N_T_change M_change
  rw [has_e, ob_s, n2]
  unfold N_T_within
  by_cases z0 : z = 0
  · subst z0
    rw [if_pos rfl]
    unfold M_in M_change_b49
    rw [ob_s, ob_s, isYard_e, ob_s, n1]
    by_cases cy : (if x < 0 then (0 : Int32) else if nI S.1 - 1 < x then 0 else 1) = 0
    · rw [if_pos cy, if_pos cy]; exact err2 E1 h
    rw [if_neg cy, if_neg cy, if_neg (by decide)]
    unfold N_T_mostOfYard
    rw [if_pos rfl, ob_s, ob_s]
    by_cases cv : (if v < 0 then (0 : Int32) else if 999 < v then 0 else 1) = 0
    · rw [if_pos cv, if_pos cv]; exact err2 E1 h
    rw [if_neg cv, if_neg cv, if_pos rfl]
    obtain ⟨y1, y2⟩ := in_ne cy
    obtain ⟨j, hj, rfl⟩ := in_cnt (by omega) y1 y2
    obtain ⟨v1, v2⟩ := in_ne cv
    have b1 : inb (nI j) 12 = true := inb_nI (by omega) (by decide)
    have x1 : ix (nI j) = j := ix_nI (by omega)
    have eb := bec j 2 0 hj rfl (by decide)
    have eb' : M_becomes ((((10 : Int32) + ((5 : Int32) * nI j)) + (2 : Int32)) + 0) v σ = _ := eb
    rw [gd_t b1, lt_e, gd_t b1, lt_e, x1, eb', ob_s, (hc.2.1 j hj).2.2.1]
    refine ⟨_, _, _, rfl, rfl, Inv_of h (cs_sa (by omega)) (rs_ra (by omega)) (lawsok_eq (τ := τ) rfl (Inv_l h)) ?_⟩
    rw [ra_eq]
    exact Kept_y (f := 2) hS12 hr hj (Or.inr (Or.inr (Or.inl rfl))) (yr2 (rng_in (a := 0) (b := 999) (by decide) (by decide) v1 v2)) h.1
  rw [if_neg z0]
  by_cases z1 : z = 1
  · subst z1
    rw [if_pos rfl]
    unfold M_in M_change_b49
    rw [ob_s, ob_s, isYard_e, ob_s, n1]
    by_cases cy : (if x < 0 then (0 : Int32) else if nI S.1 - 1 < x then 0 else 1) = 0
    · rw [if_pos cy, if_pos cy]; exact err2 E1 h
    rw [if_neg cy, if_neg cy, if_neg (by decide)]
    unfold N_T_mostOfYard
    rw [if_neg i10, if_pos rfl, ob_s, ob_s]
    by_cases cv : (if v < 0 then (0 : Int32) else if 1 < v then 0 else 1) = 0
    · rw [if_pos cv, if_pos cv]; exact err2 E1 h
    rw [if_neg cv, if_neg cv, if_neg i10, if_pos rfl]
    obtain ⟨y1, y2⟩ := in_ne cy
    obtain ⟨j, hj, rfl⟩ := in_cnt (by omega) y1 y2
    obtain ⟨v1, v2⟩ := in_ne cv
    obtain ⟨u, -, hu, rfl⟩ := in_lit 0 1 (by decide) (by decide) v1 v2
    obtain ⟨b, hb⟩ : ∃ b : Bool, nI u = b01 b := by
      rcases (show u = 0 ∨ u = 1 by omega) with rfl | rfl
      · exact ⟨false, rfl⟩
      · exact ⟨true, rfl⟩
    obtain ⟨c, cl, h6, c3⟩ := hc.2.2.1
    obtain ⟨c', cl', cb', cp'⟩ := flip_bit cl hj b
    have eb := bec j 3 1 hj rfl (by decide)
    have eb' : M_becomes ((((10 : Int32) + ((5 : Int32) * nI j)) + (2 : Int32)) + 1) (nI u) σ = _ := eb
    have ei : (if nI u = 1 then (1 : Int32) else 0) = b01 b := by
      rw [hb]
      cases b <;> decide
    rw [carOf_e hS12 hc hj, ob_s, ei, cp' τ hS12 h6, ob_s, eb', ob_s]
    refine ⟨_, _, _, rfl, rfl, Inv_mono _ _ _ ?_⟩
    rw [hb]
    exact Inv_car h hok hc hr hj cl' (fun i hi => by
      rw [cb']
      by_cases q : i = j
      · rw [if_pos q, if_pos q]
      · rw [if_neg q, if_neg q, c3 i hi, b01_n])
  rw [if_neg z1]
  by_cases z2 : z = 2
  · subst z2
    rw [if_pos rfl]
    unfold M_in M_change_b49
    rw [ob_s, ob_s, isYard_e, ob_s, n1]
    by_cases cy : (if x < 0 then (0 : Int32) else if nI S.1 - 1 < x then 0 else 1) = 0
    · rw [if_pos cy, if_pos cy]; exact err2 E1 h
    rw [if_neg cy, if_neg cy, if_neg (by decide)]
    unfold N_T_mostOfYard
    rw [if_neg (by decide : ¬ (2 : Int32) = 0), if_neg (by decide : ¬ (2 : Int32) = 1), ob_s, ob_s]
    by_cases cv : (if v < 0 then (0 : Int32) else if 99 < v then 0 else 1) = 0
    · rw [if_pos cv, if_pos (show (if (if v < 0 then (0 : Int32) else if 99 < v then 0 else 1) = 0 then (0 : Int32) else 1) = 0 by rw [if_pos cv])]; exact err2 E1 h
    rw [if_neg cv, if_neg (show ¬ (if (if v < 0 then (0 : Int32) else if 99 < v then 0 else 1) = 0 then (0 : Int32) else 1) = 0 by rw [if_neg cv]; decide), if_neg (by decide : ¬ (2 : Int32) = 0), if_neg (by decide : ¬ (2 : Int32) = 1)]
    obtain ⟨y1, y2⟩ := in_ne cy
    obtain ⟨j, hj, rfl⟩ := in_cnt (by omega) y1 y2
    obtain ⟨v1, v2⟩ := in_ne cv
    have b1 : inb (nI j) 12 = true := inb_nI (by omega) (by decide)
    have x1 : ix (nI j) = j := ix_nI (by omega)
    have eb := bec j 4 2 hj rfl (by decide)
    have eb' : M_becomes ((((10 : Int32) + ((5 : Int32) * nI j)) + (2 : Int32)) + 2) v σ = _ := eb
    rw [gd_t b1, lt_e, gd_t b1, lt_e, x1, eb', ob_s, (hc.2.1 j hj).2.2.2]
    refine ⟨_, _, _, rfl, rfl, Inv_of h (cs_sa (by omega)) (rs_ra (by omega)) (lawsok_eq (τ := τ) rfl (Inv_l h)) ?_⟩
    rw [ra_eq]
    exact Kept_y (f := 4) hS12 hr hj (Or.inr (Or.inr (Or.inr rfl))) (yr4 (rng_in (a := 0) (b := 99) (by decide) (by decide) v1 v2)) h.1
  rw [if_neg z2]
  unfold M_change_b49
  rw [ob_s, isYard_e, ob_s, n1]
  by_cases cy : (if x < 0 then (0 : Int32) else if nI S.1 - 1 < x then 0 else 1) = 0
  · rw [if_pos cy, if_pos cy]; exact err2 E1 h
  rw [if_neg cy, if_neg cy, if_pos rfl]
  have e : (if z < 0 then (0 : Int32) else if 2 < z then 0 else 1) = 0 := by
    by_cases a : z < 0
    · rw [if_pos a]
    · rw [if_neg a]
      by_cases b : 2 < z
      · rw [if_pos b]
      · exfalso
        obtain ⟨j, -, hj, rfl⟩ := in_lit 0 2 (by decide) (by decide) a b
        rcases (show j = 0 ∨ j = 1 ∨ j = 2 by omega) with rfl | rfl | rfl
        · exact z0 rfl
        · exact z1 rfl
        · exact z2 rfl
  rw [if_pos e]
  exact err2 E1 h
/-! as -/
def undP : Nat → Int32 → Int32 → Int32 → Option Int32
  | 0, _, _, _ => none
  | n + 1, x1, x2, x3 => if 7 ≤ x3 then some 0 else if x2 < 0 then some 0 else if x2 = x1 then some 1 else if inb x2 7 = true then undP n x1 (kabv (ix x2)) (x3 + 1) else none
theorem undP_e : ∀ (n : Nat) (x1 x2 x3 v : Int32) (m : Nat) (τ : CS), undP n x1 x2 x3 = some v → N_T_isUnder_b4 (n + m) x1 x2 x3 τ = some (v, τ) := by
  intro n
  induction n with
  | zero => intro x1 x2 x3 v m τ h; cases h
  | succ n ih =>
    intro x1 x2 x3 v m τ h
    have h' : (if 7 ≤ x3 then some 0 else if x2 < 0 then some 0 else if x2 = x1 then some 1 else if inb x2 7 = true then undP n x1 (kabv (ix x2)) (x3 + 1) else none) = some v := h
    rw [show n + 1 + m = (n + m) + 1 by omega, N_T_isUnder_b4]
    by_cases c1 : 7 ≤ x3
    · rw [if_pos c1] at h' ⊢; cases h'; rfl
    rw [if_neg c1] at h' ⊢
    by_cases c2 : x2 < 0
    · rw [if_pos c2] at h' ⊢; cases h'; rfl
    rw [if_neg c2] at h' ⊢
    by_cases c3 : x2 = x1
    · rw [if_pos c3] at h' ⊢; cases h'; rfl
    rw [if_neg c3] at h' ⊢
    by_cases c4 : inb x2 7 = true
    · rw [if_pos c4] at h'
      rw [gd_t c4, lt_e]
      exact ih _ _ _ _ _ _ h'
    · rw [if_neg c4] at h'; cases h'
def abvP : Nat → Int32 → Int32 → Option Int32
  | 0, _, _ => none
  | n + 1, x2, x3 => if x3 < 0 then some x3 else if x3 = x2 then some x3 else abvP n x2 (if x3 = 0 then (-1 : Int32) else (if x3 ≤ (3 : Int32) then (0 : Int32) else (x3 - (3 : Int32))))
theorem abvP_e : ∀ (n : Nat) (x1 x2 x3 v : Int32) (m : Nat) (σ : RS), abvP n x2 x3 = some v → M_as_b32 (n + m) x1 x2 x3 σ = M_as_b49 x1 v σ := by
  intro n
  induction n with
  | zero => intro x1 x2 x3 v m σ h; cases h
  | succ n ih =>
    intro x1 x2 x3 v m σ h
    have h' : (if x3 < 0 then some x3 else if x3 = x2 then some x3 else abvP n x2 (if x3 = 0 then (-1 : Int32) else (if x3 ≤ (3 : Int32) then (0 : Int32) else (x3 - (3 : Int32))))) = some v := h
    rw [show n + 1 + m = (n + m) + 1 by omega, M_as_b32]
    by_cases c1 : x3 < 0
    · rw [if_pos c1] at h' ⊢; cases h'; rfl
    rw [if_neg c1] at h' ⊢
    by_cases c2 : x3 = x2
    · rw [if_pos c2] at h' ⊢; cases h'; rfl
    rw [if_neg c2] at h' ⊢
    unfold M_above
    rw [ob_s]
    exact ih _ _ _ _ _ _ h'
theorem as_tab : ∀ κ : Nat, κ < 7 → ∀ q : Nat, q < 7 → (undP 9 (nI q) (nI κ) 0 = some 1 ∧ abvP 9 (nI q) (nI κ) = some (nI q)) ∨ (undP 9 (nI q) (nI κ) 0 = some 0 ∧ abvP 9 (nI q) (nI κ) = some (-1)) := by decide +kernel
theorem ag_as (x z : Int32) : Agree Inv (N_T_as x z) (M_as x z) := by
  intro k τ σ hk h
  show AgP k _ _
  unfold N_T_as M_as
  rw [show (7 : Int32) - 1 = 6 by decide]
  refine chkY E1 h (fun S0 y hy hx hS0 hr0 hc0 => chk E1 h (fun c1 c2 => ?_))
  subst hx
  obtain ⟨q, -, hq, rfl⟩ := in_lit 0 6 (by decide) (by decide) c1 c2
  have h12 := hS0.1
  have b1 : inb (nI y) 12 = true := inb_nI (by omega) (by decide)
  have x1 : ix (nI y) = y := ix_nI (by omega)
  obtain ⟨κ, hκ, e0⟩ := (hS0.2.1 y hy).1
  have i0 : M_its (nI y) 0 σ = some (S0.2.1 0 y, σ) := its_S (w := 0) h12 hr0 hy (by decide)
  have i1 : M_its (nI y) 1 σ = some (S0.2.1 1 y, σ) := its_S (w := 1) h12 hr0 hy (by decide)
  have ek : τ.2.1 0 1 y = nI κ := (hc0.2.1 y hy).1.trans e0
  have em : τ.2.1 0 2 y = S0.2.1 1 y := (hc0.2.1 y hy).2.1
  rw [gd_t b1, x1, ek, i0, ob_s, e0]
  unfold N_T_isUnder
  rcases as_tab κ hκ q (by omega) with ⟨u1, u2⟩ | ⟨u1, u2⟩
  · have e1 : N_T_isUnder_b4 FU (nI q) (nI κ) 0 τ = some (1, τ) := undP_e 9 _ _ _ _ 991 τ u1
    have e2 : M_as_b32 FU (nI y) (nI q) (nI κ) σ = M_as_b49 (nI y) (nI q) σ := abvP_e 9 _ _ _ _ 991 σ u2
    rw [e1, e2, ob_s, if_neg i10, gd_t b1, em]
    unfold M_as_b49
    rw [if_pos (nI_pos' (by omega)), i1, ob_s]
    exact ⟨_, _, _, rfl, rfl, Inv_mono _ _ _ h⟩
  · have e1 : N_T_isUnder_b4 FU (nI q) (nI κ) 0 τ = some (0, τ) := undP_e 9 _ _ _ _ 991 τ u1
    have e2 : M_as_b32 FU (nI y) (nI q) (nI κ) σ = M_as_b49 (nI y) (-1) σ := abvP_e 9 _ _ _ _ 991 σ u2
    rw [e1, e2, ob_s, if_pos rfl]
    unfold M_as_b49
    rw [if_neg (by decide : ¬ (0 : Int32) ≤ -1)]
    exact err2 E5 h
