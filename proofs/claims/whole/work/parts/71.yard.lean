/-! yard, change, as -/
theorem Kept_str {row row' : Nat → Int32} {τ τ' : CS} {S' : SP} (h : Kept row τ 0) (hS : SPok S' 9999) (hr : RRow row' S') (hc : CStr τ' 0 S') (hl : lsame τ τ') (e2 : ∀ f, τ'.2.2 0 f = τ.2.2 0 f) (e1 : ∀ f, f = 14 ∨ f = 16 → τ'.1 0 f = τ.1 0 f) (ea : ∀ f, f = 13 ∨ f = 15 → τ'.2.1 0 f = τ.2.1 0 f) (er : ∀ i, (3 ≤ i ∧ i ≤ 6) ∨ (70 ≤ i ∧ i < 240) → row' i = row i) (ez : row' 1 = τ'.1 0 17) : Kept row' τ' 0 := by
  obtain ⟨S, F0, F1, a1, a2, a3, ⟨⟨t, q1, q2, q3, q4⟩, ⟨v, v1, v2, v3, v4⟩, t3⟩, a5, a6, a7, a8, a9, a10⟩ := h
  refine ⟨S', F0, F1, hS, hr, hc, ⟨⟨t, q1, ?_, ?_, fun i hi => ?_⟩, ⟨v, v1, ?_, ?_, fun i hi => ?_⟩, ez⟩, a5, a6, by rw [e2]; exact a7.same hl, a8.cg (er _ (by omega)) (fun i hi => er _ (by omega)), by rw [e2]; exact a9.same hl, a10.cg (er _ (by omega)) (fun i hi => er _ (by omega))⟩
  · rw [er _ (by omega)]; exact q2
  · rw [e1 14 (by omega)]; exact q3
  · rw [er _ (by omega), ea 13 (by omega)]; exact q4 i hi
  · rw [er _ (by omega)]; exact v2
  · rw [e1 16 (by omega)]; exact v3
  · rw [er _ (by omega), ea 15 (by omega)]; exact v4 i hi
theorem Inv_z {k : Nat} {τ : CS} {σ : RS} (h : Inv k τ σ) : σ.2 0 1 = τ.1 0 17 := by
  obtain ⟨⟨-, -, -, -, -, -, ⟨-, -, t3⟩, -⟩, -⟩ := h
  exact t3
/-- one more yard -/
def addY (S : SP) (a m d c b : Int32) : SP := (S.1 + 1, fun f k => if k = S.1 then (if f = 0 then a else if f = 1 then m else if f = 2 then d else if f = 3 then c else b) else S.2.1 f k, S.2.2)
theorem ag_yard (x y z : Int32) : Agree Inv (N_T_yard x y z) (M_yard x y z) := by
  intro k τ σ hk h
  show AgP k _ _
  unfold N_T_yard M_yard
  refine chk E1 h (fun c1 c2 => chk E1 h (fun c3 c4 => chk E1 h (fun c5 c6 => ?_)))
  obtain ⟨km, -, hkm, rfl⟩ := in_lit 0 69 (by decide) (by decide) c1 c2
  obtain ⟨S, F0, F1, hS, w, r, hL, hR, hF0, hF1, h15⟩ := Inv_day h
  have h12 := hS.1
  have n1 : τ.1 0 5 = nI S.1 := w.1.1
  have n2 : σ.2 0 2 = nI S.1 := r.1.1
  rw [n1, n2]
  by_cases c12 : S.1 = 12
  · rw [c12, if_neg (by decide : ¬ nI 12 < (12 : Int32)), if_pos (by decide : nI 12 = (12 : Int32))]
    exact err2 E4 h
  have hlt : nI S.1 < (12 : Int32) := nI_lt (a := S.1) (b := 12) (by omega) (by decide)
  have hne : ¬ nI S.1 = (12 : Int32) := fun q => c12 ((nI_eq (by omega) (by decide : 12 < 2 ^ 31)).mp q)
  rw [if_pos hlt, if_neg hne, lt_e, lt_e, lt_e, nI_1]
  have hb : inb (nI S.1) 12 = true := inb_nI (by omega) (by decide)
  have hx : ix (nI S.1) = S.1 := ix_nI (by omega)
  have hd : nI km / (10 : Int32) = nI (km / 10) := pk_div (by omega) (by decide) (by decide)
  have hm : irm (nI km) (10 : Int32) = nI (km % 10) := irm_e (by omega) (by decide) (by decide)
  have rz : rng (if z < 0 then 0 else z) 0 99 := by
    by_cases q : z < 0
    · rw [if_pos q]; exact rng_nI (a := 0) (b := 99) (by omega) (by decide)
    · rw [if_neg q]; exact rng_in (a := 0) (b := 99) (by decide) (by decide) q c6
  have ez1 : (if 0 ≤ z then (1 : Int32) else 0) = if z < 0 then 0 else 1 := by
    by_cases q : z < 0
    · rw [if_pos q, if_neg (i32_lt_nle q)]
    · rw [if_neg q, if_pos (i32_nlt q)]
  have ez2 : (if 0 ≤ z then z else 0) = if z < 0 then 0 else z := by
    by_cases q : z < 0
    · rw [if_pos q, if_neg (i32_lt_nle q)]
    · rw [if_neg q, if_pos (i32_nlt q)]
  obtain ⟨c, cl, h6, c3'⟩ := w.1.2.2.1
  have q13 := p13 h12
  have p1 : (2 : Nat) ^ (S.1 + 1) = 2 * 2 ^ S.1 := by rw [Nat.pow_succ, Nat.mul_comm]
  obtain ⟨c', hc', ec'⟩ : ∃ c' : Nat, (c' < 2 ^ (S.1 + 1) ∧ (∀ j, j < S.1 → c' / 2 ^ j % 2 = c / 2 ^ j % 2) ∧ (if z < 0 then (0 : Int32) else 1) = nI (c' / 2 ^ S.1 % 2)) ∧ ∀ s : CS, s.1 0 6 = nI c → N_S_park 0 (nI S.1) (if z < 0 then 0 else 1) s = some (0, si s 0 6 (nI c')) := by
    by_cases q : z < 0
    · refine ⟨c, ⟨by omega, fun _ _ => rfl, ?_⟩, fun s hs => ?_⟩
      · rw [if_pos q, Nat.div_eq_of_lt cl]; rfl
      · rw [if_pos q]
        unfold N_S_park
        have e : nand c (2 ^ S.1) = c := by
          apply Nat.eq_of_testBit_eq
          intro j
          rw [nand_bit, Nat.testBit_two_pow]
          by_cases q2 : S.1 = j
          · subst q2
            rw [lt_bit cl (Nat.le_refl _)]; rfl
          · rw [decide_eq_false q2]; simp
        rw [if_pos rfl, lt_e, hs, shl31 S.1 (by omega), ofn_nand (by omega) (by omega), e]
    · refine ⟨c + 2 ^ S.1, ⟨by omega, fun j hj => ?_, ?_⟩, fun s hs => ?_⟩
      · rw [nb2, nb2, testBit_add_pow cl, decide_eq_false (by omega : ¬ j = S.1)]; simp
      · rw [if_neg q, nb2, testBit_add_pow cl]; simp; rfl
      · rw [if_neg q]
        unfold N_S_park
        rw [if_neg i10, lt_e, hs, or_pow cl (by omega)]
  obtain ⟨hc1, hc2, hc3⟩ := hc'
  have g : ∀ (f : Nat) (v : Int32) (s : RS), f < 5 → M_gets (nI S.1) (nI f) v s = some (0, ra s 0 (upd (s.2 0) (10 + 5 * S.1 + f) v)) := fun f v s hf => gets_e (by omega) hf v s
  have g0 : ∀ (v : Int32) (s : RS), M_gets (nI S.1) 0 v s = some (0, ra s 0 (upd (s.2 0) (10 + 5 * S.1 + 0) v)) := fun v s => g 0 v s (by decide)
  have g1 : ∀ (v : Int32) (s : RS), M_gets (nI S.1) 1 v s = some (0, ra s 0 (upd (s.2 0) (10 + 5 * S.1 + 1) v)) := fun v s => g 1 v s (by decide)
  have g2 : ∀ (v : Int32) (s : RS), M_gets (nI S.1) 2 v s = some (0, ra s 0 (upd (s.2 0) (10 + 5 * S.1 + 2) v)) := fun v s => g 2 v s (by decide)
  have g3 : ∀ (v : Int32) (s : RS), M_gets (nI S.1) 3 v s = some (0, ra s 0 (upd (s.2 0) (10 + 5 * S.1 + 3) v)) := fun v s => g 3 v s (by decide)
  have g4 : ∀ (v : Int32) (s : RS), M_gets (nI S.1) 4 v s = some (0, ra s 0 (upd (s.2 0) (10 + 5 * S.1 + 4) v)) := fun v s => g 4 v s (by decide)
  unfold N_S_shape
  rw [gd_t hb, lt_e, gd_t hb, lt_e, ob_s, gd_t hb, lt_e, gd_t hb, lt_e, hx, hd, hm, g0, ob_s, g1, ob_s, g2, ob_s, ez1, g3, ob_s, ez2, g4, ob_s]
  simp only [ra_eq, ra_ra, lt_e]
  rw [ec' _ (by simp [si, sa, up2, h6]), ob_s]
  refine ⟨_, _, _, rfl, rfl, ?_⟩
  refine Inv_of h ?_ (rs_ra (by omega)) ?_ ?_
  · exact ((((((cs_si (by omega)).tr (cs_sa (by omega))).tr (cs_sa (by omega))).tr (cs_sa (by omega))).tr (cs_sa (by omega))).tr (cs_si (by omega)))
  · exact lawsok_eq (τ := τ) rfl (Inv_l h)
  · rw [ra_eq]
    have hrow2 : upd (upd (upd (upd (upd (σ.2 0) (10 + 5 * S.1 + 0) (nI (km / 10))) (10 + 5 * S.1 + 1) (nI (km % 10))) (10 + 5 * S.1 + 2) y) (10 + 5 * S.1 + 3) (if z < 0 then 0 else 1)) (10 + 5 * S.1 + 4) (if z < 0 then 0 else z) 2 = nI S.1 := by
      rw [upd_ne _ _ (by omega), upd_ne _ _ (by omega), upd_ne _ _ (by omega), upd_ne _ _ (by omega), upd_ne _ _ (by omega)]; exact n2
    rw [hrow2, nI_1]
    refine Kept_str (S' := addY S (nI (km / 10)) (nI (km % 10)) y (if z < 0 then 0 else 1) (if z < 0 then 0 else z)) h.1 ?_ ?_ ?_ ?_ (fun f => rfl) (fun f hf => ?_) (fun f hf => ?_) (fun i hi => ?_) ?_
    · refine ⟨by show S.1 + 1 ≤ 12; omega, fun j hj => ?_, hS.2.2⟩
      have hj' : j < S.1 + 1 := hj
      by_cases q : j = S.1
      · subst q
        have e : ∀ f, (addY S (nI (km / 10)) (nI (km % 10)) y (if z < 0 then 0 else 1) (if z < 0 then 0 else z)).2.1 f S.1 = (if f = 0 then nI (km / 10) else if f = 1 then nI (km % 10) else if f = 2 then y else if f = 3 then (if z < 0 then 0 else 1) else (if z < 0 then 0 else z)) := fun f => if_pos rfl
        rw [e, e, e, e, e]
        refine ⟨⟨km / 10, by omega, rfl⟩, ?_, ?_, ?_, ?_⟩
        · exact rng_nI (a := km % 10) (b := 9) (by omega) (by decide)
        · exact rng_in (a := 0) (b := 999) (by decide) (by decide) c3 c4
        · show (if z < 0 then (0 : Int32) else 1) = 0 ∨ (if z < 0 then (0 : Int32) else 1) = 1
          by_cases q2 : z < 0
          · rw [if_pos q2]; exact Or.inl rfl
          · rw [if_neg q2]; exact Or.inr rfl
        · exact rz
      · have e : ∀ f, (addY S (nI (km / 10)) (nI (km % 10)) y (if z < 0 then 0 else 1) (if z < 0 then 0 else z)).2.1 f j = S.2.1 f j := fun f => if_neg q
        rw [e, e, e, e, e]
        exact hS.2.1 j (by omega)
    · obtain ⟨b1, b2, b3, b4, b5, b6⟩ := r.1
      refine ⟨?_, fun j hj f hf => ?_, ?_, ?_, ?_, ?_⟩
      · rw [upd_eq]; rfl
      · have hj' : j < S.1 + 1 := hj
        rw [upd_ne _ _ (by omega)]
        by_cases q : j = S.1
        · subst q
          show _ = (if S.1 = S.1 then (if f = 0 then nI (km / 10) else if f = 1 then nI (km % 10) else if f = 2 then y else if f = 3 then (if z < 0 then 0 else 1) else (if z < 0 then 0 else z)) else S.2.1 f S.1)
          rw [if_pos rfl]
          rcases (show f = 0 ∨ f = 1 ∨ f = 2 ∨ f = 3 ∨ f = 4 by omega) with rfl | rfl | rfl | rfl | rfl
          · rw [upd_ne _ _ (by omega), upd_ne _ _ (by omega), upd_ne _ _ (by omega), upd_ne _ _ (by omega), upd_eq]; rfl
          · rw [upd_ne _ _ (by omega), upd_ne _ _ (by omega), upd_ne _ _ (by omega), upd_eq]; rfl
          · rw [upd_ne _ _ (by omega), upd_ne _ _ (by omega), upd_eq]; rfl
          · rw [upd_ne _ _ (by omega), upd_eq]; rfl
          · rw [upd_eq]; rfl
        · have e : (addY S (nI (km / 10)) (nI (km % 10)) y (if z < 0 then 0 else 1) (if z < 0 then 0 else z)).2.1 f j = S.2.1 f j := if_neg q
          rw [e, upd_ne _ _ (by omega), upd_ne _ _ (by omega), upd_ne _ _ (by omega), upd_ne _ _ (by omega), upd_ne _ _ (by omega)]
          exact b2 j (by omega) f hf
      · rw [upd_ne _ _ (by omega), upd_ne _ _ (by omega), upd_ne _ _ (by omega), upd_ne _ _ (by omega), upd_ne _ _ (by omega), upd_ne _ _ (by omega)]; exact b3
      · rw [upd_ne _ _ (by omega), upd_ne _ _ (by omega), upd_ne _ _ (by omega), upd_ne _ _ (by omega), upd_ne _ _ (by omega), upd_ne _ _ (by omega)]; exact b4
      · rw [upd_ne _ _ (by omega), upd_ne _ _ (by omega), upd_ne _ _ (by omega), upd_ne _ _ (by omega), upd_ne _ _ (by omega), upd_ne _ _ (by omega)]; exact b5
      · rw [upd_ne _ _ (by omega), upd_ne _ _ (by omega), upd_ne _ _ (by omega), upd_ne _ _ (by omega), upd_ne _ _ (by omega), upd_ne _ _ (by omega)]; exact b6
    · obtain ⟨b1, b2, b3, b4, b5, b6, b7⟩ := w.1
      refine ⟨?_, fun j hj => ?_, ⟨c', hc1, ?_, fun j hj => ?_⟩, ?_, ?_, ?_, ?_⟩
      · simp [si, sa, up2]; rfl
      · have hj' : j < S.1 + 1 := hj
        by_cases q : j = S.1
        · subst q
          have e : ∀ f, (addY S (nI (km / 10)) (nI (km % 10)) y (if z < 0 then 0 else 1) (if z < 0 then 0 else z)).2.1 f S.1 = (if f = 0 then nI (km / 10) else if f = 1 then nI (km % 10) else if f = 2 then y else if f = 3 then (if z < 0 then 0 else 1) else (if z < 0 then 0 else z)) := fun f => if_pos rfl
          rw [e, e, e, e]
          simp [si, sa, up2, upd]
        · have e : ∀ f, (addY S (nI (km / 10)) (nI (km % 10)) y (if z < 0 then 0 else 1) (if z < 0 then 0 else z)).2.1 f j = S.2.1 f j := fun f => if_neg q
          rw [e, e, e, e]
          have := b2 j (by omega)
          simp [si, sa, up2, upd, q]
          exact this
      · simp [si, sa, up2]
      · have hj' : j < S.1 + 1 := hj
        by_cases q : j = S.1
        · subst q
          have e : (addY S (nI (km / 10)) (nI (km % 10)) y (if z < 0 then 0 else 1) (if z < 0 then 0 else z)).2.1 3 S.1 = (if z < 0 then 0 else 1) := if_pos rfl
          rw [e]; exact hc3
        · have e : (addY S (nI (km / 10)) (nI (km % 10)) y (if z < 0 then 0 else 1) (if z < 0 then 0 else z)).2.1 3 j = S.2.1 3 j := if_neg q
          rw [e, hc2 j (by omega)]
          exact c3' j (by omega)
      · simp [si, sa, up2]; exact b4
      · simp [si, sa, up2]; exact b5
      · simp [si, sa, up2]; exact b6
      · simp [si, sa, up2]; exact b7
    · exact ((((((lsame_si (by omega)).tr (lsame_sa (by omega))).tr (lsame_sa (by omega))).tr (lsame_sa (by omega))).tr (lsame_sa (by omega))).tr (lsame_si (by omega)))
    · rcases hf with rfl | rfl <;> simp [si, sa, up2]
    · rcases hf with rfl | rfl <;> simp [si, sa, up2]
    · rw [upd_ne _ _ (by omega), upd_ne _ _ (by omega), upd_ne _ _ (by omega), upd_ne _ _ (by omega), upd_ne _ _ (by omega), upd_ne _ _ (by omega)]
    · rw [upd_ne _ _ (by omega), upd_ne _ _ (by omega), upd_ne _ _ (by omega), upd_ne _ _ (by omega), upd_ne _ _ (by omega), upd_ne _ _ (by omega)]
      simp [si, sa, up2]
      exact Inv_z h
