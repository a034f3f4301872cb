/-! feed, loose -/
theorem sh64u : ∀ i : Nat, i < 8 → ((((8 : Int32) * nI i).toInt64.toUInt64 &&& Int64.toUInt64 63).toBitVec % 64).toNat = 8 * i := by decide +kernel
theorem sh64s : ∀ i : Nat, i < 8 → ((((8 : Int32) * nI i).toInt64 &&& 63).toBitVec.smod 64).toNat = 8 * i := by decide +kernel
theorem m255 : ∀ j : Nat, j < 32 → (255 : Int32).toBitVec.getLsbD j = decide (j < 8) ∧ (255 : Int64).toBitVec.getLsbD j = decide (j < 8) := by decide +kernel
theorem byte_e (x : Int64) {i : Nat} (hi : i < 8) : ((x.toUInt64 >>> (((8 : Int32) * nI i).toInt64.toUInt64 &&& Int64.toUInt64 63)).toInt64.toInt32 &&& (255 : Int32)) = ((x >>> (((8 : Int32) * nI i).toInt64 &&& 63)) &&& (255 : Int64)).toInt32 := by
  apply Int32.toBitVec_inj.mp
  apply BitVec.eq_of_getLsbD_eq
  intro j hj
  rw [Int32.toBitVec_and, BitVec.getLsbD_and, (m255 j hj).1, Int64.toBitVec_toInt32, Int64.toBitVec_toInt32, BitVec.getLsbD_signExtend, BitVec.getLsbD_signExtend, Int64.toBitVec_and, BitVec.getLsbD_and, (m255 j hj).2]
  have e1 : (x.toUInt64 >>> (((8 : Int32) * nI i).toInt64.toUInt64 &&& Int64.toUInt64 63)).toInt64.toBitVec.getLsbD j = x.toBitVec.getLsbD (8 * i + j) := by
    show (x.toUInt64 >>> (((8 : Int32) * nI i).toInt64.toUInt64 &&& Int64.toUInt64 63)).toBitVec.getLsbD j = _
    rw [UInt64.toBitVec_shiftRight]
    show (x.toUInt64.toBitVec >>> ((((8 : Int32) * nI i).toInt64.toUInt64 &&& Int64.toUInt64 63).toBitVec % 64).toNat).getLsbD j = _
    rw [sh64u i hi, BitVec.getLsbD_ushiftRight]
    rfl
  have e2 : (x >>> (((8 : Int32) * nI i).toInt64 &&& 63)).toBitVec.getLsbD j = (if 8 * i + j < 64 then x.toBitVec.getLsbD (8 * i + j) else x.toBitVec.msb) := by
    rw [Int64.toBitVec_shiftRight]
    show (x.toBitVec.sshiftRight ((((8 : Int32) * nI i).toInt64 &&& 63).toBitVec.smod 64).toNat).getLsbD j = _
    rw [sh64s i hi, BitVec.getLsbD_sshiftRight]
    have : ¬ 64 ≤ j := by omega
    simp [this]
  rw [e1, e2]
  have h64 : j < 64 := by omega
  by_cases c : j < 8
  · have c2 : 8 * i + j < 64 := by omega
    simp [hj, h64, c, c2]
  · have h65 : ¬ 64 ≤ j := by omega
    simp [c, h65]
theorem Kept_tape {row : Nat → Int32} {τ : CS} {t b : Nat} (h : Kept row τ 0) (h3 : row 3 = nI t) (ht : t < 50) (hb : b < 256) : Kept (upd (upd row (70 + t) (nI b)) 3 (nI (t + 1))) (si (sa τ 0 13 (upd (τ.2.1 0 13) t (nI b))) 0 14 (nI (t + 1))) 0 ∧ τ.1 0 14 = nI t := by
  obtain ⟨S, F0, F1, a1, a2, a3, ⟨⟨t', q1, q2, q3, q4⟩, ⟨v, v1, v2, v3, v4⟩, t3⟩, a5, a6, a7, a8, a9, a10⟩ := h
  have et : t' = t := (nI_eq (by omega) (by omega)).mp (q2.symm.trans h3)
  subst et
  refine ⟨?_, q3⟩
  have hl : lsame τ (si (sa τ 0 13 (upd (τ.2.1 0 13) t' (nI b))) 0 14 (nI (t' + 1))) := (lsame_sa (by decide)).tr (lsame_si (by decide))
  have hs : ∀ f, f ≠ 14 → (si (sa τ 0 13 (upd (τ.2.1 0 13) t' (nI b))) 0 14 (nI (t' + 1))).1 0 f = τ.1 0 f := fun f hf => by simp [si, sa, up2, hf]
  have hta : ∀ f, f ≠ 13 → (si (sa τ 0 13 (upd (τ.2.1 0 13) t' (nI b))) 0 14 (nI (t' + 1))).2.1 0 f = τ.2.1 0 f := fun f hf => by simp [si, sa, up2, hf]
  have hS := a1.1
  refine ⟨S, F0, F1, a1, (a2.up hS (by omega)).up hS (by omega), ?_, ⟨⟨t' + 1, by omega, by rw [upd_eq], si_eq _ _ _ _, fun j hj => ?_⟩, ⟨v, v1, ?_, ?_, fun j hj => ?_⟩, ?_⟩, a5, a6, a7.same hl, (a8.up (by decide) (by omega)).up (by decide) (by omega), a9.same hl, (a10.up (by decide) (by omega)).up (by decide) (by omega)⟩
  · obtain ⟨s1, s2, s3, s4⟩ := a3
    refine ⟨by rw [hs _ (by decide)]; exact s1, fun j hj => ?_, by rw [hs _ (by decide)]; exact s3, ?_⟩
    · rw [hta _ (by decide), hta _ (by decide), hta _ (by decide), hta _ (by decide)]; exact s2 j hj
    · rw [hs _ (by decide), hs _ (by decide), hs _ (by decide), hs _ (by decide)]; exact s4
  · have e13 : (si (sa τ 0 13 (upd (τ.2.1 0 13) t' (nI b))) 0 14 (nI (t' + 1))).2.1 0 13 = upd (τ.2.1 0 13) t' (nI b) := sa_eq _ _ _ _
    rw [e13, upd_ne _ _ (by omega)]
    by_cases q : j = t'
    · subst q
      rw [upd_eq, upd_eq]
      exact ⟨rfl, b, hb, rfl⟩
    · rw [upd_ne _ _ (by omega), upd_ne _ _ q]
      exact q4 j (by omega)
  · rw [upd_ne _ _ (by omega), upd_ne _ _ (by omega)]; exact v2
  · rw [hs _ (by decide)]; exact v3
  · rw [upd_ne _ _ (by omega), upd_ne _ _ (by omega), hta _ (by decide)]; exact v4 j hj
  · rw [upd_ne _ _ (by omega), upd_ne _ _ (by omega), hs _ (by decide)]; exact t3
theorem ag_feed (x : Int64) (y : Int32) : Agree Inv (N_T_feed x y) (M_feed x y) := by
  intro k τ σ hk h
  show AgP k _ _
  unfold N_T_feed M_feed
  refine chk E1 h (fun c1 c2 => ?_)
  obtain ⟨N, hN1, hN, rfl⟩ := in_lit 1 8 (by decide) (by decide) c1 c2
  obtain ⟨-, -, -, -, -, -, ⟨⟨t, q1, q2, q3, q4⟩, -⟩, -⟩ := id h.1
  have hF' : FU = 1000 := rfl
  rw [q2, q3, nI_add]
  by_cases c : nI (t + N) ≤ (50 : Int32)
  · have ht := (nI_leI (a := t + N) (b := 50) (by omega) (by decide)).mp c
    rw [if_pos c, if_pos c]
    have loop : ∀ (m f1 f2 i t : Nat) (τ1 : CS) (σ1 : RS), i + m = N → m < f1 → m < f2 → t + m ≤ 50 → Inv k τ1 σ1 → σ1.2 0 3 = nI t → AgP k (N_T_feed_b41 f1 x (nI N) (nI i) τ1) (M_feed_b40 f2 x (nI N) (nI i) σ1) := by
      intro m
      induction m with
      | zero =>
        intro f1 f2 i t τ1 σ1 hm h1 h2 ht hI h3
        obtain ⟨f1, rfl⟩ : ∃ q, f1 = q + 1 := ⟨f1 - 1, by omega⟩
        obtain ⟨f2, rfl⟩ : ∃ q, f2 = q + 1 := ⟨f2 - 1, by omega⟩
        have c : nI N ≤ nI i := nI_le (by omega) (by omega)
        obtain ⟨-, -, -, -, -, -, ⟨⟨t', p1, p2, p3, -⟩, -⟩, -⟩ := id hI.1
        rw [N_T_feed_b41, M_feed_b40, if_pos c, if_pos c]
        exact ⟨_, _, _, rfl, by rw [p2, p3], Inv_mono _ _ _ hI⟩
      | succ m ih =>
        intro f1 f2 i t τ1 σ1 hm h1 h2 ht hI h3
        obtain ⟨f1, rfl⟩ : ∃ q, f1 = q + 1 := ⟨f1 - 1, by omega⟩
        obtain ⟨f2, rfl⟩ : ∃ q, f2 = q + 1 := ⟨f2 - 1, by omega⟩
        have c : ¬ nI N ≤ nI i := nI_ge (by omega) (by omega)
        have eb := byte_e x (i := i) (by omega)
        obtain ⟨b, hb, eb2⟩ := pk_andE (x.toUInt64 >>> (((8 : Int32) * nI i).toInt64.toUInt64 &&& Int64.toUInt64 63)).toInt64.toInt32 (m := 255) 8 (by decide)
        rw [eb2] at eb
        obtain ⟨hK, h14⟩ := Kept_tape (t := t) (b := b) hI.1 h3 (by omega) hb
        have b1 : inb (nI t) 50 = true := inb_nI (by omega) (by decide)
        have x1 : ix (nI t) = t := ix_nI (by omega)
        have e70 : (70 : Int32) + nI t = nI (70 + t) := nI_add 70 t
        have b2 : inb (nI (70 + t)) 240 = true := inb_nI (by omega) (by decide)
        have x2 : ix (nI (70 + t)) = 70 + t := ix_nI (by omega)
        have h14' : (sa τ1 0 13 (upd (τ1.2.1 0 13) t (nI b))).1 0 14 = nI t := h14
        rw [N_T_feed_b41, M_feed_b40, if_neg c, if_neg c, h14, h3, gd_t b1, lt_e, lt_e, eb2, x1, h14', nI_1, nI_1, e70, gd_t b2, x2, lt_e, lt_e, ← eb, ra_eq, ra_ra, upd_ne _ _ (show 3 ≠ 70 + t by omega), h3, nI_1]
        refine ih f1 f2 (i + 1) (t + 1) _ _ (by omega) (by omega) (by omega) (by omega) ?_ (by rw [ra_eq, upd_eq])
        refine Inv_of0 hI ((cs_sa (by omega)).tr (cs_si (by omega))) (rs_ra (by omega)) (lawsok_eq (τ := τ1) rfl (Inv_l hI)) ?_
        rw [ra_eq]
        exact hK
    exact loop N FU FU 0 t τ σ (by omega) (by omega) (by omega) (by omega) h q2
  · rw [if_neg c, if_neg c]
    exact err2 E4 h
/-! loose -/
theorem Inv_w0 {k : Nat} {τ τ' : CS} {σ σ' : RS} {S' : SP} (h : Inv k τ σ) (w : CW τ 0 S' τ') (r : RW σ S' σ') (hS : SPok S' 9999) : Inv k τ' σ' := by
  obtain ⟨w1, w2⟩ := w
  obtain ⟨r1, r2⟩ := r
  have hc : csame τ τ' := ⟨fun o f a b => w2.2.1 o f (by omega), fun o f a b c => w2.2.2 o f (by omega) c, fun o f a => by rw [w2.1]⟩
  have hr : rsame σ σ' := ⟨fun f q => r2.1 f q, fun f a b c d => r2.2.1 f a⟩
  refine Inv_of0 h hc hr (lawsok_eq w2.1 (Inv_l h)) ?_
  refine Kept_str h.1 hS r1 w1 (fr_l (d := 0) (by decide) w2) (fun f => by rw [w2.1]) (fun f hf => w2.2.1 _ _ (by omega)) (fun f hf => w2.2.2 _ _ (by omega) (by omega)) (fun i hi => r2.2.2 _ (by omega)) ?_
  rw [r2.2.2 _ (by omega), w2.2.1 _ _ (by omega)]
  exact Inv_z h
theorem iush8 (x : Int32) : ∃ q : Nat, q < 2 ^ 24 ∧ iush x 8 = nI q := by
  have e : x = nI x.toBitVec.toNat := Int32.toBitVec_inj.mp (BitVec.eq_of_toNat_eq (by rw [pk_tn x.toBitVec.isLt]))
  have hlt : x.toBitVec.toNat < 2 ^ 32 := x.toBitVec.isLt
  refine ⟨x.toBitVec.toNat / 2 ^ 8, by omega, ?_⟩
  unfold iush
  have := pk_ushrN (n := x.toBitVec.toNat) hlt (8 : Int32) 8 (by decide)
  rw [← e] at this
  exact this
def zN (z : Int32) : Int32 := z * (1103515245 : Int32) + (12345 : Int32)
/-- the draws of a day -/
theorem draw_ok {k : Nat} {τ : CS} {σ : RS} (h : Inv k τ σ) (x1 x2 : Int32) (ag : Int32 → Int32 → RS → Option (Int32 × RS)) : ∃ (τ' : CS) (σ' : RS), N_S_drawWindAndCar 0 τ = some (0, τ') ∧ (ob (M_drawn (10 : Int32) σ) fun v13 σ14 => lt (ra σ14 0 (upd (σ14.2 0) 7 v13)) fun σ16 => if (σ16.2 0 2) ≤ 0 then M_loose_b78 ag x1 x2 (1 : Int32) σ16 else M_loose_b78 ag x1 x2 (σ16.2 0 2) σ16) = M_loose_b105 ag x1 x2 σ' ∧ Inv k τ' σ' ∧ τ'.1 0 7 = τ.1 0 7 := by
  obtain ⟨S, F0, F1, hS, w, r, hL, hR, hF0, hF1, h15⟩ := Inv_day h
  have h12 := hS.1
  have hz := Inv_z h
  have n1 : τ.1 0 5 = nI S.1 := w.1.1
  have n2 : σ.2 0 2 = nI S.1 := r.1.1
  obtain ⟨q1, hq1, e1⟩ := iush8 (zN (τ.1 0 17))
  obtain ⟨q2, hq2, e2⟩ := iush8 (zN (zN (τ.1 0 17)))
  have m1 : irm (nI q1) 10 = nI (q1 % 10) := irm_e (by omega) (by decide) (by decide)
  -- the class
  have hC : N_S_drawWindAndCar 0 τ = (if nI S.1 ≤ 0 then some (0, si (si (si τ 0 17 (zN (τ.1 0 17))) 0 8 (nI (q1 % 10))) 0 17 (zN (zN (τ.1 0 17)))) else gd (nz (nI S.1)) (some (0, si (si (si (si τ 0 17 (zN (τ.1 0 17))) 0 8 (nI (q1 % 10))) 0 17 (zN (zN (τ.1 0 17)))) 0 6 (τ.1 0 6 ^^^ ((1 : Int32) <<< ((irm (nI q2) (nI S.1)) &&& 31)))))) := by
    unfold N_S_drawWindAndCar N_S_drawn
    simp only [lt_e, ob_s]
    have a1 : (si τ 0 17 (τ.1 0 17 * (1103515245 : Int32) + (12345 : Int32))).1 0 17 = zN (τ.1 0 17) := si_eq _ _ _ _
    rw [a1, e1, m1]
    have a2 : (si (si τ 0 17 (τ.1 0 17 * (1103515245 : Int32) + (12345 : Int32))) 0 8 (nI (q1 % 10))).1 0 17 = zN (τ.1 0 17) := by rw [si_ne _ _ (by decide)]; exact a1
    rw [a2]
    have a3 : (si (si (si τ 0 17 (τ.1 0 17 * (1103515245 : Int32) + (12345 : Int32))) 0 8 (nI (q1 % 10))) 0 17 (zN (τ.1 0 17) * (1103515245 : Int32) + (12345 : Int32))).1 0 17 = zN (zN (τ.1 0 17)) := si_eq _ _ _ _
    have a4 : (si (si (si τ 0 17 (τ.1 0 17 * (1103515245 : Int32) + (12345 : Int32))) 0 8 (nI (q1 % 10))) 0 17 (zN (τ.1 0 17) * (1103515245 : Int32) + (12345 : Int32))).1 0 5 = nI S.1 := by rw [si_ne _ _ (by decide), si_ne _ _ (by decide), si_ne _ _ (by decide)]; exact n1
    have a5 : (si (si (si τ 0 17 (τ.1 0 17 * (1103515245 : Int32) + (12345 : Int32))) 0 8 (nI (q1 % 10))) 0 17 (zN (τ.1 0 17) * (1103515245 : Int32) + (12345 : Int32))).1 0 6 = τ.1 0 6 := by rw [si_ne _ _ (by decide), si_ne _ _ (by decide), si_ne _ _ (by decide)]
    rw [a3, a4, a5, e2]
    rfl
  -- the reference
  have hR1 : (ob (M_drawn (10 : Int32) σ) fun v13 σ14 => lt (ra σ14 0 (upd (σ14.2 0) 7 v13)) fun σ16 => if (σ16.2 0 2) ≤ 0 then M_loose_b78 ag x1 x2 (1 : Int32) σ16 else M_loose_b78 ag x1 x2 (σ16.2 0 2) σ16) = (if nI S.1 ≤ 0 then M_loose_b78 ag x1 x2 (1 : Int32) (ra σ 0 (upd (upd (σ.2 0) 1 (zN (τ.1 0 17))) 7 (nI (q1 % 10)))) else M_loose_b78 ag x1 x2 (nI S.1) (ra σ 0 (upd (upd (σ.2 0) 1 (zN (τ.1 0 17))) 7 (nI (q1 % 10))))) := by
    unfold M_drawn
    have a1 : (ra σ 0 (upd (σ.2 0) 1 (σ.2 0 1 * (1103515245 : Int32) + (12345 : Int32)))).2 0 1 = zN (τ.1 0 17) := by rw [ra_eq, upd_eq, hz]; rfl
    rw [lt_e, gd_t (by decide), ob_s, lt_e, a1, e1, m1, ra_eq, ra_eq, ra_ra, hz]
    have a2 : upd (upd (σ.2 0) 1 (τ.1 0 17 * (1103515245 : Int32) + (12345 : Int32))) 7 (nI (q1 % 10)) 2 = nI S.1 := by rw [upd_ne _ _ (by decide), upd_ne _ _ (by decide)]; exact n2
    rw [a2]
    rfl
  have z2 : upd (upd (σ.2 0) 1 (zN (τ.1 0 17))) 7 (nI (q1 % 10)) 1 = zN (τ.1 0 17) := by rw [upd_ne _ _ (by decide), upd_eq]
  have wd : rng (nI (q1 % 10)) 0 9 := rng_nI (b := 9) (by omega) (by decide)
  -- wind and z
  have hI1 : Inv k (si (si (si τ 0 17 (zN (τ.1 0 17))) 0 8 (nI (q1 % 10))) 0 17 (zN (zN (τ.1 0 17)))) (ra σ 0 (upd (upd (upd (σ.2 0) 1 (zN (τ.1 0 17))) 7 (nI (q1 % 10))) 1 (zN (zN (τ.1 0 17))))) := by
    refine Inv_of0 h (((cs_si (by omega)).tr (cs_si (by omega))).tr (cs_si (by omega))) (rs_ra (by omega)) (lawsok_eq (τ := τ) rfl (Inv_l h)) ?_
    rw [ra_eq]
    have w1 : CStr (si τ 0 17 (zN (τ.1 0 17))) 0 S := by
      obtain ⟨b1, b2, b3, b4, b5, b6, b7⟩ := w.1
      have kk : ∀ f, f ≠ 17 → (si τ 0 17 (zN (τ.1 0 17))).1 0 f = τ.1 0 f := fun f hf => si_ne _ _ hf
      exact ⟨(kk 5 (by decide)).trans b1, b2, by rw [kk 6 (by decide)]; exact b3, (kk 7 (by decide)).trans b4, (kk 8 (by decide)).trans b5, (kk 9 (by decide)).trans b6, (kk 10 (by decide)).trans b7⟩
    have w2 := w1.wind (v := nI (q1 % 10))
    have w3 : CStr (si (si (si τ 0 17 (zN (τ.1 0 17))) 0 8 (nI (q1 % 10))) 0 17 (zN (zN (τ.1 0 17)))) 0 (setG S 1 (nI (q1 % 10))) := by
      obtain ⟨b1, b2, b3, b4, b5, b6, b7⟩ := w2
      have kk : ∀ f, f ≠ 17 → (si (si (si τ 0 17 (zN (τ.1 0 17))) 0 8 (nI (q1 % 10))) 0 17 (zN (zN (τ.1 0 17)))).1 0 f = (si (si τ 0 17 (zN (τ.1 0 17))) 0 8 (nI (q1 % 10))).1 0 f := fun f hf => si_ne _ _ hf
      exact ⟨(kk 5 (by decide)).trans b1, b2, by rw [kk 6 (by decide)]; exact b3, (kk 7 (by decide)).trans b4, (kk 8 (by decide)).trans b5, (kk 9 (by decide)).trans b6, (kk 10 (by decide)).trans b7⟩
    refine Kept_str (S' := setG S 1 (nI (q1 % 10))) h.1 (hS.wind wd) ?_ w3 (((lsame_si (by decide)).tr (lsame_si (by decide))).tr (lsame_si (by decide))) (fun f => rfl) (fun f hf => ?_) (fun f hf => rfl) (fun i hi => ?_) ?_
    · exact ((r.1.up h12 (by omega)).wind h12).up (S := setG S 1 (nI (q1 % 10))) h12 (by omega)
    · rw [si_ne _ _ (by omega), si_ne _ _ (by omega), si_ne _ _ (by omega)]
    · rw [upd_ne _ _ (by omega), upd_ne _ _ (by omega), upd_ne _ _ (by omega)]
    · rw [upd_eq, si_eq]
  have d7 : ∀ s : CS, s = si (si (si τ 0 17 (zN (τ.1 0 17))) 0 8 (nI (q1 % 10))) 0 17 (zN (zN (τ.1 0 17))) → s.1 0 7 = τ.1 0 7 := fun s hs => by rw [hs, si_ne _ _ (by decide), si_ne _ _ (by decide), si_ne _ _ (by decide)]
  rw [hC, hR1]
  by_cases c : S.1 = 0
  · have c' : nI S.1 ≤ 0 := by rw [c]; decide
    rw [if_pos c', if_pos c']
    refine ⟨_, _, rfl, ?_, hI1, d7 _ rfl⟩
    unfold M_loose_b78 M_drawn
    rw [lt_e, gd_t (by decide), ob_s, ra_eq σ 0 (upd (upd (σ.2 0) 1 (zN (τ.1 0 17))) 7 (nI (q1 % 10))), z2, ra_ra]
    have a2 : (ra σ 0 (upd (upd (upd (σ.2 0) 1 (zN (τ.1 0 17))) 7 (nI (q1 % 10))) 1 (zN (τ.1 0 17) * (1103515245 : Int32) + (12345 : Int32)))).2 0 2 = nI S.1 := by rw [ra_eq, upd_ne _ _ (by decide), upd_ne _ _ (by decide), upd_ne _ _ (by decide)]; exact n2
    rw [a2, if_pos c']
    rfl
  · have c' : ¬ nI S.1 ≤ 0 := nI_nle (by omega) (by omega)
    have ez : nz (nI S.1) = true := nz_t (nI_ne0 (by omega) (by omega))
    have m2 : irm (nI q2) (nI S.1) = nI (q2 % S.1) := irm_e (by omega) (by omega) (by omega)
    have hj : q2 % S.1 < S.1 := Nat.mod_lt _ (by omega)
    rw [if_neg c', if_neg c', gd_t ez, m2, shl31 _ (by omega)]
    obtain ⟨S1, F0', F1', hS1, w1, r1, -⟩ := Inv_day hI1
    have hn1 : S1.1 = S.1 := by
      have := r1.1.1
      rw [ra_eq, upd_ne _ _ (by decide), upd_ne _ _ (by decide), upd_ne _ _ (by decide), n2] at this
      have h1 := hS1.1
      exact ((nI_eq (by omega) (by omega)).mp this).symm
    obtain ⟨cc, cl, c6, c3⟩ := w1.1.2.2.1
    have c6' : τ.1 0 6 = nI cc := by
      rw [← c6, si_ne _ _ (by decide), si_ne _ _ (by decide), si_ne _ _ (by decide)]
    have pj : 2 ^ (q2 % S.1) < 2 ^ S.1 := Nat.pow_lt_pow_right (by decide) hj
    have q13 := p13 h12
    have cl' : cc < 2 ^ S.1 := by rw [← hn1]; exact cl
    rw [c6', ofn_xor (by omega) (by omega)]
    have hx : cc ^^^ 2 ^ (q2 % S.1) < 2 ^ S1.1 := by rw [hn1]; exact Nat.xor_lt_two_pow cl' pj
    have ej : S1.2.1 3 (q2 % S.1) = b01 (cc.testBit (q2 % S.1)) := by rw [c3 _ (by omega), b01_n]
    have hI2 := Inv_car (j := q2 % S.1) (c' := cc ^^^ 2 ^ (q2 % S.1)) (b := !cc.testBit (q2 % S.1)) hI1 hS1 w1.1 r1.1 (by omega) hx (fun i hi => by
      rw [Nat.testBit_xor, Nat.testBit_two_pow]
      by_cases q : i = q2 % S.1
      · rw [← q, if_pos rfl]; simp
      · rw [if_neg q, decide_eq_false (fun z => q z.symm), Bool.xor_false, c3 i hi, b01_n])
    refine ⟨_, _, rfl, ?_, hI2, by rw [si_ne _ _ (by decide)]; exact d7 _ rfl⟩
    unfold M_loose_b78 M_drawn
    have a2 : (ra σ 0 (upd (upd (upd (σ.2 0) 1 (zN (τ.1 0 17))) 7 (nI (q1 % 10))) 1 (zN (τ.1 0 17) * (1103515245 : Int32) + (12345 : Int32)))).2 0 2 = nI S.1 := by rw [ra_eq, upd_ne _ _ (by decide), upd_ne _ _ (by decide), upd_ne _ _ (by decide)]; exact n2
    have a1 : (ra σ 0 (upd (upd (upd (σ.2 0) 1 (zN (τ.1 0 17))) 7 (nI (q1 % 10))) 1 (zN (τ.1 0 17) * (1103515245 : Int32) + (12345 : Int32)))).2 0 1 = zN (zN (τ.1 0 17)) := by rw [ra_eq, upd_eq]; rfl
    rw [lt_e, gd_t ez, ob_s, ra_eq σ 0 (upd (upd (σ.2 0) 1 (zN (τ.1 0 17))) 7 (nI (q1 % 10))), z2, ra_ra, a1, e2, m2, a2, if_neg c']
    have i3 : M_its (nI (q2 % S.1)) 3 (ra σ 0 (upd (upd (upd (σ.2 0) 1 (zN (τ.1 0 17))) 7 (nI (q1 % 10))) 1 (zN (τ.1 0 17) * (1103515245 : Int32) + (12345 : Int32)))) = some (b01 (cc.testBit (q2 % S.1)), ra σ 0 (upd (upd (upd (σ.2 0) 1 (zN (τ.1 0 17))) 7 (nI (q1 % 10))) 1 (zN (τ.1 0 17) * (1103515245 : Int32) + (12345 : Int32)))) := by
      rw [← ej]
      exact its_S (w := 3) hS1.1 r1.1 (by omega) (by decide)
    have g3 : ∀ (v : Int32) (s : RS), M_gets (nI (q2 % S.1)) 3 v s = some (0, ra s 0 (upd (s.2 0) (10 + 5 * (q2 % S.1) + 3) v)) := fun v s => gets_e (k := q2 % S.1) (w := 3) (by omega) (by decide) v s
    have eb : (1 : Int32) - b01 (cc.testBit (q2 % S.1)) = b01 (!cc.testBit (q2 % S.1)) := by cases cc.testBit (q2 % S.1) <;> decide
    rw [i3, ob_s, g3, ob_s, eb]
    rfl
theorem ag_loose (x : Int32) : Agree Inv (N_T_loose x) (M_loose x) := by
  intro k τ σ hk h
  show AgP k _ _
  unfold N_T_loose M_loose
  refine chk E1 h (fun c1 c2 => ?_)
  obtain ⟨N, hN1, hN, rfl⟩ := in_lit 1 40 (by decide) (by decide) c1 c2
  obtain ⟨S, F0, F1, hS, w, r, -⟩ := Inv_day h
  have t1' : τ.1 0 7 = S.2.2 0 := w.1.2.2.2.1
  have t2' : σ.2 0 0 = S.2.2 0 := r.1.2.2.1
  have hF' : FU = 1000 := rfl
  rw [t1', t2']
  by_cases c : S.2.2 0 + nI N ≤ 9999
  · rw [if_pos c, if_pos c]
    obtain ⟨t, ht, et⟩ := rng_nat (b := 9999) (by decide) hS.2.2.1
    have hn3 : t + N ≤ 9999 := by
      rw [et, nI_add] at c
      exact (nI_leI (a := t + N) (b := 9999) (by omega) (by decide)).mp c
    have loop : ∀ (m f1 f2 i t : Nat) (τ1 : CS) (σ1 : RS), i + m = N → m < f1 → m < f2 → t + m ≤ 9999 → Inv k τ1 σ1 → τ1.1 0 7 = nI t → AgP k (N_T_loose_b41 f1 (nI N) (nI i) τ1) (M_loose_b40 f2 (nI N) (nI i) σ1) := by
      intro m
      induction m with
      | zero =>
        intro f1 f2 i t τ1 σ1 hm h1 h2 ht hI h7
        obtain ⟨f1, rfl⟩ : ∃ q, f1 = q + 1 := ⟨f1 - 1, by omega⟩
        obtain ⟨f2, rfl⟩ : ∃ q, f2 = q + 1 := ⟨f2 - 1, by omega⟩
        have c : nI N ≤ nI i := nI_le (by omega) (by omega)
        obtain ⟨S, F0, F1, hS, w, r, -⟩ := Inv_day hI
        rw [N_T_loose_b41, M_loose_b40, if_pos c, if_pos c, sumC hS.1 w.1, sumR hS.1 r.1, ob_s, ob_s]
        exact ⟨_, _, _, rfl, rfl, Inv_mono _ _ _ hI⟩
      | succ m ih =>
        intro f1 f2 i t τ1 σ1 hm h1 h2 ht hI h7
        obtain ⟨f1, rfl⟩ : ∃ q, f1 = q + 1 := ⟨f1 - 1, by omega⟩
        obtain ⟨f2, rfl⟩ : ∃ q, f2 = q + 1 := ⟨f2 - 1, by omega⟩
        have c : ¬ nI N ≤ nI i := nI_ge (by omega) (by omega)
        obtain ⟨τ2, σ2, e1, e2, hI2, d2⟩ := draw_ok hI (nI N) (nI i) (M_loose_b40 f2)
        obtain ⟨S, F0, F1, hS, w, r, hL, hR, hF0, hF1, h15⟩ := Inv_day hI2
        have e7 : S.2.2 0 = nI t := (w.1.2.2.2.1).symm.trans (d2.trans h7)
        have hS' : SPok S t := by
          have := SPok_self hS
          rw [e7, nI_toInt (by omega)] at this
          exact this
        obtain ⟨τ3, e3, w3, s3⟩ := pass1C hL hF0 hF1 hS' (by omega) w
        obtain ⟨σ3, e4, r3⟩ := pass1R hR hF0 hF1 h15 hS' (by omega) r
        have hI3 := Inv_w0 hI2 w3 r3 (SPok_mono s3 (by omega))
        have d3 : τ3.1 0 7 = nI (t + 1) := by
          have q : τ3.1 0 7 = (d1S F0 F1 S).2.2 0 := w3.1.2.2.2.1
          rw [q]
          show S.2.2 0 + 1 = nI (t + 1)
          rw [e7, nI_1]
        rw [N_T_loose_b41, M_loose_b40, if_neg c, if_neg c, e1, e2, ob_s, e3, ob_s, nI_1]
        unfold M_loose_b105
        rw [e4, ob_s, nI_1]
        exact ih f1 f2 (i + 1) (t + 1) τ3 σ3 (by omega) (by omega) (by omega) (by omega) hI3 d3
    exact loop N FU FU 0 t τ σ (by omega) (by omega) (by omega) (by omega) h (t1'.trans et)
  · rw [if_neg c, if_neg c]
    exact err2 E3 h
