section TC
variable {τ : CS} {c n : Nat} {Cl : Nat → Bool} {dw : Nat → Int32} {x v N : Int32}
theorem towC_p18 {h : Nat} (ag : Int32 → Int32 → Int32 → Int32 → CS → Option (Int32 × CS)) (hn : n ≤ 12) (hh : h < n) (hc : c < 2 ^ 31) (h6 : τ.1 0 6 = nI c) (hcl : ∀ T, Cl T = decide (dw T < v)) (hdw : ∀ (T : Nat) (τ1 : CS), T < 2 ^ 31 → t1 τ τ1 → ∃ τ2, N_T_dirtWithout (nI T) x N τ1 = some (dw T, τ2) ∧ t1 τ τ2) : ∀ (m f l : Nat) (τ1 : CS), l + m = h → m < f → t1 τ τ1 → fh (fun l => c.testBit h && (c.testBit l && Cl (2 ^ h ||| 2 ^ l))) l = none → ∃ τ2, t1 τ τ2 ∧ N_T_leastPairToTow_b18 ag f x v N (nI h) (nI l) τ1 = (match fh (fun l => c.testBit h && (c.testBit l && Cl (2 ^ h ||| 2 ^ l))) h with
    | some a => some (nI (2 ^ h ||| 2 ^ a), τ2)
    | none => ag x v N (nI (h + 1)) τ2) := by
  intro m
  induction m with
  | zero =>
    intro f l τ1 hm hf t hq
    obtain ⟨f, rfl⟩ : ∃ q, f = q + 1 := ⟨f - 1, by omega⟩
    have hl : l = h := by omega
    subst hl
    rw [N_T_leastPairToTow_b18, if_pos (nI_le (Nat.le_refl _) (by omega)), nI_1, hq]
    exact ⟨τ1, t, rfl⟩
  | succ m ih =>
    intro f l τ1 hm hf t hq
    obtain ⟨f, rfl⟩ : ∃ q, f = q + 1 := ⟨f - 1, by omega⟩
    have c1 : ¬ nI h ≤ nI l := nI_ge (by omega) (by omega)
    have h6' : τ1.1 0 6 = nI c := (t.1 0 6 (by decide)).trans h6
    have pl : 2 ^ h ||| 2 ^ l < 2 ^ 31 := pr_lt (by omega) (by omega)
    have ha : c &&& (2 ^ h ||| 2 ^ l) ≤ c := Nat.and_le_left
    rw [N_T_leastPairToTow_b18, if_neg c1, lt_e, sh_or (by omega) (by omega), h6', ofn_and hc pl]
    unfold N_T_leastPairToTow_b66
    rw [nI_1]
    by_cases q : c &&& (2 ^ h ||| 2 ^ l) = 2 ^ h ||| 2 ^ l
    · rw [q, if_pos rfl]
      obtain ⟨b1, b2⟩ := and_pr.mp q
      obtain ⟨τ2, e2, t2⟩ := hdw _ τ1 pl t
      rw [e2, ob_s]
      by_cases g : v ≤ dw (2 ^ h ||| 2 ^ l)
      · rw [if_pos g]
        refine ih f (l + 1) τ2 (by omega) (by omega) t2 (fh_0 hq ?_)
        show (c.testBit h && (c.testBit l && Cl (2 ^ h ||| 2 ^ l))) = false
        rw [b1, b2, hcl, decide_eq_false (i32_le_nlt g)]; rfl
      · rw [if_neg g]
        have z := fh_1 (P := fun l => c.testBit h && (c.testBit l && Cl (2 ^ h ||| 2 ^ l))) hq (by
          show (c.testBit h && (c.testBit l && Cl (2 ^ h ||| 2 ^ l))) = true
          rw [b1, b2, hcl, decide_eq_true (i32_nle g)]; rfl)
        have z2 := fh_up z m
        rw [show l + 1 + m = h by omega] at z2
        rw [z2]
        exact ⟨τ2, t2, rfl⟩
    · rw [if_neg (fun z => q ((nI_eq (by omega) (by omega)).mp z))]
      refine ih f (l + 1) τ1 (by omega) (by omega) t (fh_0 hq ?_)
      show (c.testBit h && (c.testBit l && Cl (2 ^ h ||| 2 ^ l))) = false
      cases b1 : c.testBit h
      · rfl
      · cases b2 : c.testBit l
        · rfl
        · exact absurd (and_pr.mpr ⟨b1, b2⟩) q
theorem towC_p3 (hn : n ≤ 12) (hc : c < 2 ^ 31) (h5 : τ.1 0 5 = nI n) (h6 : τ.1 0 6 = nI c) (hcl : ∀ T, Cl T = decide (dw T < v)) (hdw : ∀ (T : Nat) (τ1 : CS), T < 2 ^ 31 → t1 τ τ1 → ∃ τ2, N_T_dirtWithout (nI T) x N τ1 = some (dw T, τ2) ∧ t1 τ τ2) : ∀ (m f h : Nat) (τ1 : CS), h + m = n → m < f → t1 τ τ1 → pf (fun a l => c.testBit a && (c.testBit l && Cl (2 ^ a ||| 2 ^ l))) h = none → ∃ τ2, t1 τ τ2 ∧ N_T_leastPairToTow_b3 f x v N (nI h) τ1 = some (oI 0 (pf (fun a l => c.testBit a && (c.testBit l && Cl (2 ^ a ||| 2 ^ l))) n), τ2) := by
  intro m
  induction m with
  | zero =>
    intro f h τ1 hm hf t hq
    obtain ⟨f, rfl⟩ : ∃ q, f = q + 1 := ⟨f - 1, by omega⟩
    have hl : h = n := by omega
    subst hl
    have h5' : τ1.1 0 5 = nI h := (t.1 0 5 (by decide)).trans h5
    rw [N_T_leastPairToTow_b3, h5', if_pos (nI_le (Nat.le_refl _) (by omega)), hq]
    exact ⟨τ1, t, rfl⟩
  | succ m ih =>
    intro f h τ1 hm hf t hq
    obtain ⟨f, rfl⟩ : ∃ q, f = q + 1 := ⟨f - 1, by omega⟩
    have h5' : τ1.1 0 5 = nI n := (t.1 0 5 (by decide)).trans h5
    have c1 : ¬ nI n ≤ nI h := nI_ge (by omega) (by omega)
    have hF' : FU = 1000 := rfl
    obtain ⟨τ2, t2, e2⟩ := towC_p18 (h := h) (N_T_leastPairToTow_b3 f) hn (by omega) hc h6 hcl hdw h FU 0 τ1 (by omega) (by omega) t rfl
    have e2' : N_T_leastPairToTow_b18 (N_T_leastPairToTow_b3 f) FU x v N (nI h) 0 τ1 = _ := e2
    rw [N_T_leastPairToTow_b3, h5', if_neg c1, e2']
    have en := pf_n hq
    cases z : fh (fun l => c.testBit h && (c.testBit l && Cl (2 ^ h ||| 2 ^ l))) h with
    | none =>
      have en' : pf (fun a l => c.testBit a && (c.testBit l && Cl (2 ^ a ||| 2 ^ l))) (h + 1) = none := by rw [en, z]; rfl
      exact ih f (h + 1) τ2 (by omega) (by omega) t2 en'
    | some a =>
      have en' : pf (fun a l => c.testBit a && (c.testBit l && Cl (2 ^ a ||| 2 ^ l))) (h + 1) = some (2 ^ h ||| 2 ^ a) := by rw [en, z]; rfl
      have z2 := pf_up en' m
      rw [show h + 1 + m = n by omega] at z2
      rw [z2]
      exact ⟨τ2, t2, rfl⟩
theorem towC_55 (hn : n ≤ 12) (hc : c < 2 ^ 31) (h5 : τ.1 0 5 = nI n) (h6 : τ.1 0 6 = nI c) (hcl : ∀ T, Cl T = decide (dw T < v)) (hdw : ∀ (T : Nat) (τ1 : CS), T < 2 ^ 31 → t1 τ τ1 → ∃ τ2, N_T_dirtWithout (nI T) x N τ1 = some (dw T, τ2) ∧ t1 τ τ2) : ∀ (m f a : Nat) (τ1 : CS), a + m = n → m < f → t1 τ τ1 → fh (fun a => c.testBit a && Cl (2 ^ a)) a = none → ∃ τ2, t1 τ τ2 ∧ N_T_tow_b55 f x v N (nI a) τ1 = (match fh (fun a => c.testBit a && Cl (2 ^ a)) n with
    | some a => some (nI (2 ^ a), τ2)
    | none => ob (N_T_leastPairToTow x v N τ2) fun v27 σ28 => (if v27 = 0 then (ob (N_T_fail (-1000000002) σ28) fun v31 σ32 => (some (v31, σ32))) else (some (v27, σ28)))) := by
  intro m
  induction m with
  | zero =>
    intro f a τ1 hm hf t hq
    obtain ⟨f, rfl⟩ : ∃ q, f = q + 1 := ⟨f - 1, by omega⟩
    have hl : a = n := by omega
    subst hl
    have h5' : τ1.1 0 5 = nI a := (t.1 0 5 (by decide)).trans h5
    rw [N_T_tow_b55, h5', if_pos (nI_le (Nat.le_refl _) (by omega)), hq]
    exact ⟨τ1, t, rfl⟩
  | succ m ih =>
    intro f a τ1 hm hf t hq
    obtain ⟨f, rfl⟩ : ∃ q, f = q + 1 := ⟨f - 1, by omega⟩
    have h5' : τ1.1 0 5 = nI n := (t.1 0 5 (by decide)).trans h5
    have h6' : τ1.1 0 6 = nI c := (t.1 0 6 (by decide)).trans h6
    have c1 : ¬ nI n ≤ nI a := nI_ge (by omega) (by omega)
    have pl : 2 ^ a < 2 ^ 31 := Nat.pow_lt_pow_right (by decide) (by omega)
    rw [N_T_tow_b55, h5', if_neg c1]
    unfold N_S_carOf N_T_tow_b99
    rw [ob_s, h6', bit_b hc (by omega), nI_1, shl31 a (by omega)]
    cases b1 : c.testBit a
    · rw [if_neg (by decide : ¬ b01 false = 1)]
      refine ih f (a + 1) τ1 (by omega) (by omega) t (fh_0 hq ?_)
      show (c.testBit a && Cl (2 ^ a)) = false
      rw [b1]; rfl
    · rw [if_pos (by decide : b01 true = 1)]
      obtain ⟨τ2, e2, t2⟩ := hdw _ τ1 pl t
      rw [e2, ob_s]
      by_cases g : v ≤ dw (2 ^ a)
      · rw [if_pos g]
        refine ih f (a + 1) τ2 (by omega) (by omega) t2 (fh_0 hq ?_)
        show (c.testBit a && Cl (2 ^ a)) = false
        rw [b1, hcl, decide_eq_false (i32_le_nlt g)]; rfl
      · rw [if_neg g]
        have z := fh_1 (P := fun a => c.testBit a && Cl (2 ^ a)) hq (by
          show (c.testBit a && Cl (2 ^ a)) = true
          rw [b1, hcl, decide_eq_true (i32_nle g)]; rfl)
        have z2 := fh_up z m
        rw [show a + 1 + m = n by omega] at z2
        rw [z2]
        exact ⟨τ2, t2, rfl⟩
end TC
theorem ag_tow (x v n : Int32) : Agree Inv (N_T_tow x v n) (M_tow x v n) := by
  intro k τ σ hk h
  show AgP k _ _
  unfold N_T_tow M_tow
  refine chkY E1 h (fun S0 y hy hx hS0 hr0 hc0 => chk E1 h (fun c1 c2 => chk E1 h (fun c3 c4 => ?_)))
  subst hx
  obtain ⟨N, -, hN, rfl⟩ := in_lit 0 20 (by decide) (by decide) c3 c4
  obtain ⟨S, F0, F1, hS, w, r, hL, hR, hF0, hF1, h15⟩ := Inv_day h
  have hn : S0.1 = S.1 := RRow_n hr0 r.1 hS0.1 hS.1
  rw [hn] at hy
  have h12 := hS.1
  have hF' : FU = 1000 := rfl
  obtain ⟨c, cl, h6, c3'⟩ := w.1.2.2.1
  have q13 := p13 h12
  have hc : c < 2 ^ 31 := by omega
  have h5 : τ.1 0 5 = nI S.1 := w.1.1
  obtain ⟨dw, hdwd⟩ : ∃ dw : Nat → Int32, dw = fun T => (itD F0 F1 N (setC S (gTw c T))).2.1 2 y := ⟨_, rfl⟩
  have hok : ∀ T, SPok (setC S (gTw c T)) 9999 := fun T => hS.cars (fun j hj => by
    unfold gTw
    cases (nand c T).testBit j
    · exact Or.inl rfl
    · exact Or.inr rfl)
  have hdw : ∀ (T : Nat) (τ1 : CS), T < 2 ^ 31 → t1 τ τ1 → ∃ τ2, N_T_dirtWithout (nI T) (nI y) (nI N) τ1 = some (dw T, τ2) ∧ t1 τ τ2 := by
    intro T τ1 hT t
    obtain ⟨τT, e1, t2, wT, hLT⟩ := think1 h12 t w.1 hL
    obtain ⟨c', cl', c2', c3''⟩ := wT.1.2.2.1
    have ec : c' = c := car_uniq cl' cl (fun j hj => (c3'' j hj).symm.trans (c3' j hj))
    subst ec
    have hnl : nand c' T ≤ c' := nand_le
    have w2 : CStr (si τT 1 6 (nI (nand c' T))) 1 (setC S (gTw c' T)) := wT.1.cars (by omega) (fun j hj => b01_n _ _)
    obtain ⟨τ3, e3, f3⟩ := behindC (S := setC S (gTw c' T)) (N := N) (y := y) (CL_si (f := 6) (v := nI (nand c' T)) hLT) hF0 hF1 (by omega) hy (hok T) (by omega) ⟨w2, fr.rf 1 _⟩
    refine ⟨τ3, ?_, t2.si.fr f3⟩
    unfold N_T_dirtWithout
    rw [e1, ob_s, lt_e, c2', ofn_nand hc hT, e3, ob_s, hdwd]
  have run : ∀ (T : Nat) (σ1 σ2 : RS), rB σ σ1 → frr σ1 σ2 → RRow (σ2.2 0) (setC S (gTw c T)) → ∃ σ3, M_isClean_b33 (nI y) v (nI N) σ2 = some (b01 (decide (dw T < v)), σ3) ∧ rR σ σ3 := by
    intro T σ1 σ2 b f rr
    have hRl := rB_L b hR
    obtain ⟨σ3, e4, w4⟩ := passR (σ0 := σ2) (N := N) ⟨frr_L (by decide) f hRl.1, frr_L (by decide) f hRl.2⟩ hF0 hF1 ((f.1 15 (by omega)).trans (rB_15 b h15)) (by omega) (hok T) (by omega) ⟨rr, frr.rf σ2⟩
    have i2 : M_its (nI y) 2 σ3 = some (dw T, σ3) := by
      rw [hdwd]
      exact its_S (S := itD F0 F1 N (setC S (gTw c T))) (w := 2) (by rw [itD_n]; exact h12) w4.1 (by rw [itD_n]; exact hy) (by decide)
    obtain ⟨σB, e5, bB⟩ := back_e ((b.1.frr f).frr w4.2)
    refine ⟨σB, ?_, rB_R bB⟩
    unfold M_isClean_b33
    rw [e4, ob_s, i2, ob_s, lt_e, e5, ob_s]
    by_cases g : v ≤ dw T
    · rw [if_pos g, decide_eq_false (i32_le_nlt g)]; rfl
    · rw [if_neg g, decide_eq_true (i32_nle g)]; rfl
  have gb : ∀ j, j < S.1 → S.2.1 3 j = b01 (c.testBit j) := fun j hj => by rw [b01_n]; exact c3' j hj
  have cln : ∀ (a b : Nat) (σ1 : RS), a < S.1 → b < S.1 → rR σ σ1 → ∃ σ2, M_isClean (nI y) v (nI N) (nI a) (nI b) σ1 = some (b01 (decide (dw (2 ^ a ||| 2 ^ b) < v)), σ2) ∧ rR σ σ2 := by
    intro a b σ1 ha hb hRR
    obtain ⟨σS, e2, bS⟩ := saveR hRR
    have g1 : M_gets (nI a) 3 0 σS = some (0, ra σS 0 (upd (σS.2 0) (10 + 5 * a + 3) 0)) := gets_e (k := a) (w := 3) (by omega) (by decide) 0 σS
    have g2 : ∀ s : RS, M_gets (nI b) 3 0 s = some (0, ra s 0 (upd (s.2 0) (10 + 5 * b + 3) 0)) := fun s => gets_e (k := b) (w := 3) (by omega) (by decide) 0 s
    have r0 : RRow (σS.2 0) (setC S (S.2.1 3)) := by rw [setC_id]; exact (rB_W h12 bS r.1).1
    have r1 := (r0.cars (k := a) (v := 0) h12 ha).cars (k := b) (v := 0) h12 hb
    have r3 : RRow (upd (upd (σS.2 0) (10 + 5 * a + 3) 0) (10 + 5 * b + 3) 0) (setC S (gTw c (2 ^ a ||| 2 ^ b))) := r1.carg (fun j hj => by
      unfold gTw
      rw [nand_bit, pr_bit]
      by_cases q : j = b
      · subst q
        rw [upd_eq]; simp; rfl
      · rw [upd_ne _ _ q]
        by_cases q2 : j = a
        · subst q2
          rw [upd_eq]; simp; rfl
        · rw [upd_ne _ _ q2, gb j hj]; simp [q, q2])
    obtain ⟨σ3, e3, hR3⟩ := run (2 ^ a ||| 2 ^ b) σS (ra (ra σS 0 (upd (σS.2 0) (10 + 5 * a + 3) 0)) 0 (upd ((ra σS 0 (upd (σS.2 0) (10 + 5 * a + 3) 0)).2 0) (10 + 5 * b + 3) 0)) bS ((frr_ra (by omega)).tr (frr_ra (by omega))) (by rw [ra_eq, ra_eq]; exact r3)
    refine ⟨σ3, ?_, hR3⟩
    unfold M_isClean
    rw [e2, ob_s, if_neg (nI_pos (by omega)), g1, ob_s, g2, ob_s, e3]
  obtain ⟨τ2, e1, t2⟩ := hdw 0 τ (by decide) (t1.rf (Inv_l h))
  obtain ⟨σS, e2, bS⟩ := saveR (rR.rf σ)
  have r0 : RRow (σS.2 0) (setC S (gTw c 0)) := by
    have r0 : RRow (σS.2 0) (setC S (S.2.1 3)) := by rw [setC_id]; exact (rB_W h12 bS r.1).1
    exact r0.carg (fun j hj => by
      unfold gTw
      rw [nand_bit, gb j hj]; simp)
  obtain ⟨σ3, e3, hR3⟩ := run 0 σS σS bS (frr.rf σS) r0
  have e1' : N_T_dirtWithout 0 (nI y) (nI N) τ = some (dw 0, τ2) := e1
  have e4 : M_isClean (nI y) v (nI N) (-1) (-1) σ = some (b01 (decide (dw 0 < v)), σ3) := by
    unfold M_isClean
    rw [e2, ob_s, if_pos (by decide : (-1 : Int32) < 0), e3]
  rw [e1', e4, ob_s, ob_s]
  by_cases g : v ≤ dw 0
  · rw [if_pos g, decide_eq_false (i32_le_nlt g), if_pos b0z]
    have r3 : RRow (σ3.2 0) S := r.1.cg h12 (fun i hi _ => hR3.2 i (by omega))
    have n3 : σ3.2 0 2 - 1 = nI S.1 + (-1) := by
      rw [r3.1]
      obtain ⟨q, hq⟩ : ∃ q, S.1 = q + 1 := ⟨S.1 - 1, by omega⟩
      rw [hq, nI_pred, pk_m1]
    rw [carsR hS r3 cl c3', ob_s, lt_e, n3]
    obtain ⟨τ4, t4, e5⟩ := towC_55 (τ := τ) (x := nI y) (v := v) (N := nI N) (Cl := fun T => decide (dw T < v)) h12 hc h5 h6 (fun T => rfl) hdw S.1 FU 0 τ2 (by omega) (by omega) t2 rfl
    obtain ⟨σ5, one', two', r5, e6, k5, k6⟩ := towR_out (σ := σ) (x := nI y) (v := v) (N := nI N) (Cl := fun T => decide (dw T < v)) h12 hc cln S.1 FU none none σ3 (Nat.le_refl _) (by omega) (fun T q => by cases q) hR3
    have e5' : N_T_tow_b55 FU (nI y) v (nI N) 0 τ2 = _ := e5
    have e6' : M_tow_b72 FU (nI y) v (nI N) (nI c) (-1) (-1) (nI S.1 + (-1)) σ3 = _ := e6
    rw [e5', e6']
    unfold towE
    cases z : fh (fun a => c.testBit a && decide (dw (2 ^ a) < v)) S.1 with
    | some a =>
      have ha := fh_lt _ _ _ z
      have pl : 2 ^ a < 2 ^ 31 := Nat.pow_lt_pow_right (by decide) (by omega)
      have k7 : one' = some (2 ^ a) := by rw [k5, z]; rfl
      rw [k7]
      have ng : ¬ oI (-1) (some (2 ^ a)) < 0 := nI_pos pl
      rw [if_neg ng]
      exact ⟨_, _, _, rfl, rfl, Inv_th h t4 r5.1 r5.2⟩
    | none =>
      have k7 : one' = none := by rw [k5, z]; rfl
      rw [k7]
      have k8 := k6 k7
      obtain ⟨τ6, t6, e7⟩ := towC_p3 (τ := τ) (x := nI y) (v := v) (N := nI N) (Cl := fun T => decide (dw T < v)) h12 hc h5 h6 (fun T => rfl) hdw (S.1 - 1) FU 1 τ4 (by omega) (by omega) t4 rfl
      have e7' : N_T_leastPairToTow (nI y) v (nI N) τ4 = _ := e7
      have ng : oI (-1) none < 0 := by decide
      show AgP k (ob (N_T_leastPairToTow (nI y) v (nI N) τ4) _) _
      rw [e7', ob_s, if_pos ng, k8]
      cases z2 : pf (fun a l => c.testBit a && (c.testBit l && decide (dw (2 ^ a ||| 2 ^ l) < v))) S.1 with
      | none =>
        have m1 : oI 0 none = 0 := rfl
        have m2 : oI (-1) (orr none none) < 0 := by decide
        rw [if_pos m1, if_pos m2]
        exact err2 E2 (Inv_R0 h t6 r5)
      | some T =>
        obtain ⟨p1, p2⟩ := pf_b _ _ z2
        have m1 : ¬ oI 0 (some T) = 0 := nI_ne0 (n := T) p1 (by omega)
        have m2 : ¬ oI (-1) (orr (some T) none) < 0 := nI_pos (n := T) (by omega)
        rw [if_neg m1, if_neg m2]
        exact ⟨_, _, _, rfl, rfl, Inv_th h t6 r5.1 r5.2⟩
  · rw [if_neg g, decide_eq_true (i32_nle g), if_neg b1z]
    exact ⟨_, _, _, rfl, rfl, Inv_th h t2 hR3.1 hR3.2⟩
