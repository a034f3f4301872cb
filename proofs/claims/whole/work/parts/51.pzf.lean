/-! numbers, names, what is open: the readers' innermost -/
theorem i10 : ¬ (1 : Int32) = 0 := by decide
def dg (b : Int32) : Int32 := if b < 48 then 0 else if 57 < b then 0 else 1
theorem dgC (b : Int32) (τ : CS) : N_Q_isDigit b τ = some (dg b, τ) := by
  unfold N_Q_isDigit N_T_within
  rw [ob_s, gd_t (isb_in _ _ _)]; rfl
theorem dgR (b : Int32) (σ : RS) : M_isDigit b σ = some (dg b, σ) := by
  unfold M_isDigit M_in
  rw [ob_s, gd_t (isb_in _ _ _)]; rfl
theorem dg_in {b : Int32} (h : ¬ dg b = 0) : ∃ j : Nat, 48 ≤ j ∧ j ≤ 57 ∧ b = nI j := by
  obtain ⟨c1, c2⟩ := in_ne h
  exact in_lit 48 57 (by decide) (by decide) c1 c2
theorem psh_nI {a b c : Int32} {v : Nat} (h : v < 2 ^ 31) : psh a b c (nI v) = nI v := by
  unfold psh; rw [if_neg (nI_pos h)]
theorem nI_m3 {v : Nat} (h : v < 2 ^ 31) : ¬ nI v < (-3 : Int32) := by
  rw [Int32.lt_iff_toInt_lt, nI_toInt h, show ((-3 : Int32)).toInt = -3 by decide]
  omega
theorem pz_num {o u sz p0 w0 : Nat} {τ0 : CS} {σ0 : RS} (h0 : pzD u sz o p0 w0 τ0 σ0) : ∀ (m n1 n2 c v : Nat) (τ : CS) (σ : RS), c + m = 4 → m < n1 → m < n2 → v < 10 ^ c → pzC τ0 τ → pzR σ0 σ → τ.1 3 3 = nI (p0 + c) → σ.1 8 = nI (p0 + c) → τ.1 3 4 = nI w0 → σ.1 10 = nI o → σ.1 14 = 1 → p0 + c ≤ sz → τ.2.1 3 1 = τ0.2.1 3 1 → (0 < c ∨ ∃ b, N_Q_next τ = some (b, τ) ∧ ¬ dg b = 0) → ∃ (x : Int32) (τ' : CS) (σ' : RS), M_number_b4 n2 (nI v) (nI c) σ = some (x, σ') ∧ N_Q_readNumber_b4 n1 (nI v) (nI c) τ = some (0, τ') ∧ ∃ (q : Nat) (cd : List Int32), pzG sz o p0 w0 τ0 σ0 q cd x τ' σ' := by
  intro m
  have hsz : sz ≤ 50 := h0.1.1
  have hw0 : w0 ≤ p0 := h0.2.2.2.2.2.2.2
  have fin : ∀ (c v : Nat) (τ : CS) (σ : RS), c ≤ 4 → v < 10 ^ c → pzC τ0 τ → pzR σ0 σ → τ.1 3 3 = nI (p0 + c) → σ.1 8 = nI (p0 + c) → τ.1 3 4 = nI w0 → σ.1 10 = nI o → σ.1 14 = 1 → p0 + c ≤ sz → τ.2.1 3 1 = τ0.2.1 3 1 → 0 < c → ∃ τ', N_Q_write (nI v) τ = some (0, τ') ∧ ∃ (q : Nat) (cd : List Int32), pzG sz o p0 w0 τ0 σ0 q cd (nI v) τ' σ := by
    intro c v τ σ hc4 hv a1 a2 a3 a4 a5 a6 a7 a8 a9 hc
    have hv2 : v < 10 ^ 4 := Nat.lt_of_lt_of_le hv (Nat.pow_le_pow_right (by decide) hc4)
    have hv3 : v < 10000 := hv2
    refine ⟨_, pz_write (by omega) a5 (nI v), p0 + c, [nI v], ?_⟩
    have hE : EvC (σ0.1 11) (σ0.1 12) (σ0.1 13) [nI v] (nI v) := by
      have := EvC_1 (a := σ0.1 11) (b := σ0.1 12) (c := σ0.1 13) (v := nI v) (nI_m3 (by omega))
      rw [psh_nI (by omega)] at this
      exact this
    exact pzG_w (cd := []) rfl hE (by show p0 + 0 < p0 + c; omega) a1 a2 a3 a4 a5 a6 a7 a8 (fun i _ => by rw [a9]) (fun i hi => absurd hi (Nat.not_lt_zero _))
  induction m with
  | zero =>
    intro n1 n2 c v τ σ hc h1 h2 hv a1 a2 a3 a4 a5 a6 a7 a8 a9 a10
    obtain ⟨n1, rfl⟩ : ∃ k, n1 = k + 1 := ⟨n1 - 1, by omega⟩
    obtain ⟨n2, rfl⟩ : ∃ k, n2 = k + 1 := ⟨n2 - 1, by omega⟩
    have c1 : (4 : Int32) ≤ nI c := nI_le (a := 4) (b := c) (by omega) (by omega)
    obtain ⟨τ', e1, e2⟩ := fin c v τ σ (by omega) hv a1 a2 a3 a4 a5 a6 a7 a8 a9 (by omega)
    simp only [M_number_b4, N_Q_readNumber_b4, if_pos c1, e1, ob_s]
    exact ⟨_, _, _, rfl, rfl, e2⟩
  | succ m ih =>
    intro n1 n2 c v τ σ hc h1 h2 hv a1 a2 a3 a4 a5 a6 a7 a8 a9 a10
    obtain ⟨n1, rfl⟩ : ∃ k, n1 = k + 1 := ⟨n1 - 1, by omega⟩
    obtain ⟨n2, rfl⟩ : ∃ k, n2 = k + 1 := ⟨n2 - 1, by omega⟩
    have c1 : ¬ (4 : Int32) ≤ nI c := nI_ge (a := c) (b := 4) (by omega) (by omega)
    have hD : pzD u sz o (p0 + c) w0 τ σ := ⟨h0.1.pr a1 a2, a3, a4, a5, a6, a7, a8, by omega⟩
    obtain ⟨b, hb1, hb2, hb3⟩ := pz_nx hD
    simp only [M_number_b4, N_Q_readNumber_b4, if_neg c1, hb1, hb2, ob_s, dgC, dgR]
    by_cases cd : dg b = 0
    · rw [if_pos cd, if_pos cd]
      have hc0 : 0 < c := by
        rcases a10 with q | ⟨b', q1, q2⟩
        · exact q
        · exfalso
          rw [hb1] at q1
          cases q1
          exact q2 cd
      obtain ⟨τ', e1, e2⟩ := fin c v τ σ (by omega) hv a1 a2 a3 a4 a5 a6 a7 a8 a9 hc0
      rw [e1, ob_s]
      exact ⟨_, _, _, rfl, rfl, e2⟩
    · rw [if_neg cd, if_neg cd]
      obtain ⟨j, j1, j2, rfl⟩ := dg_in cd
      have hp : p0 + c < sz := by
        rcases hb3 with q | q
        · exact q.1
        · exfalso
          have q2 := q.2
          have : (nI j).toInt = (j : Int) := nI_toInt (by omega)
          rw [q2, show ((-1 : Int32)).toInt = -1 by decide] at this
          omega
      have hv4 : 10 ^ (c + 1) = 10 * 10 ^ c := by rw [Nat.pow_succ, Nat.mul_comm]
      have e1 : (nI v * (10 : Int32) + nI j) - (48 : Int32) = nI (10 * v + (j - 48)) := by
        rw [show (10 : Int32) = nI 10 from rfl, pk_mul, nI_add, show (48 : Int32) = nI 48 from rfl, pk_sub (by omega)]
        congr 1; omega
      have e2 : ((10 : Int32) * nI v + nI j) - (48 : Int32) = nI (10 * v + (j - 48)) := by
        rw [show (10 : Int32) = nI 10 from rfl, pk_mul, nI_add, show (48 : Int32) = nI 48 from rfl, pk_sub (by omega)]
        congr 1; omega
      rw [lt_e, lt_e, lt_e, lt_e, e1, e2, a3, a4, nI_1, nI_1]
      exact ih n1 n2 (c + 1) (10 * v + (j - 48)) _ _ (by omega) (by omega) (by omega) (by omega) (a1.tr (pzC_si (Or.inl rfl))) (a2.tr (pzR_ri (Or.inl rfl))) (si_eq _ _ _ _) (ri_eq _ _ _) (by rw [si_ne _ _ (by decide)]; exact a5) (by rw [ri_ne _ _ (by decide)]; exact a6) (by rw [ri_ne _ _ (by decide)]; exact a7) (by omega) a9 (Or.inl (by omega))
theorem pz_b59 {rd : Int32 → Int32 → CS → Option (Int32 × CS)} {ro : Int32 → CS → Option (Int32 × CS)} {fac : RS → Option (Int32 × RS)} {o u sz p w : Nat} {τ : CS} {σ : RS} {b : Int32} (ho : o ≤ 5) (h1 : o < 5 → pzS (o + 1) (rd 0 (nI (o + 1))) (M_whole fac)) (h2 : o < 5 → pzS (o + 1) (ro (nI (o + 1))) fac) (h0 : pzD u sz o p w τ σ) (hp : p < sz) (hb : b = 33 ∨ b = 40) : ∃ (x : Int32) (τ' : CS) (σ' : RS), M_factorB_b39 fac b σ = some (x, σ') ∧ ((N_Q_readsOne_b59 rd ro (nI o) b τ = some (0, τ') ∧ pzF sz τ σ τ' σ') ∨ (N_Q_readsOne_b59 rd ro (nI o) b τ = some (1, τ') ∧ ∃ (q : Nat) (cd : List Int32), pzG sz o p w τ σ q cd x τ' σ')) := by
  obtain ⟨hB, d1, d2, d3, d4, d5, d6, d7⟩ := id h0
  have hsz : sz ≤ 50 := hB.1
  unfold N_Q_readsOne_b59 M_factorB_b39
  rw [d4]
  by_cases c5 : o = 5
  · subst c5
    rw [if_pos (by decide : nI 5 = (5 : Int32)), if_neg (by decide : ¬ nI 5 < (5 : Int32))]
    unfold M_fails
    rw [lt_e, ob_s]
    exact ⟨_, _, _, rfl, Or.inl ⟨rfl, pzC.rf τ, pzR_ri (Or.inr (Or.inr rfl)), ri_eq _ _ _, p, d6, d1, by rw [ri_ne _ _ (by decide)]; exact d2⟩⟩
  have ho5 : o < 5 := by omega
  have c6 : nI o < (5 : Int32) := nI_lt (a := o) (b := 5) ho5 (by decide)
  have c7 : ¬ nI o = (5 : Int32) := fun q => c5 ((nI_eq (by omega) (by decide : 5 < 2 ^ 31)).mp q)
  rw [if_pos c6, if_neg c7, lt_e, lt_e, lt_e, ri_ne _ _ (by decide : 8 ≠ 10), d1, d2, nI_1, nI_1]
  have cA : pzC τ (si τ 3 3 (nI (p + 1))) := pzC_si (Or.inl rfl)
  have rA : pzR σ (ri (ri σ 10 (nI (o + 1))) 8 (nI (p + 1))) := (pzR_ri (Or.inr (Or.inl rfl))).tr (pzR_ri (Or.inl rfl))
  have hA : pzD u sz (o + 1) (p + 1) w (si τ 3 3 (nI (p + 1))) (ri (ri σ 10 (nI (o + 1))) 8 (nI (p + 1))) := ⟨hB.pr cA rA, si_eq _ _ _ _, ri_eq _ _ _, by rw [si_ne _ _ (by decide)]; exact d3, by rw [ri_ne _ _ (by decide), ri_eq], by rw [ri_ne _ _ (by decide), ri_ne _ _ (by decide)]; exact d5, by omega, by omega⟩
  have hn : ∀ f, f ≠ 8 → f ≠ 10 → f ≠ 14 → (ri (ri σ 10 (nI (o + 1))) 8 (nI (p + 1))).1 f = σ.1 f := fun f x y z => rA.2 f x y z
  have r10 : ∀ {s : RS} {v : Int32}, pzR s (ri s 10 v) := pzR_ri (Or.inr (Or.inl rfl))
  rcases hb with rfl | rfl
  · rw [if_pos rfl, if_pos rfl]
    obtain ⟨x, τ1, σ1, e1, hh⟩ := h2 ho5 _ _ _ _ _ _ hA
    unfold N_Q_readsDenied M_factorB_b89
    rw [e1, ob_s, lt_e, if_pos rfl]
    rcases hh with ⟨e2, f1, f2, f3, q, f4, f5, f6⟩ | ⟨e2, q, cd2, k1, k2, k3, k4, k5, k6, k7, k8, k9, k10, k11, k12, k13⟩
    · rw [e2, ob_s, if_pos rfl, ob_s, gd_t (by decide)]
      exact ⟨_, _, _, rfl, Or.inl ⟨rfl, cA.tr f1, (rA.tr f2).tr r10, by rw [ri_ne _ _ (by decide)]; exact f3, q, f4, f5, by rw [ri_ne _ _ (by decide)]; exact f6⟩⟩
    · rw [e2, ob_s, if_neg i10, pz_write (by omega) k5, ob_s, ob_s, gd_t (by decide), k6, nI_pred]
      rw [hn 11 (by decide) (by decide) (by decide), hn 12 (by decide) (by decide) (by decide), hn 13 (by decide) (by decide) (by decide)] at k13
      refine ⟨_, _, _, rfl, Or.inr ⟨rfl, q, cd2 ++ [-33], ?_⟩⟩
      exact pzG_w (cd := cd2) rfl (EvC_not k13) (by omega) (cA.tr k1) ((rA.tr k2).tr r10) k3 (by rw [ri_ne _ _ (by decide)]; exact k4) k5 (ri_eq _ _ _) (by rw [ri_ne _ _ (by decide)]; exact k7) k8 (fun i hi => k11 i hi) (fun i hi => k12 i hi)
  · rw [if_neg (by decide), if_neg (by decide)]
    obtain ⟨x, τ1, σ1, e1, hh⟩ := h1 ho5 _ _ _ _ _ _ hA
    unfold N_Q_readsClosed M_factorB_b89
    rw [e1, ob_s, lt_e, if_neg (by decide), ri_ne _ _ (by decide : 14 ≠ 10)]
    rcases hh with ⟨e2, f1, f2, f3, q, f4, f5, f6⟩ | ⟨e2, q, cd2, g⟩
    · rw [e2, ob_s, if_pos rfl, ob_s, gd_t (by decide), if_pos f3]
      unfold M_fails
      rw [lt_e, ob_s]
      exact ⟨_, _, _, rfl, Or.inl ⟨rfl, cA.tr f1, ((rA.tr f2).tr r10).tr (pzR_ri (Or.inr (Or.inr rfl))), ri_eq _ _ _, q, f4, f5, by rw [ri_ne _ _ (by decide), ri_ne _ _ (by decide)]; exact f6⟩⟩
    · have hD := pzG_D hA g
      obtain ⟨k1, k2, k3, k4, k5, k6, k7, k8, k9, k10, k11, k12, k13⟩ := g
      have hD2 : pzD u sz o q (w + cd2.length) τ1 (ri σ1 10 (nI o)) := ⟨hD.1.pr (pzC.rf _) r10, k3, by rw [ri_ne _ _ (by decide)]; exact k4, k5, ri_eq _ _ _, by rw [ri_ne _ _ (by decide)]; exact k7, k8, hD.2.2.2.2.2.2.2⟩
      obtain ⟨b, hb1, hb2, hb3⟩ := pz_nx hD2
      have c8 : ¬ σ1.1 14 = 0 := by rw [k7]; decide
      rw [e2, ob_s, if_neg i10, hb1, ob_s, if_neg c8, k6, nI_pred, hb2, ob_s]
      by_cases c41 : b = 41
      · rw [if_pos c41, if_pos c41, lt_e, lt_e, ob_s, gd_t (by decide), k3, ri_ne _ _ (by decide : 8 ≠ 10), k4, nI_1]
        have hq : q < sz := by
          rcases hb3 with z | z
          · exact z.1
          · exfalso; rw [z.2] at c41; exact absurd c41 (by decide)
        rw [hn 11 (by decide) (by decide) (by decide), hn 12 (by decide) (by decide) (by decide), hn 13 (by decide) (by decide) (by decide)] at k13
        refine ⟨_, _, _, rfl, Or.inr ⟨rfl, q + 1, cd2, ?_⟩⟩
        exact ⟨(cA.tr k1).tr (pzC_si (Or.inl rfl)), ((rA.tr k2).tr r10).tr (pzR_ri (Or.inl rfl)), si_eq _ _ _ _, ri_eq _ _ _, by rw [si_ne _ _ (by decide)]; exact k5, by rw [ri_ne _ _ (by decide), ri_eq], by rw [ri_ne _ _ (by decide), ri_ne _ _ (by decide)]; exact k7, by omega, by omega, k10, fun i hi => k11 i hi, fun i hi => k12 i hi, k13⟩
      · rw [if_neg c41, if_neg c41, ob_s, gd_t (by decide)]
        unfold M_fails
        rw [lt_e, ob_s]
        exact ⟨_, _, _, rfl, Or.inl ⟨rfl, cA.tr k1, ((rA.tr k2).tr r10).tr (pzR_ri (Or.inr (Or.inr rfl))), ri_eq _ _ _, q, k8, k3, by rw [ri_ne _ _ (by decide), ri_ne _ _ (by decide)]; exact k4⟩⟩
