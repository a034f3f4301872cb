/-! names; the readers as a whole -/
theorem pz_named {o u sz p w : Nat} {τ : CS} {σ : RS} {b : Int32} (h0 : pzD u sz o p w τ σ) (hb3 : (p < sz ∧ ∃ v : Nat, v < 256 ∧ b = nI v) ∨ (p = sz ∧ b = -1)) : (nmix (nI u) b = -1 ∧ M_named b σ = some (0, ri σ 14 0)) ∨ (p < sz ∧ ∃ t : Nat, t < 3 ∧ nmix (nI u) b = nI t ∧ M_named b σ = some (σ.1 (11 + t), ri σ 8 (nI (p + 1)))) := by
  obtain ⟨⟨-, hu, -, -, -, e7, -⟩, d1, d2, -⟩ := h0
  have hp : b ≠ -1 → p < sz := fun q => by
    rcases hb3 with z | z
    · exact z.1
    · exact absurd z.2 q
  have hb0 : b ≠ -1 → ¬ b < 0 := fun q => by
    rcases hb3 with ⟨-, v, hv, rfl⟩ | z
    · exact nI_pos (by omega)
    · exact absurd z.2 q
  have r1 : (ri σ 8 (nI (p + 1))).1 11 = σ.1 11 := ri_ne _ _ (by decide)
  have r2 : (ri σ 8 (nI (p + 1))).1 12 = σ.1 12 := ri_ne _ _ (by decide)
  have r3 : (ri σ 8 (nI (p + 1))).1 13 = σ.1 13 := ri_ne _ _ (by decide)
  rcases (show u = 0 ∨ u = 1 by omega) with rfl | rfl
  · have e8 : σ.1 7 = 0 := e7
    by_cases c1 : b = 121
    · subst c1
      exact Or.inr ⟨hp (by decide), 0, by decide, by decide, by simp (decide := true) [M_named, M_named_b79, lt_e, e8, d2, nI_1, r1]⟩
    by_cases c2 : b = 100
    · subst c2
      exact Or.inr ⟨hp (by decide), 1, by decide, by decide, by simp (decide := true) [M_named, M_named_b79, lt_e, e8, d2, nI_1, r2]⟩
    by_cases c3 : b = 120
    · subst c3
      exact Or.inr ⟨hp (by decide), 2, by decide, by decide, by simp (decide := true) [M_named, M_named_b79, lt_e, e8, d2, nI_1, r3]⟩
    refine Or.inl ⟨?_, by simp [M_named, M_fails, lt_e, ob_s, e8, c1, c2, c3]⟩
    by_cases c4 : b = -1
    · subst c4; decide
    · unfold nmix
      rw [if_neg (hb0 c4), if_pos (by decide), if_neg c1, if_neg c2, if_neg c3]
  · have e8 : ¬ σ.1 7 = 0 := by rw [e7]; decide
    by_cases c1 : b = 115
    · subst c1
      exact Or.inr ⟨hp (by decide), 0, by decide, by decide, by simp (decide := true) [M_named, M_named_b79, lt_e, e8, d2, nI_1, r1]⟩
    by_cases c2 : b = 100
    · subst c2
      exact Or.inr ⟨hp (by decide), 1, by decide, by decide, by simp (decide := true) [M_named, M_named_b79, lt_e, e8, d2, nI_1, r2]⟩
    by_cases c3 : b = 101
    · subst c3
      exact Or.inr ⟨hp (by decide), 2, by decide, by decide, by simp (decide := true) [M_named, M_named_b79, lt_e, e8, d2, nI_1, r3]⟩
    refine Or.inl ⟨?_, by simp [M_named, M_fails, lt_e, ob_s, e8, c1, c2, c3]⟩
    by_cases c4 : b = -1
    · subst c4; decide
    · unfold nmix
      rw [if_neg (hb0 c4), if_neg (by decide), if_neg c1, if_neg c2, if_neg c3]
theorem nm_33 {u : Nat} (hu : u < 2) : nmix (nI u) 33 < 0 := by
  rcases (show u = 0 ∨ u = 1 by omega) with rfl | rfl <;> decide
theorem nm_40 {u : Nat} (hu : u < 2) : nmix (nI u) 40 < 0 := by
  rcases (show u = 0 ∨ u = 1 by omega) with rfl | rfl <;> decide
theorem pz_one {rd : Int32 → Int32 → CS → Option (Int32 × CS)} {ro : Int32 → CS → Option (Int32 × CS)} {fac : RS → Option (Int32 × RS)} {o : Nat} (ho : o ≤ 5) (h1 : o < 5 → pzS (o + 1) (rd 0 (nI (o + 1))) (M_whole fac)) (h2 : o < 5 → pzS (o + 1) (ro (nI (o + 1))) fac) : pzS o (N_Q_readsOne rd ro (nI o)) (M_factorB fac) := by
  intro u sz p w τ σ h0
  obtain ⟨b, hb1, hb2, hb3⟩ := pz_nx h0
  obtain ⟨hB, d1, d2, d3, d4, d5, d6, d7⟩ := id h0
  have hsz : sz ≤ 50 := hB.1
  have hu : u < 2 := hB.2.1
  unfold N_Q_readsOne M_factorB
  rw [hb1, hb2, ob_s, ob_s, dgC, dgR, ob_s, ob_s]
  by_cases cd : dg b = 0
  · rw [if_pos cd, if_pos cd]
    have hlt : b < 256 := by
      rcases hb3 with ⟨_, v, hv, rfl⟩ | ⟨_, rfl⟩
      · exact nI_lt (a := v) (b := 256) hv (by decide)
      · decide
    have hpb : b ≠ -1 → p < sz := fun q => by
      rcases hb3 with z | z
      · exact z.1
      · exact absurd z.2 q
    unfold N_Q_nameOf
    rw [gd_t (decide_eq_true hlt), ob_s, hB.2.2.2.2.1]
    by_cases c33 : b = 33
    · subst c33
      rw [if_pos (nm_33 hu), if_pos rfl, if_pos rfl]
      exact pz_b59 ho h1 h2 h0 (hpb (by decide)) (Or.inl rfl)
    by_cases c40 : b = 40
    · subst c40
      rw [if_pos (nm_40 hu), if_neg (by decide), if_pos rfl, if_neg (by decide), if_pos rfl]
      exact pz_b59 ho h1 h2 h0 (hpb (by decide)) (Or.inr rfl)
    rw [if_neg c33, if_neg c40, if_neg c33, if_neg c40]
    rcases pz_named h0 hb3 with ⟨n1, n2⟩ | ⟨hp, t, ht, n1, n2⟩
    · rw [n1, n2, if_pos (by decide), ob_s]
      exact ⟨_, _, _, rfl, Or.inl ⟨rfl, pzC.rf τ, pzR_ri (Or.inr (Or.inr rfl)), ri_eq _ _ _, p, d6, d1, by rw [ri_ne _ _ (by decide)]; exact d2⟩⟩
    · rw [n1, n2, if_neg (nI_pos (by omega)), ob_s, lt_e, d1, nI_1]
      have d3' : (si τ 3 3 (nI (p + 1))).1 3 4 = nI (w + ([] : List Int32).length) := by rw [si_ne _ _ (by decide)]; exact d3
      rw [pz_write (w := w + ([] : List Int32).length) (by show w + 0 < 50; omega) d3', ob_s]
      refine ⟨_, _, _, rfl, Or.inr ⟨rfl, p + 1, [-1 - nI t], ?_⟩⟩
      have hE : EvC (σ.1 11) (σ.1 12) (σ.1 13) [-1 - nI t] (σ.1 (11 + t)) := by
        have hE := EvC_1 (a := σ.1 11) (b := σ.1 12) (c := σ.1 13) (v := -1 - nI t) (by rcases (show t = 0 ∨ t = 1 ∨ t = 2 by omega) with rfl | rfl | rfl <;> decide)
        have e : psh (σ.1 11) (σ.1 12) (σ.1 13) (-1 - nI t) = σ.1 (11 + t) := by
          unfold psh
          rcases (show t = 0 ∨ t = 1 ∨ t = 2 by omega) with rfl | rfl | rfl
          · rw [if_pos (by decide), if_pos (by decide)]
          · rw [if_pos (by decide), if_neg (by decide), if_pos (by decide)]
          · rw [if_pos (by decide), if_neg (by decide), if_neg (by decide)]
        rw [e] at hE
        exact hE
      exact pzG_w (cd := []) rfl hE (by show p + 0 < p + 1; omega) (pzC_si (Or.inl rfl)) (pzR_ri (Or.inl rfl)) (si_eq _ _ _ _) (ri_eq _ _ _) d3' (by rw [ri_ne _ _ (by decide)]; exact d4) (by rw [ri_ne _ _ (by decide)]; exact d5) (by omega) (fun i _ => rfl) (fun i hi => absurd hi (Nat.not_lt_zero _))
  · rw [if_neg cd, if_neg cd]
    obtain ⟨x, τ', σ', e1, e2, hg⟩ := pz_num h0 4 FU FU 0 0 τ σ rfl (by decide) (by decide) (by decide) (pzC.rf τ) (pzR.rf σ) d1 d2 d3 d4 d5 d6 rfl (Or.inr ⟨b, hb1, cd⟩)
    unfold N_Q_readNumber M_number
    have e1' : M_number_b4 FU 0 0 σ = some (x, σ') := e1
    have e2' : N_Q_readNumber_b4 FU 0 0 τ = some (0, τ') := e2
    rw [e1', e2', ob_s, ob_s]
    exact ⟨_, _, _, rfl, Or.inr ⟨rfl, hg⟩⟩
theorem pz_lv {n o : Nat} {fac : RS → Option (Int32 × RS)} (h : pzS o ((rdp n).2 (nI o)) fac) : pzS o ((rdp (n + 6)).1 0 (nI o)) (M_whole fac) := by
  have P5 : pzS o ((rdp (n + 1)).1 5 (nI o)) fac := by
    intro u sz p w τ σ h0
    obtain ⟨x, τ1, σ1, e1, hh⟩ := h _ _ _ _ _ _ h0
    have e : (rdp (n + 1)).1 5 (nI o) τ = N_Q_reads (rdp n).1 (rdp n).2 5 (nI o) τ := rfl
    rw [e]
    unfold N_Q_reads
    rw [if_neg (by decide)]
    rcases hh with ⟨e2, f⟩ | ⟨e2, g⟩
    · rw [e2, ob_s, gd_t (by decide)]
      exact ⟨x, τ1, σ1, e1, Or.inl ⟨rfl, f⟩⟩
    · rw [e2, ob_s, gd_t (by decide)]
      exact ⟨x, τ1, σ1, e1, Or.inr ⟨rfl, g⟩⟩
  have P4 : pzS o ((rdp (n + 2)).1 4 (nI o)) (M_product fac) := by
    have e : M_product fac = fun σ => ob (fac σ) fun v s => pzL fac 4 FU v s := by
      funext σ; unfold M_product; congr 1; funext v s; exact product_L fac FU v s
    rw [e]
    exact pz_level (rd := (rdp (n + 1)).1) (ro := (rdp (n + 1)).2) (lv := 4) (by decide) (by decide) (by decide) (by rw [show (4 : Int32) + 1 = 5 by decide]; exact P5)
  have P3 : pzS o ((rdp (n + 3)).1 3 (nI o)) (M_sum fac) := by
    have e : M_sum fac = fun σ => ob (M_product fac σ) fun v s => pzL (M_product fac) 3 FU v s := by
      funext σ; unfold M_sum; congr 1; funext v s; exact sum_L fac FU v s
    rw [e]
    exact pz_level (rd := (rdp (n + 2)).1) (ro := (rdp (n + 2)).2) (lv := 3) (by decide) (by decide) (by decide) (by rw [show (3 : Int32) + 1 = 4 by decide]; exact P4)
  have P2 : pzS o ((rdp (n + 4)).1 2 (nI o)) (M_compared fac) := by
    have e : M_compared fac = fun σ => ob (M_sum fac σ) fun v s => pz1 (M_sum fac) v s := by
      funext σ; exact compared_L fac σ
    rw [e]
    exact pz_level2 (rd := (rdp (n + 3)).1) (ro := (rdp (n + 3)).2) (by rw [show (2 : Int32) + 1 = 3 by decide]; exact P3)
  have P1 : pzS o ((rdp (n + 5)).1 1 (nI o)) (M_both fac) := by
    have e : M_both fac = fun σ => ob (M_compared fac σ) fun v s => pzL (M_compared fac) 1 FU v s := by
      funext σ; unfold M_both; congr 1; funext v s; exact both_L fac FU v s
    rw [e]
    exact pz_level (rd := (rdp (n + 4)).1) (ro := (rdp (n + 4)).2) (lv := 1) (by decide) (by decide) (by decide) (by rw [show (1 : Int32) + 1 = 2 by decide]; exact P2)
  have e : M_whole fac = fun σ => ob (M_both fac σ) fun v s => pzL (M_both fac) 0 FU v s := by
    funext σ; unfold M_whole; congr 1; funext v s; exact whole_L fac FU v s
  rw [e]
  exact pz_level (rd := (rdp (n + 5)).1) (ro := (rdp (n + 5)).2) (lv := 0) (by decide) (by decide) (by decide) (by rw [show (0 : Int32) + 1 = 1 by decide]; exact P1)
theorem pz_fac : ∀ (e o d n : Nat), o + e = 5 → e < d → 7 * e < n → pzS o ((rdp n).2 (nI o)) (M_factor d) := by
  intro e
  induction e with
  | zero =>
    intro o d n h1 h2 h3
    obtain ⟨d, rfl⟩ : ∃ k, d = k + 1 := ⟨d - 1, by omega⟩
    obtain ⟨n, rfl⟩ : ∃ k, n = k + 1 := ⟨n - 1, by omega⟩
    exact pz_one (rd := (rdp n).1) (ro := (rdp n).2) (fac := M_factor d) (by omega) (fun q => by omega) (fun q => by omega)
  | succ e ih =>
    intro o d n h1 h2 h3
    obtain ⟨d, rfl⟩ : ∃ k, d = k + 1 := ⟨d - 1, by omega⟩
    obtain ⟨n, rfl⟩ : ∃ k, n = k + 7 := ⟨n - 7, by omega⟩
    exact pz_one (rd := (rdp (n + 6)).1) (ro := (rdp (n + 6)).2) (fac := M_factor d) (by omega) (fun q => pz_lv (ih (o + 1) d n (by omega) (by omega) (by omega))) (fun q => ih (o + 1) d (n + 6) (by omega) (by omega) (by omega))
theorem pz_top : pzS 0 ((rdp 60).1 0 0) (M_whole (M_factor 8)) := pz_lv (n := 54) (o := 0) (pz_fac 5 0 8 54 rfl (by decide) (by decide))
