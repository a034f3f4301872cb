/-! voice -/
def vI (κ : Nat) (τ0 : CS) (σ0 : RS) (τ : CS) (σ : RS) : Prop := Trc τ σ ∧ τ.1 4 2 = σ.1 23 ∧ τ.1 4 3 = σ.1 24 ∧ σ.1 22 = nI κ ∧ τ.2.2 = τ0.2.2 ∧ (∀ o f, o ≠ 4 → τ.1 o f = τ0.1 o f) ∧ (∀ o f, o ≠ 4 → τ.2.1 o f = τ0.2.1 o f) ∧ (∀ f, f < 21 → σ.1 f = σ0.1 f) ∧ ∀ f, f ≠ 20 → σ.2 f = σ0.2 f
def vS (P : CS → RS → Prop) (fC : CS → Option (Int32 × CS)) (fR : RS → Option (Int32 × RS)) : Prop := ∀ τ σ, P τ σ → ∃ (v : Int32) (τ' : CS) (σ' : RS), fC τ = some (v, τ') ∧ fR σ = some (v, σ') ∧ P τ' σ'
theorem ob_id {α β : Type} (z : Option (α × β)) : (ob z fun v s => some (v, s)) = z := by
  cases z with
  | none => rfl
  | some q => rfl
section VO
variable {κ : Nat} {τ0 : CS} {σ0 : RS}
theorem vb (b : Int32) : vS (vI κ τ0 σ0) (N_P_begin b) (M_ran b) := by
  intro τ σ ⟨⟨n, hn, t1', t2', t3⟩, h2, h3, h4, h5, h6, h7, h8, h9⟩
  unfold N_P_begin M_ran
  rw [t1', t2']
  by_cases c : n = 40
  · subst c
    rw [if_pos (by decide : (40 : Int32) ≤ nI 40), if_pos (by decide : (40 : Int32) ≤ nI 40)]
    exact ⟨_, _, _, rfl, rfl, ⟨40, hn, t1', t2', t3⟩, h2, h3, h4, h5, h6, h7, h8, h9⟩
  · have c1 : ¬ (40 : Int32) ≤ nI n := nI_ge (a := n) (b := 40) (by omega) (by decide)
    have b1 : inb (nI n) 40 = true := inb_nI (by omega) (by decide)
    have x1 : ix (nI n) = n := ix_nI (by omega)
    have e1 : (sa τ 4 0 (upd (τ.2.1 4 0) n b)).1 4 1 = nI n := t1'
    have e2 : (ra σ 20 (upd (σ.2 20) n b)).1 21 = nI n := t2'
    rw [if_neg c1, if_neg c1, gd_t b1, gd_t b1, lt_e, lt_e, lt_e, lt_e, x1, e1, e2, nI_1]
    refine ⟨_, _, _, rfl, rfl, ⟨n + 1, by omega, si_eq _ _ _ _, ri_eq _ _ _, fun i hi => ?_⟩, ?_, ?_, ?_, h5, fun o f ho => ?_, fun o f ho => ?_, fun f hf => ?_, fun f hf => ?_⟩
    · have a1 : (si (sa τ 4 0 (upd (τ.2.1 4 0) n b)) 4 1 (nI (n + 1))).2.1 4 0 = upd (τ.2.1 4 0) n b := sa_eq _ _ _ _
      have a2 : (ri (ra σ 20 (upd (σ.2 20) n b)) 21 (nI (n + 1))).2 20 = upd (σ.2 20) n b := ra_eq σ 20 (upd (σ.2 20) n b)
      rw [a1, a2]
      by_cases q : i = n
      · subst q; rw [upd_eq, upd_eq]
      · rw [upd_ne _ _ q, upd_ne _ _ q]; exact t3 i (by omega)
    · rw [si_ne _ _ (by decide), ri_ne _ _ (by decide)]; exact h2
    · rw [si_ne _ _ (by decide), ri_ne _ _ (by decide)]; exact h3
    · rw [ri_ne _ _ (by decide)]; exact h4
    · rw [si_o _ _ ho]; exact h6 o f ho
    · exact (sa_o _ _ ho).trans (h7 o f ho)
    · rw [ri_ne _ _ (by omega)]; exact h8 f hf
    · exact (ra_ne _ _ hf).trans (h9 f hf)
theorem vf0 (x : Int32) (d : Nat) : vS (vI κ τ0 σ0) (N_K10_falls κ x) (M_fallsIn (d + 1) 0 x) := by
  intro τ σ h
  obtain ⟨w, τ1, σ1, e1, e2, h1⟩ := vb 10 τ σ h
  show ∃ v τ' σ', _ ∧ M_fallsInB (M_fallsIn d) 0 x σ = some (v, σ') ∧ _
  unfold N_K10_falls M_fallsInB
  rw [e1, if_pos rfl, e2, ob_s, ob_s, h1.2.1]
  exact ⟨_, _, _, rfl, rfl, h1⟩
theorem vf1 (x : Int32) (d : Nat) : vS (vI κ τ0 σ0) (N_K8_falls κ x) (M_fallsIn (d + 2) 1 x) := by
  intro τ σ h
  obtain ⟨w, τ1, σ1, e1, e2, h1⟩ := vb 20 τ σ h
  obtain ⟨v, τ2, σ2, e3, e4, h2⟩ := vf0 x d τ1 σ1 h1
  show ∃ v τ' σ', _ ∧ M_fallsInB (M_fallsIn (d + 1)) 1 x σ = some (v, σ') ∧ _
  unfold N_K8_falls M_fallsInB
  rw [e1, if_neg i10, if_pos rfl, e2, ob_s, ob_s, e3, e4, ob_s, ob_s]
  exact ⟨_, _, _, rfl, rfl, h2⟩
theorem fup {d : Nat} {a b x : Int32} {σ : RS} (h0 : ¬ a = 0) (h1 : ¬ a = 1) (hb : (if a = 0 then (-1 : Int32) else (if a ≤ (3 : Int32) then (0 : Int32) else (a - (3 : Int32)))) = b) : M_fallsIn (d + 1) a x σ = M_fallsIn d b x σ := by
  show M_fallsInB (M_fallsIn d) a x σ = _
  unfold M_fallsInB M_above
  rw [if_neg h0, if_neg h1, ob_s, hb, ob_id]
theorem vfall (hκ : κ < 7) (x : Int32) : vS (vI κ τ0 σ0) (D_falls κ x) (M_fallsIn 4 (nI κ) x) := by
  rcases (show κ = 0 ∨ κ = 1 ∨ κ = 2 ∨ κ = 3 ∨ κ = 4 ∨ κ = 5 ∨ κ = 6 by omega) with rfl | rfl | rfl | rfl | rfl | rfl | rfl
  · exact vf0 x 3
  · exact vf1 x 2
  · intro τ σ h
    rw [fup (b := 0) (by decide) (by decide) (by decide)]
    exact vf0 x 2 τ σ h
  · intro τ σ h
    rw [fup (b := 0) (by decide) (by decide) (by decide)]
    exact vf0 x 2 τ σ h
  · intro τ σ h
    rw [fup (b := 1) (by decide) (by decide) (by decide)]
    exact vf1 x 1 τ σ h
  · intro τ σ h
    rw [fup (b := 2) (by decide) (by decide) (by decide), fup (b := 0) (by decide) (by decide) (by decide)]
    exact vf0 x 1 τ σ h
  · intro τ σ h
    rw [fup (b := 3) (by decide) (by decide) (by decide), fup (b := 0) (by decide) (by decide) (by decide)]
    exact vf0 x 1 τ σ h
theorem vs0 (x : Int32) (d : Nat) : vS (vI κ τ0 σ0) (N_K10_sweeps κ x) (M_sweepsIn (d + 1) 0 x) := by
  intro τ σ h
  obtain ⟨w, τ1, σ1, e1, e2, h1⟩ := vb 12 τ σ h
  show ∃ v τ' σ', _ ∧ M_sweepsInB (M_sweepsIn d) 0 x σ = some (v, σ') ∧ _
  unfold N_K10_sweeps M_sweepsInB
  rw [e1, if_pos rfl, e2, ob_s, ob_s, h1.2.2.1]
  exact ⟨_, _, _, rfl, rfl, h1⟩
theorem vs3 (x : Int32) (d : Nat) : vS (vI κ τ0 σ0) (N_K9_sweeps κ x) (M_sweepsIn (d + 2) 3 x) := by
  intro τ σ h
  obtain ⟨w, τ1, σ1, e1, e2, h1⟩ := vb 40 τ σ h
  obtain ⟨v, τ2, σ2, e3, e4, h2⟩ := vs0 x d τ1 σ1 h1
  show ∃ v τ' σ', _ ∧ M_sweepsInB (M_sweepsIn (d + 1)) 3 x σ = some (v, σ') ∧ _
  unfold N_K9_sweeps M_sweepsInB
  rw [e1, if_neg (by decide : ¬ (3 : Int32) = 0), if_pos rfl, e2, ob_s, ob_s, e3, e4, ob_s, ob_s]
  exact ⟨_, _, _, rfl, rfl, h2⟩
theorem vs6 (x : Int32) (d : Nat) : vS (vI κ τ0 σ0) (N_K0_sweeps κ x) (M_sweepsIn (d + 3) 6 x) := by
  intro τ σ h
  obtain ⟨w, τ1, σ1, e1, e2, h1⟩ := vb 70 τ σ h
  obtain ⟨v, τ2, σ2, e3, e4, h2⟩ := vs3 x d τ1 σ1 h1
  show ∃ v τ' σ', _ ∧ M_sweepsInB (M_sweepsIn (d + 2)) 6 x σ = some (v, σ') ∧ _
  unfold N_K0_sweeps M_sweepsInB
  rw [e1, if_neg (by decide : ¬ (6 : Int32) = 0), if_neg (by decide : ¬ (6 : Int32) = 3), if_pos rfl, e2, ob_s, ob_s, e3, e4, ob_s, ob_s, h2.2.1]
  exact ⟨_, _, _, rfl, rfl, h2⟩
theorem sup {d : Nat} {a b x : Int32} {σ : RS} (h0 : ¬ a = 0) (h1 : ¬ a = 3) (h2 : ¬ a = 6) (hb : (if a = 0 then (-1 : Int32) else (if a ≤ (3 : Int32) then (0 : Int32) else (a - (3 : Int32)))) = b) : M_sweepsIn (d + 1) a x σ = M_sweepsIn d b x σ := by
  show M_sweepsInB (M_sweepsIn d) a x σ = _
  unfold M_sweepsInB M_above
  rw [if_neg h0, if_neg h1, if_neg h2, ob_s, hb, ob_id]
theorem vsweep (hκ : κ < 7) (x : Int32) : vS (vI κ τ0 σ0) (D_sweeps κ x) (M_sweepsIn 4 (nI κ) x) := by
  rcases (show κ = 0 ∨ κ = 1 ∨ κ = 2 ∨ κ = 3 ∨ κ = 4 ∨ κ = 5 ∨ κ = 6 by omega) with rfl | rfl | rfl | rfl | rfl | rfl | rfl
  · exact vs0 x 3
  · intro τ σ h
    rw [sup (b := 0) (by decide) (by decide) (by decide) (by decide)]
    exact vs0 x 2 τ σ h
  · intro τ σ h
    rw [sup (b := 0) (by decide) (by decide) (by decide) (by decide)]
    exact vs0 x 2 τ σ h
  · exact vs3 x 2
  · intro τ σ h
    rw [sup (b := 1) (by decide) (by decide) (by decide) (by decide), sup (b := 0) (by decide) (by decide) (by decide) (by decide)]
    exact vs0 x 1 τ σ h
  · intro τ σ h
    rw [sup (b := 2) (by decide) (by decide) (by decide) (by decide), sup (b := 0) (by decide) (by decide) (by decide) (by decide)]
    exact vs0 x 1 τ σ h
  · exact vs6 x 1
theorem vm0 (hκ : κ < 7) (x : Int32) (d : Nat) : vS (vI κ τ0 σ0) (N_K10_moves κ x) (M_movesIn (d + 1) 0 x) := by
  intro τ σ h
  obtain ⟨w, τ1, σ1, e1, e2, h1⟩ := vb 11 τ σ h
  obtain ⟨v, τ2, σ2, e3, e4, h2⟩ := vfall hκ x τ1 σ1 h1
  show ∃ v τ' σ', _ ∧ M_movesInB (M_movesIn d) 0 x σ = some (v, σ') ∧ _
  unfold N_K10_moves M_movesInB
  rw [e1, if_pos rfl, e2, ob_s, ob_s, h1.2.2.2.1, e3, e4, ob_s, ob_s]
  exact ⟨_, _, _, rfl, rfl, h2⟩
theorem vm2 (hκ : κ < 7) (x : Int32) (d : Nat) : vS (vI κ τ0 σ0) (N_K1_moves κ x) (M_movesIn (d + 2) 2 x) := by
  intro τ σ h
  obtain ⟨w, τ1, σ1, e1, e2, h1⟩ := vb 30 τ σ h
  obtain ⟨v, τ2, σ2, e3, e4, h2⟩ := vm0 hκ x d τ1 σ1 h1
  obtain ⟨v3, τ3, σ3, e5, e6, h3⟩ := vsweep hκ 1 τ2 σ2 h2
  show ∃ v τ' σ', _ ∧ M_movesInB (M_movesIn (d + 1)) 2 x σ = some (v, σ') ∧ _
  unfold N_K1_moves M_movesInB
  rw [e1, if_neg (by decide : ¬ (2 : Int32) = 0), if_pos rfl, e2, ob_s, ob_s, e3, e4, ob_s, ob_s, h2.2.2.2.1, e5, e6, ob_s, ob_s]
  exact ⟨_, _, _, rfl, rfl, h3⟩
theorem vm5 (hκ : κ < 7) (x : Int32) (d : Nat) : vS (vI κ τ0 σ0) (N_K3_moves κ x) (M_movesIn (d + 3) 5 x) := by
  intro τ σ h
  obtain ⟨w, τ1, σ1, e1, e2, h1⟩ := vb 60 τ σ h
  obtain ⟨v, τ2, σ2, e3, e4, h2⟩ := vm2 hκ (x + 1) d τ1 σ1 h1
  show ∃ v τ' σ', _ ∧ M_movesInB (M_movesIn (d + 2)) 5 x σ = some (v, σ') ∧ _
  unfold N_K3_moves M_movesInB
  rw [e1, if_neg (by decide : ¬ (5 : Int32) = 0), if_neg (by decide : ¬ (5 : Int32) = 2), if_pos rfl, e2, ob_s, ob_s, e3, e4, ob_s, ob_s]
  exact ⟨_, _, _, rfl, rfl, h2⟩
theorem mup {d : Nat} {a b x : Int32} {σ : RS} (h0 : ¬ a = 0) (h1 : ¬ a = 2) (h2 : ¬ a = 5) (hb : (if a = 0 then (-1 : Int32) else (if a ≤ (3 : Int32) then (0 : Int32) else (a - (3 : Int32)))) = b) : M_movesIn (d + 1) a x σ = M_movesIn d b x σ := by
  show M_movesInB (M_movesIn d) a x σ = _
  unfold M_movesInB M_above
  rw [if_neg h0, if_neg h1, if_neg h2, ob_s, hb, ob_id]
theorem vmove (hκ : κ < 7) (x : Int32) : vS (vI κ τ0 σ0) (D_moves κ x) (M_movesIn 4 (nI κ) x) := by
  rcases (show κ = 0 ∨ κ = 1 ∨ κ = 2 ∨ κ = 3 ∨ κ = 4 ∨ κ = 5 ∨ κ = 6 by omega) with rfl | rfl | rfl | rfl | rfl | rfl | rfl
  · exact vm0 hκ x 3
  · intro τ σ h
    rw [mup (b := 0) (by decide) (by decide) (by decide) (by decide)]
    exact vm0 hκ x 2 τ σ h
  · exact vm2 hκ x 2
  · intro τ σ h
    rw [mup (b := 0) (by decide) (by decide) (by decide) (by decide)]
    exact vm0 hκ x 2 τ σ h
  · intro τ σ h
    rw [mup (b := 1) (by decide) (by decide) (by decide) (by decide), mup (b := 0) (by decide) (by decide) (by decide) (by decide)]
    exact vm0 hκ x 1 τ σ h
  · exact vm5 hκ x 1
  · intro τ σ h
    rw [mup (b := 3) (by decide) (by decide) (by decide) (by decide), mup (b := 0) (by decide) (by decide) (by decide) (by decide)]
    exact vm0 hκ x 1 τ σ h
theorem vk0 (hκ : κ < 7) (x : Int32) (d : Nat) : vS (vI κ τ0 σ0) (N_K10_blocks κ x) (M_blocksIn (d + 1) 0 x) := by
  intro τ σ h
  obtain ⟨w, τ1, σ1, e1, e2, h1⟩ := vb 13 τ σ h
  obtain ⟨v, τ2, σ2, e3, e4, h2⟩ := vmove hκ x τ1 σ1 h1
  obtain ⟨v3, τ3, σ3, e5, e6, h3⟩ := vsweep hκ x τ2 σ2 h2
  show ∃ v τ' σ', _ ∧ M_blocksInB (M_blocksIn d) 0 x σ = some (v, σ') ∧ _
  unfold N_K10_blocks M_blocksInB
  rw [e1, if_pos rfl, e2, ob_s, ob_s, h1.2.2.2.1, e3, e4, ob_s, ob_s, h2.2.2.2.1, e5, e6, ob_s, ob_s]
  exact ⟨_, _, _, rfl, rfl, h3⟩
theorem bup {d : Nat} {a b x : Int32} {σ : RS} (h0 : ¬ a = 0) (h1 : ¬ a = 4) (h2 : ¬ a = 6) (hb : (if a = 0 then (-1 : Int32) else (if a ≤ (3 : Int32) then (0 : Int32) else (a - (3 : Int32)))) = b) : M_blocksIn (d + 1) a x σ = M_blocksIn d b x σ := by
  show M_blocksInB (M_blocksIn d) a x σ = _
  unfold M_blocksInB M_above
  rw [if_neg h0, if_neg h1, if_neg h2, ob_s, hb, ob_id]
theorem vk4 (hκ : κ < 7) (x : Int32) : vS (vI κ τ0 σ0) (N_K2_blocks κ x) (M_blocksIn 4 4 x) := by
  intro τ σ h
  obtain ⟨w, τ1, σ1, e1, e2, h1⟩ := vb 50 τ σ h
  obtain ⟨v, τ2, σ2, e3, e4, h2⟩ := vk0 hκ x 1 τ1 σ1 h1
  obtain ⟨v3, τ3, σ3, e5, e6, h3⟩ := vfall hκ 2 τ2 σ2 h2
  have e4' : M_blocksIn 3 1 x σ1 = some (v, σ2) := by
    rw [bup (b := 0) (by decide) (by decide) (by decide) (by decide)]; exact e4
  show ∃ v τ' σ', _ ∧ M_blocksInB (M_blocksIn 3) 4 x σ = some (v, σ') ∧ _
  unfold N_K2_blocks M_blocksInB
  rw [e1, if_neg (by decide : ¬ (4 : Int32) = 0), if_pos rfl, e2, ob_s, ob_s, e3, e4', ob_s, ob_s, h2.2.2.2.1, e5, e6, ob_s, ob_s]
  exact ⟨_, _, _, rfl, rfl, h3⟩
theorem vk6 (hκ : κ < 7) (x : Int32) : vS (vI κ τ0 σ0) (N_K0_blocks κ x) (M_blocksIn 4 6 x) := by
  intro τ σ h
  obtain ⟨w, τ1, σ1, e1, e2, h1⟩ := vb 71 τ σ h
  obtain ⟨v, τ2, σ2, e3, e4, h2⟩ := vmove hκ x τ1 σ1 h1
  obtain ⟨v3, τ3, σ3, e5, e6, h3⟩ := vk0 hκ x 1 τ2 σ2 h2
  have e6' : M_blocksIn 3 3 x σ2 = some (v3, σ3) := by
    rw [bup (b := 0) (by decide) (by decide) (by decide) (by decide)]; exact e6
  show ∃ v τ' σ', _ ∧ M_blocksInB (M_blocksIn 3) 6 x σ = some (v, σ') ∧ _
  unfold N_K0_blocks M_blocksInB
  rw [e1, if_neg (by decide : ¬ (6 : Int32) = 0), if_neg (by decide : ¬ (6 : Int32) = 4), if_pos rfl, e2, ob_s, ob_s, h1.2.2.2.1, e3, e4, ob_s, ob_s, e5, e6', ob_s, ob_s]
  exact ⟨_, _, _, rfl, rfl, h3⟩
theorem vblock (hκ : κ < 7) (x : Int32) : vS (vI κ τ0 σ0) (D_blocks κ x) (M_blocksIn 4 (nI κ) x) := by
  rcases (show κ = 0 ∨ κ = 1 ∨ κ = 2 ∨ κ = 3 ∨ κ = 4 ∨ κ = 5 ∨ κ = 6 by omega) with rfl | rfl | rfl | rfl | rfl | rfl | rfl
  · exact vk0 hκ x 3
  · intro τ σ h
    rw [bup (b := 0) (by decide) (by decide) (by decide) (by decide)]
    exact vk0 hκ x 2 τ σ h
  · intro τ σ h
    rw [bup (b := 0) (by decide) (by decide) (by decide) (by decide)]
    exact vk0 hκ x 2 τ σ h
  · intro τ σ h
    rw [bup (b := 0) (by decide) (by decide) (by decide) (by decide)]
    exact vk0 hκ x 2 τ σ h
  · exact vk4 hκ x
  · intro τ σ h
    rw [bup (b := 2) (by decide) (by decide) (by decide) (by decide), bup (b := 0) (by decide) (by decide) (by decide) (by decide)]
    exact vk0 hκ x 1 τ σ h
  · exact vk6 hκ x
end VO
theorem Inv_vo {k κ : Nat} {τ0 τ : CS} {σ0 σ : RS} (h : Inv k τ0 σ0) (v : vI κ τ0 σ0 τ σ) : Inv k τ σ := by
  obtain ⟨h1, ⟨i, hi, b1, b2, b3, b4⟩, h3, h4, h5, h6, h7, n, hn, hn2⟩ := h
  obtain ⟨v1, v2, v3, v4, v5, v6, v7, v8, v9⟩ := v
  have ds : ∀ d, d < 4 → dsame d τ0 τ := fun d hd => ⟨fun f => v6 _ _ (by omega), fun f => v7 _ _ (by omega), fun f => by rw [v5]⟩
  have ls : lsame τ0 τ := ⟨fun j => ⟨v6 _ _ (by omega), v7 _ _ (by omega), by rw [v5]⟩, by rw [v5]⟩
  refine ⟨?_, ⟨i, hi, by rw [v6 5 9 (by decide)]; exact b1, by rw [v8 5 (by decide)]; exact b2, by rw [v8 4 (by decide)]; exact b3, fun q => ?_⟩, ?_, v1, ?_, by rw [v8 15 (by decide)]; exact h6, lawsok_eq v5 h7, n, hn, by rw [v5]; exact hn2⟩
  · rw [v9 0 (by decide)]; exact h1.same (ds 0 (by decide)) ls
  · rw [v9 1 (by decide)]; exact (b4 q).same (ds 2 (by decide)) ls
  · unfold Shts at h3 ⊢
    rw [v7 5 6 (by decide), v7 5 7 (by decide), v9 16 (by decide), v9 17 (by decide), v9 18 (by decide)]
    refine ⟨h3.1, fun s hs j hj => ?_⟩
    rw [v7 6 s (by decide)]; exact h3.2 s hs j hj
  · intro j hj
    rw [v9 6 (by decide), v7 5 8 (by decide)]
    exact h5 j hj
theorem ag_voice (x y z : Int32) : Agree Inv (N_T_voice x y z) (M_voice x y z) := by
  intro k τ σ hk h
  show AgP k _ _
  unfold N_T_voice M_voice
  refine chkY E1 h (fun S0 j hj hx hS0 hr0 hc0 => chk E1 h (fun c1 c2 => ?_))
  subst hx
  obtain ⟨q, -, hq, rfl⟩ := in_lit 0 3 (by decide) (by decide) c1 c2
  have h12 := hS0.1
  have b1 : inb (nI j) 12 = true := inb_nI (by omega) (by decide)
  have x1 : ix (nI j) = j := ix_nI (by omega)
  obtain ⟨κ, hκ, e0⟩ := (hS0.2.1 j hj).1
  have em : τ.2.1 0 2 j = S0.2.1 1 j := (hc0.2.1 j hj).2.1
  have i0 : ∀ s : RS, s.2 = σ.2 → M_its (nI j) 0 s = some (nI κ, s) := fun s hs => by
    rw [← e0]; exact its_S (w := 0) h12 (by rw [hs]; exact hr0) hj (by decide)
  have i1 : ∀ s : RS, s.2 = σ.2 → M_its (nI j) 1 s = some (S0.2.1 1 j, s) := fun s hs => its_S (w := 1) h12 (by rw [hs]; exact hr0) hj (by decide)
  unfold N_P_open
  have hcS : CStr (si (si (si τ 4 2 (nI j)) 4 3 (S0.2.1 1 j)) 4 1 0) 0 S0 := hc0.same (((dsame_si (by decide)).tr (dsame_si (by decide))).tr (dsame_si (by decide)))
  have ek := kindOf_e hS0 hcS hj
  rw [e0, ix_nI (by omega)] at ek
  rw [gd_t b1, x1, em, lt_e, lt_e, lt_e, ob_s, ek, ob_s, lt_e, i0 (ri σ 21 0) rfl, ob_s, lt_e, lt_e, i1 (ri (ri (ri σ 21 0) 22 (nI κ)) 23 (nI j)) rfl, ob_s, lt_e]
  have e22 : (ri (ri (ri (ri σ 21 0) 22 (nI κ)) 23 (nI j)) 24 (S0.2.1 1 j)).1 22 = nI κ := by rw [ri_ne _ _ (by decide), ri_ne _ _ (by decide), ri_eq]
  rw [e22]
  have hv : vI κ τ σ (si (si (si τ 4 2 (nI j)) 4 3 (S0.2.1 1 j)) 4 1 0) (ri (ri (ri (ri σ 21 0) 22 (nI κ)) 23 (nI j)) 24 (S0.2.1 1 j)) := by
    refine ⟨⟨0, by omega, si_eq _ _ _ _, ?_, fun i hi => absurd hi (Nat.not_lt_zero _)⟩, ?_, ?_, e22, rfl, fun o f ho => ?_, fun o f ho => rfl, fun f hf => ?_, fun f hf => rfl⟩
    · rw [ri_ne _ _ (by decide), ri_ne _ _ (by decide), ri_ne _ _ (by decide), ri_eq]; rfl
    · rw [si_ne _ _ (by decide), si_ne _ _ (by decide), si_eq, ri_ne _ _ (by decide), ri_eq]
    · rw [si_ne _ _ (by decide), si_eq, ri_eq]
    · rw [si_o _ _ ho, si_o _ _ ho, si_o _ _ ho]
    · rw [ri_ne _ _ (by omega), ri_ne _ _ (by omega), ri_ne _ _ (by omega), ri_ne _ _ (by omega)]
  rcases (show q = 0 ∨ q = 1 ∨ q = 2 ∨ q = 3 by omega) with rfl | rfl | rfl | rfl
  · obtain ⟨v, τ', σ', g1, g2, g3⟩ := vfall hκ z _ _ hv
    rw [if_pos (by decide : nI 0 = (0 : Int32)), if_pos (by decide : nI 0 = (0 : Int32)), g1, g2, ob_s, ob_s]
    exact ⟨_, _, _, rfl, rfl, Inv_mono _ _ _ (Inv_vo h g3)⟩
  · obtain ⟨v, τ', σ', g1, g2, g3⟩ := vmove hκ z _ _ hv
    rw [if_neg (by decide : ¬ nI 1 = (0 : Int32)), if_neg (by decide : ¬ nI 1 = (0 : Int32)), if_pos (by decide : nI 1 = (1 : Int32)), if_pos (by decide : nI 1 = (1 : Int32)), g1, g2, ob_s, ob_s]
    exact ⟨_, _, _, rfl, rfl, Inv_mono _ _ _ (Inv_vo h g3)⟩
  · obtain ⟨v, τ', σ', g1, g2, g3⟩ := vsweep hκ z _ _ hv
    rw [if_neg (by decide : ¬ nI 2 = (0 : Int32)), if_neg (by decide : ¬ nI 2 = (0 : Int32)), if_neg (by decide : ¬ nI 2 = (1 : Int32)), if_neg (by decide : ¬ nI 2 = (1 : Int32)), if_pos (by decide : nI 2 = (2 : Int32)), if_pos (by decide : nI 2 = (2 : Int32)), g1, g2, ob_s, ob_s]
    exact ⟨_, _, _, rfl, rfl, Inv_mono _ _ _ (Inv_vo h g3)⟩
  · obtain ⟨v, τ', σ', g1, g2, g3⟩ := vblock hκ z _ _ hv
    rw [if_neg (by decide : ¬ nI 3 = (0 : Int32)), if_neg (by decide : ¬ nI 3 = (0 : Int32)), if_neg (by decide : ¬ nI 3 = (1 : Int32)), if_neg (by decide : ¬ nI 3 = (1 : Int32)), if_neg (by decide : ¬ nI 3 = (2 : Int32)), if_neg (by decide : ¬ nI 3 = (2 : Int32)), g1, g2, ob_s, ob_s]
    exact ⟨_, _, _, rfl, rfl, Inv_mono _ _ _ (Inv_vo h g3)⟩
