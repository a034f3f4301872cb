/-! the two readers go side by side -/
def pzB (τ : CS) (σ : RS) (u sz : Nat) : Prop := sz ≤ 50 ∧ u < 2 ∧ τ.1 3 2 = nI sz ∧ σ.1 9 = nI sz ∧ τ.1 3 5 = nI u ∧ σ.1 7 = nI u ∧ ∀ i, i < sz → ∃ v : Nat, v < 256 ∧ τ.2.1 3 0 i = nI v ∧ σ.2 0 (140 + 50 * u + i) = nI v
def pzC (τ τ' : CS) : Prop := τ'.2.2 = τ.2.2 ∧ (∀ o f, ¬ (o = 3 ∧ (f = 3 ∨ f = 4)) → τ'.1 o f = τ.1 o f) ∧ ∀ o f, ¬ (o = 3 ∧ f = 1) → τ'.2.1 o f = τ.2.1 o f
def pzR (σ σ' : RS) : Prop := σ'.2 = σ.2 ∧ ∀ f, f ≠ 8 → f ≠ 10 → f ≠ 14 → σ'.1 f = σ.1 f
theorem pzC.rf (τ : CS) : pzC τ τ := ⟨rfl, fun _ _ _ => rfl, fun _ _ _ => rfl⟩
theorem pzR.rf (σ : RS) : pzR σ σ := ⟨rfl, fun _ _ _ _ => rfl⟩
theorem pzC.tr {a b c : CS} (h : pzC a b) (h2 : pzC b c) : pzC a c := ⟨h2.1.trans h.1, fun o f q => (h2.2.1 o f q).trans (h.2.1 o f q), fun o f q => (h2.2.2 o f q).trans (h.2.2 o f q)⟩
theorem pzR.tr {a b c : RS} (h : pzR a b) (h2 : pzR b c) : pzR a c := ⟨h2.1.trans h.1, fun f x y z => (h2.2 f x y z).trans (h.2 f x y z)⟩
theorem pzC_si {τ : CS} {f : Nat} {v : Int32} (hf : f = 3 ∨ f = 4) : pzC τ (si τ 3 f v) := ⟨rfl, fun o g q => by
  by_cases c : o = 3
  · have h2 : g ≠ f := by omega
    simp [si, up2, h2]
  · simp [si, up2, c], fun _ _ _ => rfl⟩
theorem pzC_sa {τ : CS} {v : Nat → Int32} : pzC τ (sa τ 3 1 v) := ⟨rfl, fun _ _ _ => rfl, fun o g q => by
  by_cases c : o = 3
  · have h2 : g ≠ 1 := by omega
    simp [sa, up2, h2]
  · simp [sa, up2, c]⟩
theorem pzR_ri {σ : RS} {f : Nat} {v : Int32} (hf : f = 8 ∨ f = 10 ∨ f = 14) : pzR σ (ri σ f v) := ⟨rfl, fun g a b c => ri_ne _ _ (by omega)⟩
theorem pzB.pr {τ τ' : CS} {σ σ' : RS} {u sz : Nat} (hc : pzC τ τ') (hr : pzR σ σ') (h : pzB τ σ u sz) : pzB τ' σ' u sz := by
  obtain ⟨a1, a2, a3, a4, a5, a6, a7⟩ := h
  refine ⟨a1, a2, ?_, ?_, ?_, ?_, ?_⟩
  · rw [hc.2.1 3 2 (by decide)]; exact a3
  · rw [hr.2 9 (by decide) (by decide) (by decide)]; exact a4
  · rw [hc.2.1 3 5 (by decide)]; exact a5
  · rw [hr.2 7 (by decide) (by decide) (by decide)]; exact a6
  · rw [hc.2.2 3 0 (by decide), hr.1]; exact a7
def pzD (u sz o p w : Nat) (τ : CS) (σ : RS) : Prop := pzB τ σ u sz ∧ τ.1 3 3 = nI p ∧ σ.1 8 = nI p ∧ τ.1 3 4 = nI w ∧ σ.1 10 = nI o ∧ σ.1 14 = 1 ∧ p ≤ sz ∧ w ≤ p
def pzF (sz : Nat) (τ : CS) (σ : RS) (τ' : CS) (σ' : RS) : Prop := pzC τ τ' ∧ pzR σ σ' ∧ σ'.1 14 = 0 ∧ ∃ q : Nat, q ≤ sz ∧ τ'.1 3 3 = nI q ∧ σ'.1 8 = nI q
def pzG (sz o p0 w0 : Nat) (τ0 : CS) (σ0 : RS) (p : Nat) (cd : List Int32) (x : Int32) (τ : CS) (σ : RS) : Prop := pzC τ0 τ ∧ pzR σ0 σ ∧ τ.1 3 3 = nI p ∧ σ.1 8 = nI p ∧ τ.1 3 4 = nI (w0 + cd.length) ∧ σ.1 10 = nI o ∧ σ.1 14 = 1 ∧ p ≤ sz ∧ p0 + cd.length ≤ p ∧ 0 < cd.length ∧ (∀ i, i < w0 → τ.2.1 3 1 i = τ0.2.1 3 1 i) ∧ (∀ i, i < cd.length → τ.2.1 3 1 (w0 + i) = cd.getD i 0) ∧ EvC (σ0.1 11) (σ0.1 12) (σ0.1 13) cd x
def pzS (o : Nat) (fC : CS → Option (Int32 × CS)) (fR : RS → Option (Int32 × RS)) : Prop := ∀ (u sz p w : Nat) (τ : CS) (σ : RS), pzD u sz o p w τ σ → ∃ (x : Int32) (τ' : CS) (σ' : RS), fR σ = some (x, σ') ∧ ((fC τ = some (0, τ') ∧ pzF sz τ σ τ' σ') ∨ (fC τ = some (1, τ') ∧ ∃ (q : Nat) (cd : List Int32), pzG sz o p w τ σ q cd x τ' σ'))
theorem pzG_D {u sz o p w q : Nat} {cd : List Int32} {x : Int32} {τ τ' : CS} {σ σ' : RS} (h : pzD u sz o p w τ σ) (g : pzG sz o p w τ σ q cd x τ' σ') : pzD u sz o q (w + cd.length) τ' σ' := by
  obtain ⟨g1, g2, g3, g4, g5, g6, g7, g8, g9, g10, -⟩ := g
  obtain ⟨a1, -, -, -, -, -, a2, a3⟩ := h
  exact ⟨a1.pr g1 g2, g3, g4, g5, g6, g7, g8, by omega⟩
theorem pz_nx {u sz o p w : Nat} {τ : CS} {σ : RS} (h : pzD u sz o p w τ σ) : ∃ b : Int32, N_Q_next τ = some (b, τ) ∧ M_byteAt (σ.1 8) σ = some (b, σ) ∧ ((p < sz ∧ ∃ v : Nat, v < 256 ∧ b = nI v) ∨ (p = sz ∧ b = -1)) := by
  obtain ⟨⟨hs, hu, b1, b2, b3, b4, b5⟩, d1, d2, d3, d4, d5, d6, d7⟩ := h
  unfold N_Q_next M_byteAt
  rw [b1, d1, b2, d2, b4]
  by_cases c : p < sz
  · obtain ⟨v, v1, v2, v3⟩ := b5 p c
    have c1 : ¬ nI sz ≤ nI p := nI_ge c (by omega)
    have e : ((140 : Int32) + (50 : Int32) * nI u) + nI p = nI (140 + 50 * u + p) := by
      rw [show (140 : Int32) = nI 140 from rfl, show (50 : Int32) = nI 50 from rfl, pk_mul, nI_add, nI_add]
    refine ⟨nI v, ?_, ?_, Or.inl ⟨c, v, v1, rfl⟩⟩
    · rw [if_neg c1, gd_t (inb_nI (by omega) (by decide)), ix_nI (by omega), v2]
    · rw [if_neg c1, e, gd_t (inb_nI (by omega) (by decide)), ix_nI (by omega), v3]
  · have c1 : nI sz ≤ nI p := nI_le (by omega) (by omega)
    refine ⟨-1, ?_, ?_, Or.inr ⟨by omega, rfl⟩⟩ <;> rw [if_pos c1]
theorem pz_write {w : Nat} {τ : CS} (hw : w < 50) (h : τ.1 3 4 = nI w) (x : Int32) : N_Q_write x τ = some (0, si (sa τ 3 1 (upd (τ.2.1 3 1) w x)) 3 4 (nI (w + 1))) := by
  unfold N_Q_write
  have c : ¬ (50 : Int32) ≤ nI w := nI_ge (a := w) (b := 50) hw (by decide)
  have e : (sa τ 3 1 (upd (τ.2.1 3 1) w x)).1 3 4 = nI w := h
  rw [h, if_neg c, gd_t (inb_nI hw (by decide)), ix_nI (by omega), lt_e, lt_e, e, nI_1]
/-- one more step is written behind the code -/
theorem pzG_w {sz o p0 w0 p : Nat} {cd cd' : List Int32} {y v : Int32} {τ0 τ : CS} {σ0 σ : RS} (hcd : cd' = cd ++ [v]) (hE : EvC (σ0.1 11) (σ0.1 12) (σ0.1 13) cd' y) (hw : p0 + cd.length < p) (hc : pzC τ0 τ) (hr : pzR σ0 σ) (a3 : τ.1 3 3 = nI p) (a4 : σ.1 8 = nI p) (a5 : τ.1 3 4 = nI (w0 + cd.length)) (a6 : σ.1 10 = nI o) (a7 : σ.1 14 = 1) (a8 : p ≤ sz) (a11 : ∀ i, i < w0 → τ.2.1 3 1 i = τ0.2.1 3 1 i) (a12 : ∀ i, i < cd.length → τ.2.1 3 1 (w0 + i) = cd.getD i 0) : pzG sz o p0 w0 τ0 σ0 p cd' y (si (sa τ 3 1 (upd (τ.2.1 3 1) (w0 + cd.length) v)) 3 4 (nI (w0 + cd.length + 1))) σ := by
  subst hcd
  have el : (cd ++ [v]).length = cd.length + 1 := by rw [List.length_append]; rfl
  have em : (si (sa τ 3 1 (upd (τ.2.1 3 1) (w0 + cd.length) v)) 3 4 (nI (w0 + cd.length + 1))).2.1 3 1 = upd (τ.2.1 3 1) (w0 + cd.length) v := sa_eq _ _ _ _
  refine ⟨(hc.tr pzC_sa).tr (pzC_si (Or.inr rfl)), hr, ?_, a4, ?_, a6, a7, a8, ?_, ?_, fun i hi => ?_, fun i hi => ?_, hE⟩
  · rw [si_ne _ _ (by decide)]; exact a3
  · rw [si_eq, el]; rfl
  · rw [el]; omega
  · rw [el]; omega
  · rw [em, upd_ne _ _ (by omega)]; exact a11 i hi
  · rw [em]
    rw [el] at hi
    by_cases c : i = cd.length
    · subst c
      rw [upd_eq]
      exact (getD_r (l1 := cd) (l2 := [v]) (k := 0)).symm
    · rw [upd_ne _ _ (by omega), getD_l (by omega)]; exact a12 i (by omega)
theorem pz_step {rd : CS → Option (Int32 × CS)} {inn : RS → Option (Int32 × RS)} {o u sz p0 w0 p : Nat} {cd : List Int32} {x b : Int32} {τ0 τ : CS} {σ0 σ : RS} (hin : pzS o rd inn) (h0 : pzD u sz o p0 w0 τ0 σ0) (g : pzG sz o p0 w0 τ0 σ0 p cd x τ σ) (hp : p < sz) (hb : isop b) : ∃ (y : Int32) (τ1 : CS) (σ1 : RS), inn (ri σ 8 (σ.1 8 + 1)) = some (y, σ1) ∧ ((rd (si τ 3 3 (τ.1 3 3 + 1)) = some (0, τ1) ∧ pzF sz τ0 σ0 τ1 σ1) ∨ (rd (si τ 3 3 (τ.1 3 3 + 1)) = some (1, τ1) ∧ ∃ (τ2 : CS) (q : Nat) (cd' : List Int32), N_Q_write (-b) τ1 = some (0, τ2) ∧ p < q ∧ pzG sz o p0 w0 τ0 σ0 q cd' (jn b x y) τ2 σ1)) := by
  have hD := pzG_D h0 g
  obtain ⟨g1, g2, g3, g4, g5, g6, g7, g8, g9, g10, g11, g12, g13⟩ := g
  rw [g3, g4, nI_1]
  have cA : pzC τ (si τ 3 3 (nI (p + 1))) := pzC_si (Or.inl rfl)
  have rA : pzR σ (ri σ 8 (nI (p + 1))) := pzR_ri (Or.inl rfl)
  have hA : pzD u sz o (p + 1) (w0 + cd.length) (si τ 3 3 (nI (p + 1))) (ri σ 8 (nI (p + 1))) := ⟨hD.1.pr cA rA, si_eq _ _ _ _, ri_eq _ _ _, by rw [si_ne _ _ (by decide)]; exact g5, by rw [ri_ne _ _ (by decide)]; exact g6, by rw [ri_ne _ _ (by decide)]; exact g7, by omega, by have := hD.2.2.2.2.2.2.2; omega⟩
  obtain ⟨y, τ1, σ1, e1, hh⟩ := hin _ _ _ _ _ _ hA
  refine ⟨y, τ1, σ1, e1, ?_⟩
  have hsz : sz ≤ 50 := h0.1.1
  have hw0 : w0 ≤ p0 := h0.2.2.2.2.2.2.2
  rcases hh with ⟨e2, f1, f2, f3, f4⟩ | ⟨e2, q, cd2, k1, k2, k3, k4, k5, k6, k7, k8, k9, k10, k11, k12, k13⟩
  · exact Or.inl ⟨e2, (g1.tr cA).tr f1, (g2.tr rA).tr f2, f3, f4⟩
  · refine Or.inr ⟨e2, ?_⟩
    have hw : w0 + (cd ++ cd2).length < 50 := by rw [List.length_append]; omega
    have k5' : τ1.1 3 4 = nI (w0 + (cd ++ cd2).length) := by rw [k5, List.length_append, Nat.add_assoc]
    refine ⟨_, q, cd ++ (cd2 ++ [-b]), pz_write hw k5' (-b), by omega, ?_⟩
    have hn : ∀ f, f ≠ 8 → f ≠ 10 → f ≠ 14 → (ri σ 8 (nI (p + 1))).1 f = σ0.1 f := fun f x y z => by rw [ri_ne _ _ x]; exact g2.2 f x y z
    rw [hn 11 (by decide) (by decide) (by decide), hn 12 (by decide) (by decide) (by decide), hn 13 (by decide) (by decide) (by decide)] at k13
    refine pzG_w (cd := cd ++ cd2) (List.append_assoc _ _ _).symm (EvC_op hb g10 g13 k13) (by rw [List.length_append]; omega) ((g1.tr cA).tr k1) ((g2.tr rA).tr k2) k3 k4 k5' k6 k7 k8 (fun i hi => ?_) (fun i hi => ?_)
    · rw [k11 i (by omega)]; exact g11 i hi
    · rw [List.length_append] at hi
      by_cases c : i < cd.length
      · rw [k11 (w0 + i) (by omega), getD_l c]; exact g12 i c
      · obtain ⟨j, rfl⟩ : ∃ j, i = cd.length + j := ⟨i - cd.length, by omega⟩
        rw [getD_r, ← Nat.add_assoc]; exact k12 j (by omega)
theorem lvl_m1 : lvl (-1) = -1 := by decide
theorem pz_loop {rd : Int32 → Int32 → CS → Option (Int32 × CS)} {ro : Int32 → CS → Option (Int32 × CS)} {inn : RS → Option (Int32 × RS)} {lv : Int32} {o u sz p0 w0 : Nat} {τ0 : CS} {σ0 : RS} (hlv : lv ≠ -1) (hin : pzS o (rd (lv + 1) (nI o)) inn) (h0 : pzD u sz o p0 w0 τ0 σ0) : ∀ (m n1 n2 i p : Nat) (cd : List Int32) (x : Int32) (τ : CS) (σ : RS), pzG sz o p0 w0 τ0 σ0 p cd x τ σ → sz - p < m → m ≤ n1 → m ≤ n2 → i < p → ∃ (y : Int32) (τ' : CS) (σ' : RS), pzL inn lv n2 x σ = some (y, σ') ∧ ((N_Q_reads_b39 rd ro n1 lv (nI o) 50 (nI i) τ = some (0, τ') ∧ pzF sz τ0 σ0 τ' σ') ∨ (N_Q_reads_b39 rd ro n1 lv (nI o) 50 (nI i) τ = some (1, τ') ∧ ∃ (q : Nat) (cd' : List Int32), pzG sz o p0 w0 τ0 σ0 q cd' y τ' σ')) := by
  intro m
  induction m with
  | zero =>
    intro n1 n2 i p cd x τ σ g hm h1 h2 hi
    exact absurd hm (Nat.not_lt_zero _)
  | succ m ih =>
    intro n1 n2 i p cd x τ σ g hm h1 h2 hi
    obtain ⟨n1, rfl⟩ : ∃ k, n1 = k + 1 := ⟨n1 - 1, by omega⟩
    obtain ⟨n2, rfl⟩ : ∃ k, n2 = k + 1 := ⟨n2 - 1, by omega⟩
    have hD := pzG_D h0 g
    have hsz : sz ≤ 50 := h0.1.1
    have g7 : σ.1 14 = 1 := g.2.2.2.2.2.2.1
    have g8 : p ≤ sz := g.2.2.2.2.2.2.2.1
    obtain ⟨b, hb1, hb2, hb3⟩ := pz_nx hD
    have c1 : ¬ (50 : Int32) ≤ nI i := nI_ge (a := i) (b := 50) (by omega) (by decide)
    have c2 : ¬ σ.1 14 = 0 := by rw [g7]; decide
    simp only [N_Q_reads_b39, pzL, if_neg c1, hb1, ob_s, levelOf_e, if_neg c2, hb2]
    by_cases cl : lvl b = lv
    · rw [if_pos cl, if_pos cl, lt_e]
      have hp : p < sz := by
        rcases hb3 with q | q
        · exact q.1
        · exfalso; rw [q.2, lvl_m1] at cl; exact hlv cl.symm
      obtain ⟨y, τ1, σ1, e1, hh⟩ := pz_step hin h0 g hp (lvl_isop (by rw [cl]; exact hlv))
      rw [e1, ob_s]
      rcases hh with ⟨e2, f⟩ | ⟨e2, τ2, q, cd', ew, hq, g'⟩
      · obtain ⟨n2, rfl⟩ : ∃ k, n2 = k + 1 := ⟨n2 - 1, by omega⟩
        rw [e2, ob_s, if_pos rfl, pzL_0 f.2.2.1]
        exact ⟨_, _, _, rfl, Or.inl ⟨rfl, f⟩⟩
      · rw [e2, ob_s, if_neg (by decide), ew, ob_s, nI_1]
        clear hb3
        exact ih n1 n2 (i + 1) q cd' _ τ2 σ1 g' (by omega) (by omega) (by omega) (by omega)
    · rw [if_neg cl, if_neg cl]
      exact ⟨x, τ, σ, rfl, Or.inr ⟨rfl, p, cd, g⟩⟩
theorem FU_e : FU = 999 + 1 := rfl
theorem pz_level {rd : Int32 → Int32 → CS → Option (Int32 × CS)} {ro : Int32 → CS → Option (Int32 × CS)} {inn : RS → Option (Int32 × RS)} {lv : Int32} {o : Nat} (hlv : lv ≠ -1) (h5 : lv < 5) (h2 : lv ≠ 2) (hin : pzS o (rd (lv + 1) (nI o)) inn) : pzS o (N_Q_reads rd ro lv (nI o)) (fun σ => ob (inn σ) fun v s => pzL inn lv FU v s) := by
  intro u sz p w τ σ h0
  obtain ⟨x, τ1, σ1, e1, hh⟩ := hin _ _ _ _ _ _ h0
  simp only [N_Q_reads, if_pos h5, e1, ob_s, lt_e, if_neg h2]
  rcases hh with ⟨e2, f⟩ | ⟨e2, q, cd, g⟩
  · rw [e2, ob_s, if_pos rfl, FU_e, pzL_0 f.2.2.1]
    exact ⟨_, _, _, rfl, Or.inl ⟨rfl, f⟩⟩
  · rw [e2, ob_s, if_neg (by decide)]
    have hq : 0 < q := by
      obtain ⟨-, -, -, -, -, -, -, g8, g9, g10, -⟩ := g
      omega
    have hs : sz ≤ 50 := h0.1.1
    exact pz_loop hlv hin h0 51 FU FU 0 q cd x τ1 σ1 g (by omega) (by decide) (by decide) hq
theorem pz_level2 {rd : Int32 → Int32 → CS → Option (Int32 × CS)} {ro : Int32 → CS → Option (Int32 × CS)} {inn : RS → Option (Int32 × RS)} {o : Nat} (hin : pzS o (rd ((2 : Int32) + 1) (nI o)) inn) : pzS o (N_Q_reads rd ro 2 (nI o)) (fun σ => ob (inn σ) fun v s => pz1 inn v s) := by
  intro u sz p w τ σ h0
  obtain ⟨x, τ1, σ1, e1, hh⟩ := hin _ _ _ _ _ _ h0
  obtain ⟨nn, hnn, hnp⟩ : ∃ nn, FU = nn + 1 ∧ 0 < nn := ⟨999, rfl, by decide⟩
  simp only [N_Q_reads, if_pos (show (2 : Int32) < 5 by decide), e1, ob_s, lt_e, if_pos, hnn]
  rcases hh with ⟨e2, f⟩ | ⟨e2, q, cd, g⟩
  · have f3 : σ1.1 14 = 0 := f.2.2.1
    rw [e2, ob_s, if_pos rfl]
    simp only [pz1, if_pos f3]
    exact ⟨_, _, _, rfl, Or.inl ⟨rfl, f⟩⟩
  · rw [e2, ob_s, if_neg (by decide)]
    have hD := pzG_D h0 g
    have g7 : σ1.1 14 = 1 := g.2.2.2.2.2.2.1
    obtain ⟨b, hb1, hb2, hb3⟩ := pz_nx hD
    have c1 : ¬ (1 : Int32) ≤ 0 := by decide
    have c2 : ¬ σ1.1 14 = 0 := by rw [g7]; decide
    simp only [N_Q_reads_b39, pz1, if_neg c1, hb1, ob_s, levelOf_e, if_neg c2, hb2]
    by_cases cl : lvl b = 2
    · rw [if_pos cl, if_pos cl, lt_e]
      have hp : q < sz := by
        rcases hb3 with q | q
        · exact q.1
        · exfalso; rw [q.2, lvl_m1] at cl; exact absurd cl (by decide)
      obtain ⟨y, τ2, σ2, e3, hh⟩ := pz_step hin h0 g hp (lvl_isop (by rw [cl]; decide))
      rw [e3, ob_s]
      rcases hh with ⟨e4, f⟩ | ⟨e4, τ3, q3, cd', ew, hq, g'⟩
      · rw [e4, ob_s, if_pos rfl]
        exact ⟨_, _, _, rfl, Or.inl ⟨rfl, f⟩⟩
      · rw [e4, ob_s, if_neg (by decide), ew, ob_s]
        have c3 : (1 : Int32) ≤ 0 + 1 := by decide
        refine ⟨_, τ3, σ2, rfl, Or.inr ⟨?_, q3, cd', g'⟩⟩
        obtain ⟨n3, rfl⟩ : ∃ k, nn = k + 1 := ⟨nn - 1, by omega⟩
        simp only [N_Q_reads_b39, if_pos c3]
    · rw [if_neg cl, if_neg cl]
      exact ⟨x, τ1, σ1, rfl, Or.inr ⟨rfl, q, cd, g⟩⟩
