/-! sheet, put, move, dirts, judge -/
theorem Inv_sh {k : Nat} {τ τ' : CS} {σ σ' : RS} (h : Inv k τ σ) (g1 : τ'.1 = τ.1) (g2 : ∀ o f, ¬ (o = 5 ∧ (f = 6 ∨ f = 7)) → o ≠ 6 → τ'.2.1 o f = τ.2.1 o f) (g3 : τ'.2.2 = τ.2.2) (r1 : σ'.1 = σ.1) (r2 : ∀ f, f ≠ 16 → f ≠ 17 → f ≠ 18 → f ≠ 19 → σ'.2 f = σ.2 f) (hs : Shts τ' σ') : Inv k τ' σ' := by
  obtain ⟨h1, ⟨i, hi, b1, b2, b3, b4⟩, h3, h4, h5, h6, h7, n, hn, hn2⟩ := h
  have ds : ∀ d, d < 5 → dsame d τ τ' := fun d hd => ⟨fun f => by rw [g1], fun f => g2 _ _ (by omega) (by omega), fun f => by rw [g3]⟩
  have ls : lsame τ τ' := ⟨fun j => ⟨by rw [g1], g2 _ _ (by omega) (by omega), by rw [g3]⟩, by rw [g3]⟩
  refine ⟨?_, ⟨i, hi, by rw [g1]; exact b1, by rw [r1]; exact b2, by rw [r1]; exact b3, fun q => ?_⟩, hs, ?_, ?_, by rw [r1]; exact h6, lawsok_eq g3 h7, n, hn, by rw [g3]; exact hn2⟩
  · rw [r2 0 (by decide) (by decide) (by decide) (by decide)]; exact h1.same (ds 0 (by decide)) ls
  · rw [r2 1 (by decide) (by decide) (by decide) (by decide)]; exact (b4 q).same (ds 2 (by decide)) ls
  · unfold Trc at h4 ⊢
    rw [g1, r1, r2 20 (by decide) (by decide) (by decide) (by decide), g2 4 0 (by omega) (by omega)]
    exact h4
  · intro j hj
    rw [r2 6 (by decide) (by decide) (by decide) (by decide), g2 5 8 (by omega) (by omega)]
    exact h5 j hj
theorem sa_sa (τ : CS) (o f : Nat) (a b : Nat → Int32) : sa (sa τ o f a) o f b = sa τ o f b := by
  unfold sa
  congr 2
  funext x y
  unfold up2
  by_cases c : x = o
  · by_cases d : y = f <;> simp [c, d]
  · simp [c]
theorem sa_id (τ : CS) (o f : Nat) : sa τ o f (τ.2.1 o f) = τ := by
  obtain ⟨a, b, c⟩ := τ
  unfold sa
  congr 2
  funext x y
  unfold up2
  by_cases c : x = o
  · by_cases d : y = f <;> simp [c, d]
  · simp [c]
theorem zC {s : Nat} (hs : s < 4) : ∀ (m f i : Nat) (τ : CS), i + m = 40 → m < f → ∃ g : Nat → Int32, N_T_sheet_b78 f (nI s) (nI i) τ = some (1, sa τ 6 s g) ∧ ∀ j, g j = if i ≤ j ∧ j < 40 then 0 else τ.2.1 6 s j := by
  intro m
  induction m with
  | zero =>
    intro f i τ hm hf
    obtain ⟨f, rfl⟩ : ∃ q, f = q + 1 := ⟨f - 1, by omega⟩
    have hi : i = 40 := by omega
    subst hi
    refine ⟨τ.2.1 6 s, ?_, fun j => by rw [if_neg (by omega)]⟩
    rw [N_T_sheet_b78, if_pos (by decide : (40 : Int32) ≤ nI 40), sa_id]
  | succ m ih =>
    intro f i τ hm hf
    obtain ⟨f, rfl⟩ : ∃ q, f = q + 1 := ⟨f - 1, by omega⟩
    have c : ¬ (40 : Int32) ≤ nI i := nI_ge (a := i) (b := 40) (by omega) (by decide)
    have b1 : inb (nI s) 4 = true := inb_nI hs (by decide)
    have b2 : inb (nI i) 40 = true := inb_nI (by omega) (by decide)
    have x1 : ix (nI s) = s := ix_nI (by omega)
    have x2 : ix (nI i) = i := ix_nI (by omega)
    obtain ⟨g, e, hg⟩ := ih f (i + 1) (sa τ 6 s (upd (τ.2.1 6 s) i 0)) (by omega) (by omega)
    refine ⟨g, ?_, fun j => ?_⟩
    · rw [N_T_sheet_b78, if_neg c, gd_t b1, gd_t b2, lt_e, x1, x2, nI_1, e, sa_sa]
    · rw [hg j, sa_eq]
      by_cases q : j = i
      · subst q
        rw [if_neg (by omega), if_pos (by omega), upd_eq]
      · rw [upd_ne _ _ q]
        by_cases q2 : i + 1 ≤ j ∧ j < 40
        · rw [if_pos q2, if_pos (by omega)]
        · rw [if_neg q2, if_neg (by omega)]
theorem zR {s : Nat} (hs : s < 4) : ∀ (m f i : Nat) (σ : RS), i + m = 40 → m < f → ∃ g : Nat → Int32, M_sheet_b93 f (nI s) (nI i) σ = some (1, ra σ 18 g) ∧ ∀ j, g j = if 40 * s + i ≤ j ∧ j < 40 * s + 40 then 0 else σ.2 18 j := by
  intro m
  induction m with
  | zero =>
    intro f i σ hm hf
    obtain ⟨f, rfl⟩ : ∃ q, f = q + 1 := ⟨f - 1, by omega⟩
    have hi : i = 40 := by omega
    subst hi
    refine ⟨σ.2 18, ?_, fun j => by rw [if_neg (by omega)]⟩
    rw [M_sheet_b93, if_pos (by decide : (40 : Int32) ≤ nI 40), ra_id]
  | succ m ih =>
    intro f i σ hm hf
    obtain ⟨f, rfl⟩ : ∃ q, f = q + 1 := ⟨f - 1, by omega⟩
    have c : ¬ (40 : Int32) ≤ nI i := nI_ge (a := i) (b := 40) (by omega) (by decide)
    have e1 : (40 : Int32) * nI s + nI i = nI (40 * s + i) := by rw [show (40 : Int32) = nI 40 from rfl, pk_mul, nI_add]
    have b1 : inb (nI (40 * s + i)) 160 = true := inb_nI (by omega) (by decide)
    have x1 : ix (nI (40 * s + i)) = 40 * s + i := ix_nI (by omega)
    obtain ⟨g, e, hg⟩ := ih f (i + 1) (ra σ 18 (upd (σ.2 18) (40 * s + i) 0)) (by omega) (by omega)
    refine ⟨g, ?_, fun j => ?_⟩
    · rw [M_sheet_b93, if_neg c, e1, gd_t b1, lt_e, x1, nI_1, e, ra_ra]
    · rw [hg j, ra_eq]
      by_cases q : j = 40 * s + i
      · subst q
        rw [if_neg (by omega), if_pos (by omega), upd_eq]
      · rw [upd_ne _ _ q]
        by_cases q2 : 40 * s + (i + 1) ≤ j ∧ j < 40 * s + 40
        · rw [if_pos q2, if_pos (by omega)]
        · rw [if_neg q2, if_neg (by omega)]
theorem sheet_ok {k s : Nat} {τ : CS} {σ : RS} {b n : Int32} (h : Inv k τ σ) (hs : s < 4) (hb : b = 0 ∨ b = 8 ∨ b = 16 ∨ b = 32) (hn : b ≠ 0 → ∃ q : Nat, q ≤ 40 ∧ n = nI q) : AgP k (N_T_sheet_b53 (nI s) b n τ) (M_sheet_b68 (nI s) b n σ) := by
  have hF' : FU = 1000 := rfl
  have b1 : inb (nI s) 4 = true := inb_nI hs (by decide)
  have x1 : ix (nI s) = s := ix_nI (by omega)
  obtain ⟨q, hq, eq0, eqn⟩ : ∃ q : Nat, q ≤ 40 ∧ (b = 0 → q = 0) ∧ (if b = 0 then (0 : Int32) else n) = nI q := by
    by_cases c : b = 0
    · exact ⟨0, by omega, fun _ => rfl, by rw [if_pos c]; rfl⟩
    · obtain ⟨q, hq, e⟩ := hn c
      exact ⟨q, hq, fun z => absurd z c, by rw [if_neg c]; exact e⟩
  obtain ⟨g, e1, hg⟩ := zC hs 40 FU 0 (sa (sa τ 5 6 (upd (τ.2.1 5 6) s b)) 5 7 (upd (τ.2.1 5 7) s (nI q))) (by omega) (by omega)
  obtain ⟨g2, e2, hg2⟩ := zR hs 40 FU 0 (ra (ra σ 16 (upd (σ.2 16) s b)) 17 (upd (σ.2 17) s (nI q))) (by omega) (by omega)
  have e1' : N_T_sheet_b78 FU (nI s) 0 (sa (sa τ 5 6 (upd (τ.2.1 5 6) s b)) 5 7 (upd (τ.2.1 5 7) s (nI q))) = _ := e1
  have e2' : M_sheet_b93 FU (nI s) 0 (ra (ra σ 16 (upd (σ.2 16) s b)) 17 (upd (σ.2 17) s (nI q))) = _ := e2
  unfold N_T_sheet_b53 M_sheet_b68
  have c7 : (sa τ 5 6 (upd (τ.2.1 5 6) s b)).2.1 5 7 = τ.2.1 5 7 := sa_ne _ _ (by decide)
  have c17 : (ra σ 16 (upd (σ.2 16) s b)).2 17 = σ.2 17 := ra_ne _ _ (by decide)
  rw [gd_t b1, lt_e, gd_t b1, lt_e, gd_t b1, lt_e, gd_t b1, lt_e, x1, eqn, c7, c17, e1', e2']
  obtain ⟨s1, s2⟩ := Inv_s h
  refine ⟨_, _, _, rfl, rfl, Inv_mono _ _ _ (Inv_sh h rfl (fun o f a c => ?_) rfl rfl (fun f a b c d => ?_) ⟨fun u hu => ?_, fun u hu i hi => ?_⟩)⟩
  · rw [sa_o _ _ c]
    by_cases o5 : o = 5
    · subst o5
      rw [sa_ne _ _ (by omega), sa_ne _ _ (by omega)]
    · rw [sa_o _ _ o5, sa_o _ _ o5]
  · rw [ra_ne _ _ c, ra_ne _ _ b, ra_ne _ _ a]
  · have d6 : (sa (sa (sa τ 5 6 (upd (τ.2.1 5 6) s b)) 5 7 (upd (τ.2.1 5 7) s (nI q))) 6 s g).2.1 5 6 = upd (τ.2.1 5 6) s b := by rw [sa_o _ _ (by decide), sa_ne _ _ (by decide), sa_eq]
    have d7 : (sa (sa (sa τ 5 6 (upd (τ.2.1 5 6) s b)) 5 7 (upd (τ.2.1 5 7) s (nI q))) 6 s g).2.1 5 7 = upd (τ.2.1 5 7) s (nI q) := by rw [sa_o _ _ (by decide), sa_eq]
    have d16 : (ra (ra (ra σ 16 (upd (σ.2 16) s b)) 17 (upd (σ.2 17) s (nI q))) 18 g2).2 16 = upd (σ.2 16) s b := by rw [ra_ne _ _ (by decide), ra_ne _ _ (by decide), ra_eq]
    have d17 : (ra (ra (ra σ 16 (upd (σ.2 16) s b)) 17 (upd (σ.2 17) s (nI q))) 18 g2).2 17 = upd (σ.2 17) s (nI q) := by rw [ra_ne _ _ (by decide), ra_eq]
    rw [d6, d7, d16, d17]
    by_cases c : u = s
    · subst c
      rw [upd_eq, upd_eq, upd_eq, upd_eq]
      exact ⟨hb, rfl, q, hq, rfl, rfl, eq0⟩
    · rw [upd_ne _ _ c, upd_ne _ _ c, upd_ne _ _ c, upd_ne _ _ c]
      exact s1 u hu
  · have d18 : (ra (ra (ra σ 16 (upd (σ.2 16) s b)) 17 (upd (σ.2 17) s (nI q))) 18 g2).2 18 = g2 := ra_eq _ _ _
    rw [d18, hg2, ra_ne _ _ (by decide), ra_ne _ _ (by decide)]
    by_cases c : u = s
    · subst c
      rw [sa_eq, hg, if_pos (by omega), if_pos (by omega)]
    · rw [sa_ne _ _ c, sa_o _ _ (by decide), sa_o _ _ (by decide), if_neg (by omega)]
      exact s2 u hu i hi
theorem ag_sheet (x y z : Int32) : Agree Inv (N_T_sheet x y z) (M_sheet x y z) := by
  intro k τ σ hk h
  show AgP k _ _
  unfold N_T_sheet M_sheet
  refine chkS E1 h (fun s hs hx => ?_)
  subst hx
  have go : (y = 0 ∨ y = 8 ∨ y = 16 ∨ y = 32) → AgP k (if y = 0 then (N_T_sheet_b36 (nI s) y z τ) else (if 0 ≤ z then (N_T_sheet_b36 (nI s) y z τ) else (ob (N_T_fail (-1000000003 : Int32) τ) fun v35 σ36 => (some (v35, σ36))))) (M_sheet_b36 (nI s) y z σ) := by
    intro hy
    unfold N_T_sheet_b36 M_sheet_b36 M_sheet_b51
    by_cases c0 : y = 0
    · rw [if_pos c0, if_pos c0, if_pos c0, if_pos c0]
      exact sheet_ok h hs hy (fun q => absurd c0 q)
    · rw [if_neg c0, if_neg c0, if_neg c0, if_neg c0]
      by_cases c1 : 0 ≤ z
      · rw [if_pos c1, if_pos c1]
        by_cases c2 : z ≤ 40
        · rw [if_pos c2, if_pos c2]
          exact sheet_ok h hs hy (fun _ => by
            obtain ⟨q, -, hq, e⟩ := in_lit 0 40 (by decide) (by decide) (i32_le_nlt c1) (i32_le_nlt c2)
            exact ⟨q, hq, e⟩)
        · rw [if_neg c2, if_neg c2]
          exact err2 E1 h
      · rw [if_neg c1, if_neg c1]
        exact err2 E3 h
  unfold N_T_isWidth
  rw [ob_s]
  by_cases y0 : y = 0
  · have g := go (Or.inl y0)
    simp only [if_pos y0, if_neg i10] at g ⊢
    exact g
  by_cases y8 : y = 8
  · have g := go (Or.inr (Or.inl y8))
    simp only [if_neg y0, if_pos y8, if_neg i10] at g ⊢
    exact g
  by_cases y16 : y = 16
  · have g := go (Or.inr (Or.inr (Or.inl y16)))
    simp only [if_neg y0, if_neg y8, if_pos y16, if_neg i10] at g ⊢
    exact g
  by_cases y32 : y = 32
  · have g := go (Or.inr (Or.inr (Or.inr y32)))
    simp only [if_neg y0, if_neg y8, if_neg y16, if_pos y32, if_neg i10] at g ⊢
    exact g
  rw [if_neg y0, if_neg y8, if_neg y16, if_neg y32, if_pos rfl, if_neg y0, if_neg y8, if_neg y16, if_neg y32]
  exact err2 E1 h
theorem ag_put (x y z : Int32) : Agree Inv (N_T_put x y z) (M_put x y z) := by
  intro k τ σ hk h
  show AgP k _ _
  unfold N_T_put M_put
  refine chkS E1 h (fun s hs hx => ?_)
  subst hx
  obtain ⟨s1, s2⟩ := Inv_s h
  obtain ⟨hb, e16, n, hn, e7, e17, -⟩ := s1 s hs
  have b1 : inb (nI s) 4 = true := inb_nI hs (by decide)
  have x1 : ix (nI s) = s := ix_nI (by omega)
  simp only [gd_t b1, x1, e16, e7, e17]
  by_cases c0 : τ.2.1 5 6 s = 0
  · rw [if_pos c0, if_pos c0]; exact err2 E2 h
  rw [if_neg c0, if_neg c0]
  refine chk E1 h (fun c1 c2 => ?_)
  obtain ⟨i, hi, rfl⟩ := in_cnt (by omega) c1 c2
  have e1 : (40 : Int32) * nI s + nI i = nI (40 * s + i) := by rw [show (40 : Int32) = nI 40 from rfl, pk_mul, nI_add]
  have b2 : inb (nI (40 * s + i)) 160 = true := inb_nI (by omega) (by decide)
  have x2 : ix (nI (40 * s + i)) = 40 * s + i := ix_nI (by omega)
  have b3 : inb (nI i) 40 = true := inb_nI (by omega) (by decide)
  have x3 : ix (nI i) = i := ix_nI (by omega)
  obtain ⟨v, ev1, ev2⟩ : ∃ v, (∀ t : CS, N_T_lowestBits (τ.2.1 5 6 s) z t = some (v, t)) ∧ ∀ t : RS, M_narrow (τ.2.1 5 6 s) z t = some (v, t) := by
    unfold N_T_lowestBits M_narrow
    by_cases q : τ.2.1 5 6 s = 8
    · refine ⟨_, fun t => by rw [if_pos q], fun t => by rw [if_pos q]⟩
    · by_cases q2 : τ.2.1 5 6 s = 16
      · refine ⟨_, fun t => by rw [if_neg q, if_pos q2], fun t => by rw [if_neg q, if_pos q2]⟩
      · refine ⟨_, fun t => by rw [if_neg q, if_neg q2], fun t => by rw [if_neg q, if_neg q2]⟩
  rw [ev1, e16, ev2, ob_s, ob_s, gd_t b3, lt_e, x3, e1, gd_t b2, lt_e, x2]
  refine ⟨_, _, _, rfl, rfl, Inv_mono _ _ _ (Inv_sh h rfl (fun o f a c => sa_o _ _ c) rfl rfl (fun f a b c d => ra_ne _ _ c) ⟨fun u hu => ?_, fun u hu j hj => ?_⟩)⟩
  · rw [sa_o _ _ (by decide), sa_o _ _ (by decide), ra_ne _ _ (by decide), ra_ne _ _ (by decide)]
    exact s1 u hu
  · rw [ra_eq]
    by_cases c : u = s
    · subst c
      rw [sa_eq]
      by_cases q : j = i
      · subst q; rw [upd_eq, upd_eq]
      · rw [upd_ne _ _ (by omega), upd_ne _ _ q]; exact s2 u hu j hj
    · rw [sa_ne _ _ c, upd_ne _ _ (by omega)]; exact s2 u hu j hj
