/-! changes of one street, and of what is aside -/
/-- but for streets 0, 1, the reader, stacks of laws -/
def csame (τ τ' : CS) : Prop := (∀ o f, 2 ≤ o → o ≠ 3 → τ'.1 o f = τ.1 o f) ∧ (∀ o f, 2 ≤ o → o ≠ 3 → ¬ (8 ≤ o ∧ f = 2) → τ'.2.1 o f = τ.2.1 o f) ∧ ∀ o f, 2 ≤ o → τ'.2.2 o f = τ.2.2 o f
/-- but for row, tried, before, moved, what the parser leaves -/
def rsame (σ σ' : RS) : Prop := (∀ f, ¬ (7 ≤ f ∧ f ≤ 14) → σ'.1 f = σ.1 f) ∧ ∀ f, f ≠ 0 → f ≠ 2 → f ≠ 3 → f ≠ 19 → σ'.2 f = σ.2 f
theorem csame.rf (τ : CS) : csame τ τ := ⟨fun _ _ _ _ => rfl, fun _ _ _ _ _ => rfl, fun _ _ _ => rfl⟩
theorem rsame.rf (σ : RS) : rsame σ σ := ⟨fun _ _ => rfl, fun _ _ _ _ _ => rfl⟩
theorem csame.tr {a b c : CS} (h : csame a b) (h2 : csame b c) : csame a c := ⟨fun o f x y => (h2.1 o f x y).trans (h.1 o f x y), fun o f x y z => (h2.2.1 o f x y z).trans (h.2.1 o f x y z), fun o f x => (h2.2.2 o f x).trans (h.2.2 o f x)⟩
theorem rsame.tr {a b c : RS} (h : rsame a b) (h2 : rsame b c) : rsame a c := ⟨fun f x => (h2.1 f x).trans (h.1 f x), fun f w x y z => (h2.2 f w x y z).trans (h.2 f w x y z)⟩
theorem ceq_c {a b : CS} (h : ceq a b) : csame a b := ⟨fun o f _ _ => by rw [h.1], fun o f _ _ q => h.2.2 o f q, fun o f _ => by rw [h.2.1]⟩
theorem req_r {a b : RS} (h : req a b) : rsame a b := ⟨fun f q => h.2 f q, fun f _ _ _ _ => by rw [h.1]⟩
theorem cs_si {τ : CS} {o f : Nat} {v : Int32} (ho : o < 2 ∨ o = 3) : csame τ (si τ o f v) := ⟨fun a b h1 h2 => by
    have h3 : ¬ a = o := by omega
    simp [si, up2, h3], fun _ _ _ _ _ => rfl, fun _ _ _ => rfl⟩
theorem cs_sa {τ : CS} {o f : Nat} {v : Nat → Int32} (ho : o < 2 ∨ o = 3) : csame τ (sa τ o f v) := ⟨fun _ _ _ _ => rfl, fun a b h1 h2 _ => by
    have h3 : ¬ a = o := by omega
    simp [sa, up2, h3], fun _ _ _ => rfl⟩
theorem cs_slw {τ : CS} {o f : Nat} {v : Nat} (ho : o < 2) : csame τ (slw τ o f v) := ⟨fun _ _ _ _ => rfl, fun _ _ _ _ _ => rfl, fun a b h1 => by
    have h3 : ¬ a = o := by omega
    simp [slw, up2, h3]⟩
theorem rs_ra {σ : RS} {f : Nat} {v : Nat → Int32} (hf : f = 0 ∨ f = 2 ∨ f = 3 ∨ f = 19) : rsame σ (ra σ f v) := ⟨fun _ _ => rfl, fun q a b c d => ra_ne _ _ (by omega)⟩
theorem csame_l {τ τ' : CS} (h : csame τ τ') : lsame τ τ' := ⟨fun j => ⟨h.1 _ _ (by omega) (by omega), h.2.1 _ _ (by omega) (by omega) (by omega), h.2.2 _ _ (by omega)⟩, h.2.2 _ _ (by omega)⟩
theorem csame_2 {τ τ' : CS} (h : csame τ τ') : dsame 2 τ τ' := ⟨fun f => h.1 _ _ (by omega) (by omega), fun f => h.2.1 _ _ (by omega) (by omega) (by omega), fun f => h.2.2 _ _ (by omega)⟩
theorem Inv_of {k : Nat} {τ τ' : CS} {σ σ' : RS} (h : Inv k τ σ) (hc : csame τ τ') (hr : rsame σ σ') (hl : lawsok τ' = true) (hK : Kept (σ'.2 0) τ' 0) : Inv (k + 1) τ' σ' := by
  obtain ⟨-, ⟨i, hi, b1, b2, b3, b4⟩, h3, h4, h5, h6, h7, n, hn, hn2⟩ := h
  refine ⟨hK, ⟨i, by omega, ?_, ?_, ?_, fun q => ?_⟩, ?_, ?_, ?_, ?_, hl, n, by omega, ?_⟩
  · rw [hc.1 _ _ (by omega) (by omega)]; exact b1
  · rw [hr.1 _ (by omega)]; exact b2
  · rw [hr.1 _ (by omega)]; exact b3
  · rw [hr.2 1 (by omega) (by omega) (by omega) (by omega)]
    exact (b4 q).same (csame_2 hc) (csame_l hc)
  · unfold Shts at h3 ⊢
    have e1 : ∀ f, f ≠ 2 → τ'.2.1 5 f = τ.2.1 5 f := fun f hf => hc.2.1 _ _ (by omega) (by omega) (by omega)
    have e2 : ∀ f, τ'.2.1 6 f = τ.2.1 6 f := fun f => hc.2.1 _ _ (by omega) (by omega) (by omega)
    rw [e1 6 (by omega), e1 7 (by omega), hr.2 16 (by omega) (by omega) (by omega) (by omega), hr.2 17 (by omega) (by omega) (by omega) (by omega), hr.2 18 (by omega) (by omega) (by omega) (by omega)]
    refine ⟨h3.1, fun s hs i hi => ?_⟩
    rw [e2]; exact h3.2 s hs i hi
  · unfold Trc at h4 ⊢
    rw [hc.1 _ _ (by omega) (by omega), hr.1 21 (by omega), hr.2 20 (by omega) (by omega) (by omega) (by omega), hc.2.1 4 0 (by omega) (by omega) (by omega)]
    exact h4
  · intro j hj
    rw [hr.2 6 (by omega) (by omega) (by omega) (by omega), hc.2.1 5 8 (by omega) (by omega) (by omega)]
    exact h5 j hj
  · rw [hr.1 _ (by omega)]; exact h6
  · rw [hc.2.2 _ _ (by omega)]; exact hn2
theorem lawsok_eq {τ τ' : CS} (h : τ'.2.2 = τ.2.2) (h2 : lawsok τ = true) : lawsok τ' = true := by
  unfold lawsok at h2 ⊢
  rw [h]; exact h2
/-- wind, fine, pence of street 0 -/
theorem Kept_g {row : Nat → Int32} {τ : CS} {g : Nat} {v : Int32} (hg : 1 ≤ g ∧ g ≤ 3) (hv : rng v 0 (if g = 1 then 9 else if g = 2 then 99 else 99999)) (h : Kept row τ 0) : Kept (upd row (6 + g) v) (si τ 0 (7 + g) v) 0 := by
  obtain ⟨S, F0, F1, a1, a2, a3, ⟨t1, t2, t3⟩, a5, a6, a7, a8, a9, a10⟩ := h
  have hs : ∀ f, f ≠ 7 + g → (si τ 0 (7 + g) v).1 0 f = τ.1 0 f := fun f hf => by simp [si, up2, hf]
  have hs1 : (si τ 0 (7 + g) v).1 0 (7 + g) = v := by simp [si, up2]
  have hS := a1.1
  refine ⟨(S.1, S.2.1, upd S.2.2 g v), F0, F1, ?_, ?_, ?_, ⟨?_, ?_, ?_⟩, a5, a6, a7.same (lsame_si (by decide)), a8.up (by decide) (by omega), a9.same (lsame_si (by decide)), a10.up (by decide) (by omega)⟩
  · obtain ⟨s1, s2, s3, s4, s5, s6⟩ := a1
    refine ⟨s1, s2, ?_, ?_, ?_, ?_⟩
    · show rng (upd S.2.2 g v 0) 0 9999
      rw [upd_ne _ _ (by omega)]; exact s3
    · show rng (upd S.2.2 g v 1) 0 9
      by_cases c : g = 1
      · subst c; rw [upd_eq]; exact hv
      · rw [upd_ne _ _ (by omega)]; exact s4
    · show rng (upd S.2.2 g v 2) 0 99
      by_cases c : g = 2
      · subst c; rw [upd_eq]; exact hv
      · rw [upd_ne _ _ (by omega)]; exact s5
    · show rng (upd S.2.2 g v 3) 0 99999
      by_cases c : g = 3
      · subst c; rw [upd_eq]; exact hv
      · rw [upd_ne _ _ (by omega)]; exact s6
  · obtain ⟨s1, s2, s3, s4, s5, s6⟩ := a2
    refine ⟨by rw [upd_ne _ _ (by omega)]; exact s1, fun k hk f hf => by rw [upd_ne _ _ (by omega)]; exact s2 k hk f hf, ?_, ?_, ?_, ?_⟩
    · show upd row (6 + g) v 0 = upd S.2.2 g v 0
      rw [upd_ne _ _ (by omega), upd_ne _ _ (by omega)]; exact s3
    · show upd row (6 + g) v 7 = upd S.2.2 g v 1
      by_cases c : g = 1
      · subst c; rw [upd_eq, upd_eq]
      · rw [upd_ne _ _ (by omega), upd_ne _ _ (by omega)]; exact s4
    · show upd row (6 + g) v 8 = upd S.2.2 g v 2
      by_cases c : g = 2
      · subst c; rw [upd_eq, upd_eq]
      · rw [upd_ne _ _ (by omega), upd_ne _ _ (by omega)]; exact s5
    · show upd row (6 + g) v 9 = upd S.2.2 g v 3
      by_cases c : g = 3
      · subst c; rw [upd_eq, upd_eq]
      · rw [upd_ne _ _ (by omega), upd_ne _ _ (by omega)]; exact s6
  · obtain ⟨s1, s2, s3, s4, s5, s6, s7⟩ := a3
    refine ⟨by rw [hs _ (by omega)]; exact s1, s2, by rw [hs _ (by omega)]; exact s3, ?_, ?_, ?_, ?_⟩
    · show (si τ 0 (7 + g) v).1 0 7 = upd S.2.2 g v 0
      rw [hs _ (by omega), upd_ne _ _ (by omega)]; exact s4
    · show (si τ 0 (7 + g) v).1 0 8 = upd S.2.2 g v 1
      by_cases c : g = 1
      · subst c; rw [upd_eq]; exact hs1
      · rw [hs _ (by omega), upd_ne _ _ (by omega)]; exact s5
    · show (si τ 0 (7 + g) v).1 0 9 = upd S.2.2 g v 2
      by_cases c : g = 2
      · subst c; rw [upd_eq]; exact hs1
      · rw [hs _ (by omega), upd_ne _ _ (by omega)]; exact s6
    · show (si τ 0 (7 + g) v).1 0 10 = upd S.2.2 g v 3
      by_cases c : g = 3
      · subst c; rw [upd_eq]; exact hs1
      · rw [hs _ (by omega), upd_ne _ _ (by omega)]; exact s7
  · obtain ⟨t, q1, q2, q3, q4⟩ := t1
    exact ⟨t, q1, by rw [upd_ne _ _ (by omega)]; exact q2, by rw [hs _ (by omega)]; exact q3, fun j hj => by rw [upd_ne _ _ (by omega)]; exact q4 j hj⟩
  · obtain ⟨t, q1, q2, q3, q4⟩ := t2
    exact ⟨t, q1, by rw [upd_ne _ _ (by omega)]; exact q2, by rw [hs _ (by omega)]; exact q3, fun j hj => by rw [upd_ne _ _ (by omega)]; exact q4 j hj⟩
  · rw [upd_ne _ _ (by omega), hs _ (by omega)]; exact t3
theorem rng_in {x : Int32} {a b : Nat} (hb : b < 2 ^ 31) (hab : a ≤ b) (c1 : ¬ x < nI a) (c2 : ¬ nI b < x) : rng x a b := by
  rw [Int32.lt_iff_toInt_lt, nI_toInt (by omega)] at c1
  rw [Int32.lt_iff_toInt_lt, nI_toInt hb] at c2
  exact ⟨by omega, by omega⟩
theorem ag_set (x z : Int32) : Agree Inv (N_T_set x z) (M_set x z) := by
  intro k τ σ hk h
  have key : ∀ (g : Nat) (lo hi v : Int32), 1 ≤ g ∧ g ≤ 3 → (∀ _ : ¬ v < lo, ¬ hi < v → rng v 0 (if g = 1 then 9 else if g = 2 then 99 else 99999)) → ¬ v < lo → ¬ hi < v → ∃ (u : Int32) (τ' : CS) (σ' : RS), (lt (τ.1 0 (7 + g)) fun v19 => lt (si τ 0 (7 + g) v) fun σ21 => some (v19, σ21)) = some (u, τ') ∧ (lt (σ.2 0 (6 + g)) fun v2 => lt (ra σ 0 (upd (σ.2 0) (6 + g) v)) fun σ5 => some (v2, σ5)) = some (u, σ') ∧ Inv (k + 1) τ' σ' := by
    intro g lo hi v hg hr c1 c2
    have hK : Kept (σ.2 0) τ 0 := h.1
    obtain ⟨S, F0, F1, a1, a2, a3, -⟩ := id hK
    refine ⟨τ.1 0 (7 + g), si τ 0 (7 + g) v, ra σ 0 (upd (σ.2 0) (6 + g) v), rfl, ?_, ?_⟩
    · have e : σ.2 0 (6 + g) = τ.1 0 (7 + g) := by
        obtain ⟨-, -, -, r1, r2, r3⟩ := a2
        obtain ⟨-, -, -, -, s1, s2, s3⟩ := a3
        rcases (show g = 1 ∨ g = 2 ∨ g = 3 by omega) with rfl | rfl | rfl
        · exact r1.trans s1.symm
        · exact r2.trans s2.symm
        · exact r3.trans s3.symm
      rw [lt_e, lt_e, e]
    · refine Inv_of h (cs_si (by omega)) (rs_ra (by omega)) (lawsok_eq rfl ?_) ?_
      · obtain ⟨-, -, -, -, -, -, h7, -⟩ := h; exact h7
      · rw [ra_eq]; exact Kept_g hg (hr c1 c2) hK
  unfold N_T_set M_set N_T_within
  rw [ob_s]
  by_cases x0 : x = 0
  · subst x0
    rw [if_pos rfl]
    unfold M_in N_T_mostOfStreet M_set_b49 M_becomes
    rw [ob_s, if_neg (by decide), if_pos rfl, ob_s, ob_s]
    by_cases c : (if z < 0 then (0 : Int32) else if 9 < z then 0 else 1) = 0
    · rw [if_pos c, if_pos c]; exact err2 E1 h
    · rw [if_neg c, if_neg c, if_pos rfl]
      obtain ⟨c1, c2⟩ := in_ne c
      rw [gd_t (by decide), lt_e]
      exact key 1 0 9 z (by decide) (fun p1 p2 => rng_in (a := 0) (b := 9) (by decide) (by decide) p1 p2) c1 c2
  · rw [if_neg x0]
    by_cases x1 : x = 1
    · subst x1
      rw [if_pos rfl]
      unfold M_in N_T_mostOfStreet M_set_b49 M_becomes
      rw [ob_s, if_neg (by decide), if_neg (by decide), if_pos rfl, ob_s, ob_s]
      by_cases c : (if z < 0 then (0 : Int32) else if 99 < z then 0 else 1) = 0
      · rw [if_pos c, if_pos c]; exact err2 E1 h
      · rw [if_neg c, if_neg c, if_neg (by decide), if_pos rfl]
        obtain ⟨c1, c2⟩ := in_ne c
        rw [gd_t (by decide), lt_e]
        exact key 2 0 99 z (by decide) (fun p1 p2 => rng_in (a := 0) (b := 99) (by decide) (by decide) p1 p2) c1 c2
    · rw [if_neg x1]
      by_cases x2 : x = 2
      · subst x2
        rw [if_pos rfl]
        unfold M_in N_T_mostOfStreet M_set_b49 M_becomes
        rw [ob_s, if_neg (by decide), if_neg (by decide), if_neg (by decide), ob_s, ob_s]
        by_cases c : (if z < 0 then (0 : Int32) else if 99999 < z then 0 else 1) = 0
        · rw [if_pos c, if_pos (by rw [if_pos c])]; exact err2 E1 h
        · rw [if_neg c, if_neg (by decide : ¬ (2 : Int32) = 0), if_neg (by decide : ¬ (2 : Int32) = 1), if_neg c, if_neg (by decide : ¬ (1 : Int32) = 0)]
          obtain ⟨c1, c2⟩ := in_ne c
          rw [gd_t (by decide), lt_e]
          exact key 3 0 99999 z (by decide) (fun p1 p2 => rng_in (a := 0) (b := 99999) (by decide) (by decide) p1 p2) c1 c2
      · rw [if_neg x2]
        have e : (if x < 0 then (0 : Int32) else if 2 < x then 0 else 1) = 0 := by
          by_cases a : x < 0
          · rw [if_pos a]
          · rw [if_neg a]
            by_cases b : 2 < x
            · rw [if_pos b]
            · exfalso
              obtain ⟨j, -, hj, rfl⟩ := in_lit 0 2 (by decide) (by decide) a b
              rcases (show j = 0 ∨ j = 1 ∨ j = 2 by omega) with rfl | rfl | rfl
              · exact x0 rfl
              · exact x1 rfl
              · exact x2 rfl
        unfold M_set_b49
        rw [if_pos e, if_pos rfl]
        exact err2 E1 h
