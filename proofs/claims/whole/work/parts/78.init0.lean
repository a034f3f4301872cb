/-! at first -/
def F1i (a b _c : Int32) : Int32 := if a = 0 then (if b = 1 then 1 else (if a = 1 then (if b = 4 then 1 else 0) else 0)) else (if a = 1 then (if b = 4 then 1 else 0) else 0)
theorem F1i_r : FR1 F1i := by
  intro a b c
  unfold F1i
  by_cases h1 : a = 0
  · rw [if_pos h1]
    by_cases h2 : b = 1
    · rw [if_pos h2]; exact Or.inr rfl
    · rw [if_neg h2]
      by_cases h3 : a = 1
      · rw [if_pos h3]
        by_cases h4 : b = 4
        · rw [if_pos h4]; exact Or.inr rfl
        · rw [if_neg h4]; exact Or.inl rfl
      · rw [if_neg h3]; exact Or.inl rfl
  · rw [if_neg h1]
    by_cases h3 : a = 1
    · rw [if_pos h3]
      by_cases h4 : b = 4
      · rw [if_pos h4]; exact Or.inr rfl
      · rw [if_neg h4]; exact Or.inl rfl
    · rw [if_neg h3]; exact Or.inl rfl
theorem LawC_0 : LawC τ0 0 (fun _ _ _ => 3) := by
  refine ⟨by decide, fun τ' ⟨e1, _, e3, e4⟩ a b c => ?_⟩
  have e1' : τ'.1 (0 + 8) 0 = 0 := e1
  have e3' : τ'.2.2 (0 + 8) 0 = 0 := e3
  have hd : decide (0 < τ'.2.2 7 0) = true := decide_eq_true e4
  refine ⟨τ', ?_, ceq.rf τ'⟩
  unfold N_L_give N_L_withoutText
  rw [gd_t hd, gd_t hd, e3', if_pos (by decide : Int32.ofNat 0 = 0), gd_t hd, gd_t hd, e1', if_pos rfl, ob_s]
theorem LawC_1 : LawC τ0 1 F1i := by
  refine ⟨by decide, fun τ' ⟨e1, _, e3, e4⟩ a b c => ?_⟩
  have e1' : τ'.1 (1 + 8) 0 = 1 := e1
  have e3' : τ'.2.2 (1 + 8) 0 = 0 := e3
  have hd : decide (1 < τ'.2.2 7 0) = true := decide_eq_true e4
  refine ⟨τ', ?_, ceq.rf τ'⟩
  unfold N_L_give N_L_withoutText
  rw [gd_t hd, gd_t hd, e3', if_pos (by decide : Int32.ofNat 0 = 0), gd_t hd, gd_t hd, e1', if_neg i10, ob_s]
  rfl
theorem LawR_0 {row : Nat → Int32} (h : row 5 = -1) : LawR row 0 (fun _ _ _ => 3) := by
  intro σ ⟨e, _⟩ a b c
  have e' : σ.2 0 5 = -1 := e.trans h
  refine ⟨σ, ?_, req.rf σ⟩
  show M_lawOf 0 a b c σ = _
  unfold M_lawOf
  rw [lt_e, gd_t (by decide), show ix ((5 : Int32) + 0) = 5 by decide, e', if_pos (by decide : (-1 : Int32) < 0), if_pos rfl]
theorem LawR_1 {row : Nat → Int32} (h : row 6 = -1) : LawR row 1 F1i := by
  intro σ ⟨e, _⟩ a b c
  have e' : σ.2 0 6 = -1 := e.trans h
  refine ⟨σ, ?_, req.rf σ⟩
  show M_lawOf 1 a b c σ = _
  unfold M_lawOf
  rw [lt_e, gd_t (by decide), show ix ((5 : Int32) + 1) = 6 by decide, e', if_pos (by decide : (-1 : Int32) < 0), if_neg i10]
  rfl
theorem Inv_first : Inv 0 τ0 σ0R := by
  have hrow : σ0R.2 0 = upd (upd (upd (upd (fun _ => 0) 1 1) 8 11) 5 (-1)) 6 (-1) := rfl
  refine ⟨⟨(0, fun _ _ => 0, fun i => if i = 2 then 11 else 0), fun _ _ _ => 3, F1i, ?_, ?_, ?_, ⟨⟨0, by omega, rfl, rfl, fun i hi => absurd hi (Nat.not_lt_zero _)⟩, ⟨0, by omega, rfl, rfl, fun i hi => absurd hi (Nat.not_lt_zero _)⟩, rfl⟩, ?_, F1i_r, LawC_0, LawR_0 rfl, LawC_1, LawR_1 rfl⟩, ⟨0, by omega, rfl, rfl, rfl, fun q => absurd rfl q⟩, ⟨fun s hs => ⟨Or.inl rfl, rfl, 0, by omega, rfl, rfl, fun _ => rfl⟩, fun s hs i hi => rfl⟩, ⟨0, by omega, rfl, rfl, fun i hi => absurd hi (Nat.not_lt_zero _)⟩, fun j hj => ?_, rfl, by decide, 2, by omega, rfl⟩
  · exact ⟨by decide, fun k hk => absurd hk (Nat.not_lt_zero _), rng_nI (a := 0) (b := 9999) (by decide) (by decide), rng_nI (a := 0) (b := 9) (by decide) (by decide), rng_nI (a := 11) (b := 99) (by decide) (by decide), rng_nI (a := 0) (b := 99999) (by decide) (by decide)⟩
  · exact ⟨rfl, fun k hk => absurd hk (Nat.not_lt_zero _), rfl, rfl, rfl, rfl⟩
  · exact ⟨rfl, fun k hk => absurd hk (Nat.not_lt_zero _), ⟨0, by decide, rfl, fun k hk => absurd hk (Nat.not_lt_zero _)⟩, rfl, rfl, rfl, rfl⟩
  · intro a b c
    exact rng_nI (a := 3) (b := 99) (by decide) (by decide)
  · rcases (show j = 0 ∨ j = 1 ∨ j = 2 ∨ j = 3 ∨ j = 4 ∨ j = 5 by omega) with rfl | rfl | rfl | rfl | rfl | rfl <;> rfl
