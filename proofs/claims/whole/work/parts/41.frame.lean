/-! what a relation doesn't look at may change -/
def lsame (τ τ' : CS) : Prop := (∀ j, τ'.1 (j + 8) 0 = τ.1 (j + 8) 0 ∧ τ'.2.1 (j + 8) 1 = τ.2.1 (j + 8) 1 ∧ τ'.2.2 (j + 8) 0 = τ.2.2 (j + 8) 0) ∧ τ'.2.2 7 0 = τ.2.2 7 0
/-- street d is the same -/
def dsame (d : Nat) (τ τ' : CS) : Prop := (∀ f, τ'.1 d f = τ.1 d f) ∧ (∀ f, τ'.2.1 d f = τ.2.1 d f) ∧ ∀ f, τ'.2.2 d f = τ.2.2 d f
theorem lsame.rf (τ : CS) : lsame τ τ := ⟨fun _ => ⟨rfl, rfl, rfl⟩, rfl⟩
theorem lsame.tr {a b c : CS} (h : lsame a b) (h2 : lsame b c) : lsame a c := ⟨fun j => ⟨(h2.1 j).1.trans (h.1 j).1, (h2.1 j).2.1.trans (h.1 j).2.1, (h2.1 j).2.2.trans (h.1 j).2.2⟩, h2.2.trans h.2⟩
theorem dsame.tr {d : Nat} {a b c : CS} (h : dsame d a b) (h2 : dsame d b c) : dsame d a c := ⟨fun f => (h2.1 f).trans (h.1 f), fun f => (h2.2.1 f).trans (h.2.1 f), fun f => (h2.2.2 f).trans (h.2.2 f)⟩
theorem dsame.rf (d : Nat) (τ : CS) : dsame d τ τ := ⟨fun _ => rfl, fun _ => rfl, fun _ => rfl⟩
theorem LawC.same {τ τ' : CS} {j : Nat} {F : LF} (hs : lsame τ τ') (h : LawC τ j F) : LawC τ' j F := by
  refine ⟨by rw [hs.2]; exact h.1, fun τ2 h2 => h.2 τ2 ?_⟩
  obtain ⟨a1, a2, a3⟩ := hs.1 j
  exact ⟨h2.1.trans a1, h2.2.1.trans a2, h2.2.2.1.trans a3, h2.2.2.2⟩
theorem lsame_si {τ : CS} {o f : Nat} {v : Int32} (ho : o < 8) : lsame τ (si τ o f v) := by
  refine ⟨fun j => ⟨?_, rfl, rfl⟩, rfl⟩
  have h1 : ¬ j + 8 = o := by omega
  simp [si, up2, h1]
theorem lsame_sa {τ : CS} {o f : Nat} {v : Nat → Int32} (ho : o < 8) : lsame τ (sa τ o f v) := by
  refine ⟨fun j => ⟨rfl, ?_, rfl⟩, rfl⟩
  have h1 : ¬ j + 8 = o := by omega
  simp [sa, up2, h1]
theorem lsame_slw {τ : CS} {o f : Nat} {v : Nat} (ho : o < 7) : lsame τ (slw τ o f v) := by
  have h2 : ¬ 7 = o := by omega
  refine ⟨fun j => ⟨rfl, rfl, ?_⟩, by simp [slw, up2, h2]⟩
  have h1 : ¬ j + 8 = o := by omega
  simp [slw, up2, h1]
theorem dsame_si {d : Nat} {τ : CS} {o f : Nat} {v : Int32} (ho : d ≠ o) : dsame d τ (si τ o f v) := ⟨fun q => by simp [si, up2, ho], fun _ => rfl, fun _ => rfl⟩
theorem dsame_sa {d : Nat} {τ : CS} {o f : Nat} {v : Nat → Int32} (ho : d ≠ o) : dsame d τ (sa τ o f v) := ⟨fun _ => rfl, fun q => by simp [sa, up2, ho], fun _ => rfl⟩
theorem dsame_slw {d : Nat} {τ : CS} {o f : Nat} {v : Nat} (ho : d ≠ o) : dsame d τ (slw τ o f v) := ⟨fun _ => rfl, fun _ => rfl, fun q => by simp [slw, up2, ho]⟩
theorem ceq_lsame {τ τ' : CS} (h : ceq τ τ') : lsame τ τ' := by
  refine ⟨fun j => ⟨by rw [h.1], h.2.2 _ _ (by omega), by rw [h.2.1]⟩, by rw [h.2.1]⟩
theorem ceq_dsame {τ τ' : CS} {d : Nat} (hd : d < 8) (h : ceq τ τ') : dsame d τ τ' := ⟨fun f => by rw [h.1], fun f => h.2.2 _ _ (by omega), fun f => by rw [h.2.1]⟩
theorem CStr.same {τ τ' : CS} {d : Nat} {S : SP} (hs : dsame d τ τ') (h : CStr τ d S) : CStr τ' d S := by
  obtain ⟨a, b, c, e⟩ := h
  refine ⟨by rw [hs.1]; exact a, fun k hk => ?_, ?_, ?_⟩
  · rw [hs.2.1, hs.2.1, hs.2.1, hs.2.1]; exact b k hk
  · rw [hs.1]; exact c
  · rw [hs.1, hs.1, hs.1, hs.1]; exact e
theorem TWz.same {row : Nat → Int32} {τ τ' : CS} {d : Nat} (hs : dsame d τ τ') (h : TWz row τ d) : TWz row τ' d := by
  unfold TWz at h ⊢
  rw [hs.1, hs.1, hs.1, hs.2.1, hs.2.1]
  exact h
theorem Kept.same {row : Nat → Int32} {τ τ' : CS} {d : Nat} (hs : dsame d τ τ') (hl : lsame τ τ') (h : Kept row τ d) : Kept row τ' d := by
  obtain ⟨S, F0, F1, h1, h2, h3, h4, h5, h6, h7, h8, h9, h10⟩ := h
  exact ⟨S, F0, F1, h1, h2, h3.same hs, h4.same hs, h5, h6, by rw [hs.2.2]; exact h7.same hl, h8, by rw [hs.2.2]; exact h9.same hl, h10⟩
/-- an ERROR is counted on both sides -/
theorem fail_e {e : Int32} {j : Nat} (h1 : inb ((-1000000000 : Int32) - e) 6 = true) (h2 : ix ((-1000000000 : Int32) - e) = j) (τ : CS) : N_T_fail e τ = some (e, sa τ 5 8 (upd (τ.2.1 5 8) j (τ.2.1 5 8 j + 1))) := by
  unfold N_T_fail
  rw [gd_t h1, gd_t h1, lt_e, h2]
theorem errs_e {e : Int32} {j : Nat} (h1 : inb ((-1000000000 : Int32) - e) 6 = true) (h2 : ix ((-1000000000 : Int32) - e) = j) (σ : RS) : M_errs e σ = some (e, ra σ 6 (upd (σ.2 6) j (σ.2 6 j + 1))) := by
  unfold M_errs
  rw [gd_t h1, gd_t h1, lt_e, h2]
theorem Inv_err {k j : Nat} {τ : CS} {σ : RS} (hj : j < 6) (h : Inv k τ σ) : Inv (k + 1) (sa τ 5 8 (upd (τ.2.1 5 8) j (τ.2.1 5 8 j + 1))) (ra σ 6 (upd (σ.2 6) j (σ.2 6 j + 1))) := by
  obtain ⟨h1, ⟨i, hi, a1, a2, a3, a4⟩, h3, h4, h5, h6, h7, n, hn, hn2⟩ := h
  refine ⟨h1.same (dsame_sa (by decide)) (lsame_sa (by decide)), ⟨i, by omega, a1, a2, a3, fun q => (a4 q).same (dsame_sa (by decide)) (lsame_sa (by decide))⟩, h3, h4, ?_, h6, h7, n, by omega, hn2⟩
  intro q hq
  have e1 : (ra σ 6 (upd (σ.2 6) j (σ.2 6 j + 1))).2 6 q = upd (σ.2 6) j (σ.2 6 j + 1) q := by simp [ra, va_up]
  have e2 : (sa τ 5 8 (upd (τ.2.1 5 8) j (τ.2.1 5 8 j + 1))).2.1 5 8 q = upd (τ.2.1 5 8) j (τ.2.1 5 8 j + 1) q := by simp [sa, up2]
  rw [e1, e2]
  unfold upd
  by_cases c : q = j
  · rw [if_pos c, if_pos c, h5 j hj]
  · rw [if_neg c, if_neg c]; exact h5 q hq
/-- both answer the same ERROR -/
def isE (e : Int32) (j : Nat) : Prop := inb ((-1000000000 : Int32) - e) 6 = true ∧ ix ((-1000000000 : Int32) - e) = j ∧ j < 6
theorem E1 : isE (-1000000001) 1 := ⟨by decide, by decide, by decide⟩
theorem E2 : isE (-1000000002) 2 := ⟨by decide, by decide, by decide⟩
theorem E3 : isE (-1000000003) 3 := ⟨by decide, by decide, by decide⟩
theorem E4 : isE (-1000000004) 4 := ⟨by decide, by decide, by decide⟩
theorem E5 : isE (-1000000005) 5 := ⟨by decide, by decide, by decide⟩
theorem err2 {e : Int32} {j k : Nat} {τ : CS} {σ : RS} (he : isE e j) (h : Inv k τ σ) : ∃ (v : Int32) (τ' : CS) (σ' : RS), (ob (N_T_fail e τ) fun v s => some (v, s)) = some (v, τ') ∧ (ob (M_errs e σ) fun v s => some (v, s)) = some (v, σ') ∧ Inv (k + 1) τ' σ' := by
  rw [fail_e he.1 he.2.1, errs_e he.1 he.2.1]
  exact ⟨_, _, _, rfl, rfl, Inv_err he.2.2 h⟩
