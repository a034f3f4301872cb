/-! yards: reading and changing one field -/
theorem ixl (k w : Nat) : ((10 : Int32) + (5 : Int32) * nI k) + nI w = nI (10 + 5 * k + w) := by
  rw [show (10 : Int32) = nI 10 from rfl, show (5 : Int32) = nI 5 from rfl, pk_mul, nI_add, nI_add]
theorem its_e {k w : Nat} (hk : k < 12) (hw : w < 5) (σ : RS) : M_its (nI k) (nI w) σ = some (σ.2 0 (10 + 5 * k + w), σ) := by
  unfold M_its
  rw [ixl, gd_t (inb_nI (by omega) (by decide)), ix_nI (by omega)]
theorem gets_e {k w : Nat} (hk : k < 12) (hw : w < 5) (v : Int32) (σ : RS) : M_gets (nI k) (nI w) v σ = some (0, ra σ 0 (upd (σ.2 0) (10 + 5 * k + w) v)) := by
  unfold M_gets
  rw [ixl, gd_t (inb_nI (by omega) (by decide)), ix_nI (by omega), lt_e]
theorem isb_in (x lo hi : Int32) : isb (if x < lo then (0 : Int32) else if hi < x then 0 else 1) = true := isb_ite (by decide) (isb_ite (by decide) (by decide))
theorem has_e (d : Nat) (x : Int32) (τ : CS) : N_S_has d x τ = some ((if x < 0 then (0 : Int32) else if τ.1 d 5 - 1 < x then 0 else 1), τ) := by
  unfold N_S_has N_T_within
  rw [ob_s, gd_t (isb_in _ _ _)]
theorem isYard_e (x : Int32) (σ : RS) : M_isYard x σ = some ((if x < 0 then (0 : Int32) else if σ.2 0 2 - 1 < x then 0 else 1), σ) := by
  unfold M_isYard M_in
  rw [ob_s, gd_t (isb_in _ _ _)]
def af (f : Nat) : Nat := if f = 4 then 4 else f + 1
theorem af_ne {g f : Nat} (hg : g = 0 ∨ g = 1 ∨ g = 2 ∨ g = 4) (hf : f = 0 ∨ f = 1 ∨ f = 2 ∨ f = 4) (h : g ≠ f) : af g ≠ af f := by
  rcases hg with rfl | rfl | rfl | rfl <;> rcases hf with rfl | rfl | rfl | rfl <;> first | exact absurd rfl h | decide
def yrng (f : Nat) (v : Int32) : Prop := (f = 0 → ∃ κ : Nat, κ < 7 ∧ v = nI κ) ∧ (f = 1 → rng v 0 9) ∧ (f = 2 → rng v 0 999) ∧ (f = 4 → rng v 0 99)
theorem RRow_n {row : Nat → Int32} {S S2 : SP} (h : RRow row S) (h2 : RRow row S2) (a : S.1 ≤ 12) (b : S2.1 ≤ 12) : S.1 = S2.1 := (nI_eq (by omega) (by omega)).mp (h.1.symm.trans h2.1)
/-- kind, m, dirt or bold of yard k of street 0 -/
theorem Kept_y {row : Nat → Int32} {τ : CS} {S0 : SP} {k f : Nat} {v : Int32} (hS0 : S0.1 ≤ 12) (hr0 : RRow row S0) (hk : k < S0.1) (hf : f = 0 ∨ f = 1 ∨ f = 2 ∨ f = 4) (hv : yrng f v) (h : Kept row τ 0) : Kept (upd row (10 + 5 * k + f) v) (sa τ 0 (af f) (upd (τ.2.1 0 (af f)) k v)) 0 := by
  obtain ⟨S, F0, F1, a1, a2, a3, ⟨t1, t2, t3⟩, a5, a6, a7, a8, a9, a10⟩ := h
  have hS := a1.1
  have hkS : k < S.1 := by rw [← RRow_n hr0 a2 hS0 hS]; exact hk
  have haf : af f ≠ 13 ∧ af f ≠ 15 := by unfold af; rcases hf with rfl | rfl | rfl | rfl <;> decide
  have hs : ∀ g, g ≠ af f → (sa τ 0 (af f) (upd (τ.2.1 0 (af f)) k v)).2.1 0 g = τ.2.1 0 g := fun g hg => by simp [sa, up2, hg]
  have hs1 : (sa τ 0 (af f) (upd (τ.2.1 0 (af f)) k v)).2.1 0 (af f) = upd (τ.2.1 0 (af f)) k v := by simp [sa, up2]
  have key : ∀ g j, g < 5 → g ≠ 3 → j < S.1 → τ.2.1 0 (af g) j = S.2.1 g j → (sa τ 0 (af f) (upd (τ.2.1 0 (af f)) k v)).2.1 0 (af g) j = if g = f ∧ j = k then v else S.2.1 g j := by
    intro g j hg hg3 hj he
    by_cases c : g = f
    · subst c
      rw [hs1]
      by_cases c2 : j = k
      · subst c2; rw [upd_eq, if_pos ⟨rfl, rfl⟩]
      · rw [upd_ne _ _ c2, if_neg (fun q => c2 q.2)]; exact he
    · have : af g ≠ af f := af_ne (by omega) hf c
      rw [hs _ this, if_neg (fun q => c q.1)]; exact he
  refine ⟨(S.1, fun g j => if g = f ∧ j = k then v else S.2.1 g j, S.2.2), F0, F1, ?_, ?_, ?_, ⟨?_, ?_, ?_⟩, a5, a6, a7.same (lsame_sa (by decide)), a8.up (by decide) (by omega), a9.same (lsame_sa (by decide)), a10.up (by decide) (by omega)⟩
  · obtain ⟨s1, s2, s3⟩ := a1
    refine ⟨s1, fun j hj => ?_, s3⟩
    obtain ⟨r0, r1, r2, r3, r4⟩ := s2 j hj
    refine ⟨?_, ?_, ?_, ?_, ?_⟩
    · show ∃ κ : Nat, κ < 7 ∧ (if 0 = f ∧ j = k then v else S.2.1 0 j) = nI κ
      split
      · next c => exact hv.1 c.1.symm
      · exact r0
    · show rng (if 1 = f ∧ j = k then v else S.2.1 1 j) 0 9
      split
      · next c => exact hv.2.1 c.1.symm
      · exact r1
    · show rng (if 2 = f ∧ j = k then v else S.2.1 2 j) 0 999
      split
      · next c => exact hv.2.2.1 c.1.symm
      · exact r2
    · show (if 3 = f ∧ j = k then v else S.2.1 3 j) = 0 ∨ (if 3 = f ∧ j = k then v else S.2.1 3 j) = 1
      rw [if_neg (by omega)]; exact r3
    · show rng (if 4 = f ∧ j = k then v else S.2.1 4 j) 0 99
      split
      · next c => exact hv.2.2.2 c.1.symm
      · exact r4
  · obtain ⟨s1, s2, s3, s4, s5, s6⟩ := a2
    refine ⟨by rw [upd_ne _ _ (by omega)]; exact s1, fun j hj g hg => ?_, ?_, ?_, ?_, ?_⟩
    · show upd row (10 + 5 * k + f) v (10 + 5 * j + g) = if g = f ∧ j = k then v else S.2.1 g j
      by_cases c : g = f ∧ j = k
      · rw [if_pos c, c.1, c.2, upd_eq]
      · rw [if_neg c, upd_ne _ _ (by omega)]; exact s2 j hj g hg
    · rw [upd_ne _ _ (by omega)]; exact s3
    · rw [upd_ne _ _ (by omega)]; exact s4
    · rw [upd_ne _ _ (by omega)]; exact s5
    · rw [upd_ne _ _ (by omega)]; exact s6
  · obtain ⟨s1, s2, ⟨c, c1, c2, c3⟩, s4⟩ := a3
    refine ⟨s1, fun j hj => ?_, ⟨c, c1, c2, fun j hj => ?_⟩, s4⟩
    · obtain ⟨r0, r1, r2, r4⟩ := s2 j hj
      exact ⟨key 0 j (by omega) (by omega) hj r0, key 1 j (by omega) (by omega) hj r1, key 2 j (by omega) (by omega) hj r2, key 4 j (by omega) (by omega) hj r4⟩
    · show (if 3 = f ∧ j = k then v else S.2.1 3 j) = _
      rw [if_neg (by omega)]; exact c3 j hj
  · obtain ⟨t, q1, q2, q3, q4⟩ := t1
    refine ⟨t, q1, by rw [upd_ne _ _ (by omega)]; exact q2, q3, fun j hj => ?_⟩
    rw [upd_ne _ _ (by omega), hs _ (Ne.symm haf.1)]; exact q4 j hj
  · obtain ⟨t, q1, q2, q3, q4⟩ := t2
    refine ⟨t, q1, by rw [upd_ne _ _ (by omega)]; exact q2, q3, fun j hj => ?_⟩
    rw [upd_ne _ _ (by omega), hs _ (Ne.symm haf.2)]; exact q4 j hj
  · rw [upd_ne _ _ (by omega)]; exact t3
