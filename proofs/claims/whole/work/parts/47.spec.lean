/-! what a day does: the common functions -/
def fallK (κ : Nat) (v m c t w : Int32) : Int32 := match κ with
  | 0 => v
  | 1 => v - irm m 3
  | 2 => v / 2
  | 3 => v + c
  | 4 => 2 * (v - irm m 3)
  | 5 => v / 2 + (if irm t 7 = 0 then m else 0)
  | _ => v + c + w
def takK (κ : Nat) (x : Int32) : Int32 := match κ with
  | 0 => x
  | 1 => x - irm x 2
  | 2 => x / 2
  | 3 => if 50 < x then 50 else x
  | 4 => if 99 < x - irm x 2 then 99 else x - irm x 2
  | 5 => if x < x / 2 + 10 then x else x / 2 + 10
  | _ => if 50 < x then 50 else x
theorem Dfallen_e (κ : Nat) (v m c t w : Int32) (σ : CS) : D_fallen κ v m c t w σ = some (fallK κ v m c t w, σ) := by
  match κ with
  | 0 => rfl
  | 1 => rfl
  | 2 => rfl
  | 3 => rfl
  | 4 => rfl
  | 5 => rfl
  | n + 6 => rfl
theorem Dtaken_e (κ : Nat) (x : Int32) (σ : CS) : D_taken κ x σ = some (takK κ x, σ) := by
  match κ with
  | 0 => rfl
  | 1 => rfl
  | 2 => rfl
  | 3 => rfl
  | 4 => rfl
  | 5 => rfl
  | n + 6 => rfl
def mx0 (v : Int32) : Int32 := if 0 < v then v else 0
def mnv (m v : Int32) : Int32 := if v < m then v else m
/-- only dirt, day, pence of street d differ, and stacks of laws -/
def fr (d : Nat) (τ τ' : CS) : Prop := τ'.2.2 = τ.2.2 ∧ (∀ o f, ¬ (o = d ∧ (f = 7 ∨ f = 10)) → τ'.1 o f = τ.1 o f) ∧ ∀ o f, ¬ (o = d ∧ f = 3) → ¬ (8 ≤ o ∧ f = 2) → τ'.2.1 o f = τ.2.1 o f
/-- only yards, day, pence of the row differ, and what the parser leaves -/
def frr (σ σ' : RS) : Prop := (∀ f, ¬ (7 ≤ f ∧ f ≤ 14) → σ'.1 f = σ.1 f) ∧ (∀ f, f ≠ 0 → σ'.2 f = σ.2 f) ∧ ∀ i, (i ≠ 0 ∧ i ≠ 9 ∧ (i < 10 ∨ 70 ≤ i)) → σ'.2 0 i = σ.2 0 i
theorem fr.rf (d : Nat) (τ : CS) : fr d τ τ := ⟨rfl, fun _ _ _ => rfl, fun _ _ _ _ => rfl⟩
theorem frr.rf (σ : RS) : frr σ σ := ⟨fun _ _ => rfl, fun _ _ => rfl, fun _ _ => rfl⟩
theorem fr.tr {d : Nat} {a b c : CS} (h : fr d a b) (h2 : fr d b c) : fr d a c := ⟨h2.1.trans h.1, fun o f x => (h2.2.1 o f x).trans (h.2.1 o f x), fun o f x y => (h2.2.2 o f x y).trans (h.2.2 o f x y)⟩
theorem frr.tr {a b c : RS} (h : frr a b) (h2 : frr b c) : frr a c := ⟨fun f x => (h2.1 f x).trans (h.1 f x), fun f x => (h2.2.1 f x).trans (h.2.1 f x), fun i x => (h2.2.2 i x).trans (h.2.2 i x)⟩
theorem ceq_fr {d : Nat} {a b : CS} (h : ceq a b) : fr d a b := ⟨h.2.1, fun o f _ => by rw [h.1], fun o f _ q => h.2.2 o f q⟩
theorem req_frr {a b : RS} (h : req a b) : frr a b := ⟨fun f q => h.2 f q, fun f _ => by rw [h.1], fun i _ => by rw [h.1]⟩
theorem fr_l {d : Nat} {a b : CS} (hd : d < 8) (h : fr d a b) : lsame a b := ⟨fun j => ⟨h.2.1 _ _ (by omega), h.2.2 _ _ (by omega) (by omega), by rw [h.1]⟩, by rw [h.1]⟩
theorem frr_L {a b : RS} {u : Nat} {F : LF} (hu : u < 2) (h : frr a b) (hl : LawR (a.2 0) u F) : LawR (b.2 0) u F := hl.cg (h.2.2 _ (by omega)) (fun i hi => h.2.2 _ (by omega))
theorem fr_sa {d : Nat} {τ : CS} {v : Nat → Int32} : fr d τ (sa τ d 3 v) := ⟨rfl, fun _ _ _ => rfl, fun o f x _ => by
  have : ¬ (o = d ∧ f = 3) := x
  by_cases c : o = d
  · have h2 : f ≠ 3 := fun q => this ⟨c, q⟩
    simp [sa, up2, h2]
  · simp [sa, up2, c]⟩
theorem fr_si {d g : Nat} {τ : CS} {v : Int32} (hg : g = 7 ∨ g = 10) : fr d τ (si τ d g v) := ⟨rfl, fun o f x => by
  by_cases c : o = d
  · have h2 : f ≠ g := by omega
    simp [si, up2, h2]
  · simp [si, up2, c], fun _ _ _ _ => rfl⟩
theorem frr_ra {σ : RS} {i : Nat} {v : Int32} (hi : i = 0 ∨ i = 9 ∨ (10 ≤ i ∧ i < 70)) : frr σ (ra σ 0 (upd (σ.2 0) i v)) := ⟨fun _ _ => rfl, fun f hf => ra_ne _ _ hf, fun j hj => by rw [ra_eq, upd_ne _ _ (by omega)]⟩
/-- a street at work: dirt, pence, day -/
def wS (S : SP) (f : Nat → Int32) (p t : Int32) : SP := (S.1, fun g j => if g = 2 then f j else S.2.1 g j, fun i => if i = 0 then t else if i = 3 then p else S.2.2 i)
theorem wS_0 (S : SP) : wS S (S.2.1 2) (S.2.2 3) (S.2.2 0) = S := by
  obtain ⟨n, g, h⟩ := S
  unfold wS
  have e1 : (fun q j => if q = 2 then g 2 j else g q j) = g := by
    funext q j
    by_cases c : q = 2
    · subst c; simp
    · simp [c]
  have e2 : (fun i => if i = 0 then h 0 else if i = 3 then h 3 else h i) = h := by
    funext i
    by_cases c : i = 0
    · subst c; simp
    · by_cases c2 : i = 3
      · subst c2; simp
      · simp [c, c2]
  show (n, (fun q j => if q = 2 then g 2 j else g q j), (fun i => if i = 0 then h 0 else if i = 3 then h 3 else h i)) = (n, g, h)
  rw [e1, e2]
theorem wS_2 (S : SP) (f f' : Nat → Int32) (p p' t t' : Int32) : wS (wS S f p t) f' p' t' = wS S f' p' t' := by
  unfold wS
  congr 1
  congr 1
  · funext g j
    by_cases c : g = 2 <;> simp [c]
  · funext i
    by_cases c : i = 0
    · simp [c]
    · by_cases c2 : i = 3 <;> simp [c, c2]
def CW (τ0 : CS) (d : Nat) (S : SP) (τ : CS) : Prop := CStr τ d S ∧ fr d τ0 τ
def RW (σ0 : RS) (S : SP) (σ : RS) : Prop := RRow (σ.2 0) S ∧ frr σ0 σ
def CL (τ0 : CS) (d : Nat) (F0 F1 : LF) : Prop := d < 2 ∧ LawC τ0 (τ0.2.2 d 11) F0 ∧ LawC τ0 (τ0.2.2 d 12) F1
def RLw (σ0 : RS) (F0 F1 : LF) : Prop := LawR (σ0.2 0) 0 F0 ∧ LawR (σ0.2 0) 1 F1
theorem CW.dirt {τ0 τ : CS} {d k : Nat} {S : SP} {f : Nat → Int32} {p t v : Int32} (h : CW τ0 d (wS S f p t) τ) : CW τ0 d (wS S (upd f k v) p t) (sa τ d 3 (upd (τ.2.1 d 3) k v)) := by
  obtain ⟨⟨a, b, c, e⟩, g⟩ := h
  refine ⟨⟨a, fun j hj => ?_, c, e⟩, g.tr fr_sa⟩
  obtain ⟨b1, b2, b3, b4⟩ := b j hj
  have e3 : (sa τ d 3 (upd (τ.2.1 d 3) k v)).2.1 d 3 = upd (τ.2.1 d 3) k v := by simp [sa, up2]
  have e4 : ∀ q, q ≠ 3 → (sa τ d 3 (upd (τ.2.1 d 3) k v)).2.1 d q = τ.2.1 d q := fun q hq => by simp [sa, up2, hq]
  rw [e4 _ (by decide), e4 _ (by decide), e4 4 (by decide), e3]
  refine ⟨b1, b2, ?_, b4⟩
  show upd (τ.2.1 d 3) k v j = upd f k v j
  by_cases q : j = k
  · subst q; rw [upd_eq, upd_eq]
  · rw [upd_ne _ _ q, upd_ne _ _ q]; exact b3
theorem CW.pen {τ0 τ : CS} {d : Nat} {S : SP} {f : Nat → Int32} {p t v : Int32} (h : CW τ0 d (wS S f p t) τ) : CW τ0 d (wS S f v t) (si τ d 10 v) := by
  obtain ⟨⟨a, b, c, e1, e2, e3, e4⟩, g⟩ := h
  have k1 : ∀ q, q ≠ 10 → (si τ d 10 v).1 d q = τ.1 d q := fun q hq => by simp [si, up2, hq]
  refine ⟨⟨by rw [k1 _ (by decide)]; exact a, b, by rw [k1 _ (by decide)]; exact c, by rw [k1 _ (by decide)]; exact e1, by rw [k1 _ (by decide)]; exact e2, by rw [k1 _ (by decide)]; exact e3, ?_⟩, g.tr (fr_si (Or.inr rfl))⟩
  show (si τ d 10 v).1 d 10 = v
  simp [si, up2]
theorem CW.day {τ0 τ : CS} {d : Nat} {S : SP} {f : Nat → Int32} {p t v : Int32} (h : CW τ0 d (wS S f p t) τ) : CW τ0 d (wS S f p v) (si τ d 7 v) := by
  obtain ⟨⟨a, b, c, e1, e2, e3, e4⟩, g⟩ := h
  have k1 : ∀ q, q ≠ 7 → (si τ d 7 v).1 d q = τ.1 d q := fun q hq => by simp [si, up2, hq]
  refine ⟨⟨by rw [k1 _ (by decide)]; exact a, b, by rw [k1 _ (by decide)]; exact c, ?_, by rw [k1 _ (by decide)]; exact e2, by rw [k1 _ (by decide)]; exact e3, by rw [k1 _ (by decide)]; exact e4⟩, g.tr (fr_si (Or.inl rfl))⟩
  show (si τ d 7 v).1 d 7 = v
  simp [si, up2]
theorem CW.ceq {τ0 τ τ' : CS} {d : Nat} {S : SP} (hd : d < 8) (h : CW τ0 d S τ) (q : ceq τ τ') : CW τ0 d S τ' := ⟨h.1.same (ceq_dsame hd q), h.2.tr (ceq_fr q)⟩
theorem RW.dirt {σ0 σ : RS} {k : Nat} {S : SP} {f : Nat → Int32} {p t v : Int32} (hS : S.1 ≤ 12) (hk : k < S.1) (h : RW σ0 (wS S f p t) σ) : RW σ0 (wS S (upd f k v) p t) (ra σ 0 (upd (σ.2 0) (10 + 5 * k + 2) v)) := by
  obtain ⟨⟨a, b, e1, e2, e3, e4⟩, g⟩ := h
  refine ⟨?_, g.tr (frr_ra (by omega))⟩
  rw [ra_eq]
  refine ⟨by rw [upd_ne _ _ (by omega)]; exact a, fun j hj q hq => ?_, by rw [upd_ne _ _ (by omega)]; exact e1, by rw [upd_ne _ _ (by omega)]; exact e2, by rw [upd_ne _ _ (by omega)]; exact e3, by rw [upd_ne _ _ (by omega)]; exact e4⟩
  have b1 : σ.2 0 (10 + 5 * j + q) = if q = 2 then f j else S.2.1 q j := b j hj q hq
  show upd (σ.2 0) (10 + 5 * k + 2) v (10 + 5 * j + q) = if q = 2 then upd f k v j else S.2.1 q j
  by_cases c : q = 2
  · subst c
    rw [if_pos rfl]
    rw [if_pos rfl] at b1
    by_cases c2 : j = k
    · subst c2; rw [upd_eq, upd_eq]
    · rw [upd_ne _ _ (by omega), upd_ne _ _ c2]; exact b1
  · rw [if_neg c]
    rw [if_neg c] at b1
    rw [upd_ne _ _ (by omega)]; exact b1
theorem RW.pen {σ0 σ : RS} {S : SP} {f : Nat → Int32} {p t v : Int32} (h : RW σ0 (wS S f p t) σ) : RW σ0 (wS S f v t) (ra σ 0 (upd (σ.2 0) 9 v)) := by
  obtain ⟨⟨a, b, e1, e2, e3, e4⟩, g⟩ := h
  refine ⟨?_, g.tr (frr_ra (by omega))⟩
  rw [ra_eq]
  refine ⟨by rw [upd_ne _ _ (by omega)]; exact a, fun j hj q hq => by rw [upd_ne _ _ (by omega)]; exact b j hj q hq, by rw [upd_ne _ _ (by omega)]; exact e1, by rw [upd_ne _ _ (by omega)]; exact e2, by rw [upd_ne _ _ (by omega)]; exact e3, ?_⟩
  rw [upd_eq]; rfl
theorem RW.day {σ0 σ : RS} {S : SP} {f : Nat → Int32} {p t v : Int32} (h : RW σ0 (wS S f p t) σ) : RW σ0 (wS S f p v) (ra σ 0 (upd (σ.2 0) 0 v)) := by
  obtain ⟨⟨a, b, e1, e2, e3, e4⟩, g⟩ := h
  refine ⟨?_, g.tr (frr_ra (by omega))⟩
  rw [ra_eq]
  refine ⟨by rw [upd_ne _ _ (by omega)]; exact a, fun j hj q hq => by rw [upd_ne _ _ (by omega)]; exact b j hj q hq, ?_, by rw [upd_ne _ _ (by omega)]; exact e2, by rw [upd_ne _ _ (by omega)]; exact e3, by rw [upd_ne _ _ (by omega)]; exact e4⟩
  rw [upd_eq]; rfl
theorem RW.req {σ0 σ σ' : RS} {S : SP} (h : RW σ0 S σ) (q : req σ σ') : RW σ0 S σ' := ⟨by rw [q.1]; exact h.1, h.2.tr (req_frr q)⟩
