/-! THE PURE PART: the relation of the class's state and the reference's -/
theorem ob_s {α β γ : Type} (a : α) (b : β) (k : α → β → Option γ) : ob (some (a, b)) k = k a b := rfl
theorem gd_t {α : Type} {b : Bool} {k : Option α} (h : b = true) : gd b k = k := by unfold gd; rw [if_pos h]
theorem lt_e {α β : Type} (x : α) (k : α → β) : lt x k = k x := rfl
/-- only stacks of laws differ -/
def ceq (τ τ' : CS) : Prop := τ'.1 = τ.1 ∧ τ'.2.2 = τ.2.2 ∧ ∀ o f, ¬ (8 ≤ o ∧ f = 2) → τ'.2.1 o f = τ.2.1 o f
/-- only what the parser leaves differs -/
def req (σ σ' : RS) : Prop := σ'.2 = σ.2 ∧ ∀ f, ¬ (7 ≤ f ∧ f ≤ 14) → σ'.1 f = σ.1 f
theorem ceq.rf (τ : CS) : ceq τ τ := ⟨rfl, rfl, fun _ _ _ => rfl⟩
theorem req.rf (σ : RS) : req σ σ := ⟨rfl, fun _ _ => rfl⟩
theorem ceq.tr {a b c : CS} (h : ceq a b) (h2 : ceq b c) : ceq a c := ⟨h2.1.trans h.1, h2.2.1.trans h.2.1, fun o f q => (h2.2.2 o f q).trans (h.2.2 o f q)⟩
theorem req.tr {a b c : RS} (h : req a b) (h2 : req b c) : req a c := ⟨h2.1.trans h.1, fun f q => (h2.2 f q).trans (h.2 f q)⟩
abbrev LF : Type := Int32 → Int32 → Int32 → Int32
/-- law j of the class gives F -/
def LawC (τ : CS) (j : Nat) (F : LF) : Prop := j < τ.2.2 7 0 ∧ ∀ τ' : CS, (τ'.1 (j + 8) 0 = τ.1 (j + 8) 0 ∧ τ'.2.1 (j + 8) 1 = τ.2.1 (j + 8) 1 ∧ τ'.2.2 (j + 8) 0 = τ.2.2 (j + 8) 0 ∧ j < τ'.2.2 7 0) → ∀ a b c : Int32, ∃ τ'' : CS, N_L_give j a b c τ' = some (F a b c, τ'') ∧ ceq τ' τ''
/-- the TEXT of use u in a row gives F -/
def LawR (row : Nat → Int32) (u : Nat) (F : LF) : Prop := ∀ σ : RS, (σ.2 0 (5 + u) = row (5 + u) ∧ ∀ i, i < 50 → σ.2 0 (140 + 50 * u + i) = row (140 + 50 * u + i)) → ∀ a b c : Int32, ∃ σ' : RS, M_lawOf (nI u) a b c σ = some (F a b c, σ') ∧ req σ σ'
def FR0 (F : LF) : Prop := ∀ a b c : Int32, 0 ≤ (F a b c).toInt ∧ (F a b c).toInt ≤ 99
def FR1 (F : LF) : Prop := ∀ a b c : Int32, F a b c = 0 ∨ F a b c = 1
/-- a street: how many yards; field (0 kind, 1 m, 2 dirt, 3 car, 4 bold) of a yard; 0 day, 1 wind, 2 fine, 3 pence -/
abbrev SP : Type := Nat × (Nat → Nat → Int32) × (Nat → Int32)
def rng (x : Int32) (a b : Int) : Prop := a ≤ x.toInt ∧ x.toInt ≤ b
def SPok (S : SP) (D : Int) : Prop := S.1 ≤ 12 ∧ (∀ k, k < S.1 → (∃ κ : Nat, κ < 7 ∧ S.2.1 0 k = nI κ) ∧ rng (S.2.1 1 k) 0 9 ∧ rng (S.2.1 2 k) 0 999 ∧ (S.2.1 3 k = 0 ∨ S.2.1 3 k = 1) ∧ rng (S.2.1 4 k) 0 99) ∧ rng (S.2.2 0) 0 D ∧ rng (S.2.2 1) 0 9 ∧ rng (S.2.2 2) 0 99 ∧ rng (S.2.2 3) 0 99999
def RRow (row : Nat → Int32) (S : SP) : Prop := row 2 = nI S.1 ∧ (∀ k, k < S.1 → ∀ f, f < 5 → row (10 + 5 * k + f) = S.2.1 f k) ∧ row 0 = S.2.2 0 ∧ row 7 = S.2.2 1 ∧ row 8 = S.2.2 2 ∧ row 9 = S.2.2 3
def CStr (τ : CS) (d : Nat) (S : SP) : Prop := τ.1 d 5 = nI S.1 ∧ (∀ k, k < S.1 → τ.2.1 d 1 k = S.2.1 0 k ∧ τ.2.1 d 2 k = S.2.1 1 k ∧ τ.2.1 d 3 k = S.2.1 2 k ∧ τ.2.1 d 4 k = S.2.1 4 k) ∧ (∃ c : Nat, c < 2 ^ S.1 ∧ τ.1 d 6 = nI c ∧ ∀ k, k < S.1 → S.2.1 3 k = nI (c / 2 ^ k % 2)) ∧ τ.1 d 7 = S.2.2 0 ∧ τ.1 d 8 = S.2.2 1 ∧ τ.1 d 9 = S.2.2 2 ∧ τ.1 d 10 = S.2.2 3
/-- tape, numbers that wait, z -/
def TWz (row : Nat → Int32) (τ : CS) (d : Nat) : Prop := (∃ t : Nat, t ≤ 50 ∧ row 3 = nI t ∧ τ.1 d 14 = nI t ∧ ∀ i, i < t → row (70 + i) = τ.2.1 d 13 i ∧ ∃ v : Nat, v < 256 ∧ τ.2.1 d 13 i = nI v) ∧ (∃ w : Nat, w ≤ 20 ∧ row 4 = nI w ∧ τ.1 d 16 = nI w ∧ ∀ i, i < w → row (120 + i) = τ.2.1 d 15 i) ∧ row 1 = τ.1 d 17
/-- all that an image keeps: street d of the class, a row of the reference -/
def Kept (row : Nat → Int32) (τ : CS) (d : Nat) : Prop := ∃ (S : SP) (F0 F1 : LF), SPok S 9999 ∧ RRow row S ∧ CStr τ d S ∧ TWz row τ d ∧ FR0 F0 ∧ FR1 F1 ∧ LawC τ (τ.2.2 d 11) F0 ∧ LawR row 0 F0 ∧ LawC τ (τ.2.2 d 12) F1 ∧ LawR row 1 F1
def Shts (τ : CS) (σ : RS) : Prop := (∀ s, s < 4 → (τ.2.1 5 6 s = 0 ∨ τ.2.1 5 6 s = 8 ∨ τ.2.1 5 6 s = 16 ∨ τ.2.1 5 6 s = 32) ∧ σ.2 16 s = τ.2.1 5 6 s ∧ ∃ n : Nat, n ≤ 40 ∧ τ.2.1 5 7 s = nI n ∧ σ.2 17 s = nI n ∧ (τ.2.1 5 6 s = 0 → n = 0)) ∧ ∀ s, s < 4 → ∀ i, i < 40 → σ.2 18 (40 * s + i) = τ.2.1 6 s i
def Trc (τ : CS) (σ : RS) : Prop := ∃ n : Nat, n ≤ 40 ∧ τ.1 4 1 = nI n ∧ σ.1 21 = nI n ∧ ∀ i, i < n → σ.2 20 i = τ.2.1 4 0 i
def Errs (τ : CS) (σ : RS) : Prop := ∀ j, j < 6 → σ.2 6 j = τ.2.1 5 8 j
def Imgs (k : Nat) (τ : CS) (σ : RS) : Prop := ∃ i : Nat, i ≤ k ∧ τ.1 5 9 = nI i ∧ σ.1 5 = nI i ∧ σ.1 4 = (if i = 0 then 0 else 1) ∧ (i ≠ 0 → Kept (σ.2 1) τ 2)
/-- behind k calls -/
def Inv (k : Nat) (τ : CS) (σ : RS) : Prop := Kept (σ.2 0) τ 0 ∧ Imgs k τ σ ∧ Shts τ σ ∧ Trc τ σ ∧ Errs τ σ ∧ σ.1 15 = 0 ∧ lawsok τ = true ∧ ∃ n : Nat, n ≤ 2 + k ∧ τ.2.2 7 0 = n
theorem Inv_mono : ∀ k τ σ, Inv k τ σ → Inv (k + 1) τ σ := by
  intro k τ σ ⟨h1, ⟨i, hi, hi2⟩, h3, h4, h5, h6, h7, n, hn, hn2⟩
  exact ⟨h1, ⟨i, by omega, hi2⟩, h3, h4, h5, h6, h7, n, by omega, hn2⟩
