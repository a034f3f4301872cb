/-! the class's state: numbers (object, field), arrays (object, field), laws' numbers (street, field). Objects: 0 1 2 the streets, 3 reader, 4 speech, 5 the SweptRound, 6 the rows of numbers, 7 kinds, j + 8 law j (field 0 use, 1 steps, 2 stack); τ.2.2 7 0 laws there are, τ.2.2 (j + 8) 0 steps of law j -/
abbrev CS : Type := (Nat → Nat → Int32) × (Nat → Nat → Nat → Int32) × (Nat → Nat → Nat)
def up2 {α : Type} (f : Nat → Nat → α) (o k : Nat) (v : α) : Nat → Nat → α := fun a b => if a = o then (if b = k then v else f a b) else f a b
def si (τ : CS) (o f : Nat) (v : Int32) : CS := (up2 τ.1 o f v, τ.2.1, τ.2.2)
def sa (τ : CS) (o f : Nat) (h : Nat → Int32) : CS := (τ.1, up2 τ.2.1 o f h, τ.2.2)
def slw (τ : CS) (o f : Nat) (j : Nat) : CS := (τ.1, τ.2.1, up2 τ.2.2 o f j)
def sfs (A : Nat → Nat → Nat) (τ : CS) (d : Nat) : List Value := [.ref (A 7 7), .ref (A d 1), .ref (A d 2), .ref (A d 3), .ref (A d 4), .int (τ.1 d 5), .int (τ.1 d 6), .int (τ.1 d 7), .int (τ.1 d 8), .int (τ.1 d 9), .int (τ.1 d 10), .ref (A (τ.2.2 d 11 + 8) 99), .ref (A (τ.2.2 d 12 + 8) 99), .ref (A d 13), .int (τ.1 d 14), .ref (A d 15), .int (τ.1 d 16), .int (τ.1 d 17)]
def car (g : GP) (A : Nat → Nat → Nat) (τ : CS) (o f n : Nat) : Nat × va_E := (A o f, .inl (g.2.1 0, n, .inl (τ.2.1 o f)))
def wst (g : GP) (A : Nat → Nat → Nat) (τ : CS) (d : Nat) (X : va_W) : va_W := (A d 99, .inr (7, sfs A τ d)) :: car g A τ d 1 12 :: car g A τ d 2 12 :: car g A τ d 3 12 :: car g A τ d 4 12 :: car g A τ d 13 50 :: car g A τ d 15 20 :: X
def tfs (A : Nat → Nat → Nat) (τ : CS) : List Value := [.ref (A 0 99), .ref (A 1 99), .ref (A 2 99), .ref (A 3 99), .ref (A 4 99), .ref (A 5 5), .ref (A 5 6), .ref (A 5 7), .ref (A 5 8), .int (τ.1 5 9)]
def qfs (A : Nat → Nat → Nat) (τ : CS) : List Value := [.ref (A 3 0), .ref (A 3 1), .int (τ.1 3 2), .int (τ.1 3 3), .int (τ.1 3 4), .int (τ.1 3 5)]
def pfs (A : Nat → Nat → Nat) (τ : CS) : List Value := [.ref (A 4 0), .int (τ.1 4 1), .int (τ.1 4 2), .int (τ.1 4 3)]
def lfs (A : Nat → Nat → Nat) (τ : CS) (j : Nat) : List Value := [.int (τ.1 (j + 8) 0), .ref (A (j + 8) 1), .ref (A (j + 8) 2)]
def kcl (k : Nat) : Nat := [10, 8, 1, 9, 2, 3, 0].getD k 0
def lpool (g : GP) (A : Nat → Nat → Nat) (τ : CS) : Nat → va_W
  | 0 => []
  | n + 1 => lpool g A τ n ++ [(A (n + 8) 99, .inr (4, lfs A τ n)), car g A τ (n + 8) 1 (τ.2.2 (n + 8) 0), car g A τ (n + 8) 2 (τ.2.2 (n + 8) 0)]
def fx (g : GP) (A : Nat → Nat → Nat) (τ : CS) (X : va_W) : va_W :=
  (A 5 99, .inr (11, tfs A τ)) :: wst g A τ 0 (wst g A τ 1 (wst g A τ 2 ((A 3 99, .inr (5, qfs A τ)) :: car g A τ 3 0 50 :: car g A τ 3 1 50 :: (A 4 99, .inr (6, pfs A τ)) :: car g A τ 4 0 40 ::
  (A 7 7, .inl (g.2.1 1, 7, .inr (.inr (.inr (.inr (fun k => if k < 7 then some (A 7 (k + 10)) else none)))))) ::
  (A 7 10, .inr (10, [])) :: (A 7 11, .inr (8, [])) :: (A 7 12, .inr (1, [])) :: (A 7 13, .inr (9, [])) :: (A 7 14, .inr (2, [])) :: (A 7 15, .inr (3, [])) :: (A 7 16, .inr (0, [])) ::
  (A 5 5, .inl (g.2.1 2, 4, .inr (.inr (.inr (.inr (fun k => if k < 4 then some (A 6 k) else none)))))) :: car g A τ 6 0 40 :: car g A τ 6 1 40 :: car g A τ 6 2 40 :: car g A τ 6 3 40 ::
  car g A τ 5 6 4 :: car g A τ 5 7 4 :: car g A τ 5 8 6 :: X)))
def wC (g : GP) (A : Nat → Nat → Nat) (τ : CS) (X : va_W) : va_W := fx g A τ (lpool g A τ (τ.2.2 7 0) ++ X)
theorem lt3 {P : Nat → Prop} (h0 : P 0) (h1 : P 1) (h2 : P 2) {d : Nat} (hd : d < 3) : P d := by
  rcases (show d = 0 ∨ d = 1 ∨ d = 2 by omega) with rfl | rfl | rfl <;> assumption
theorem lt4 {P : Nat → Prop} (h0 : P 0) (h1 : P 1) (h2 : P 2) (h3 : P 3) {d : Nat} (hd : d < 4) : P d := by
  rcases (show d = 0 ∨ d = 1 ∨ d = 2 ∨ d = 3 by omega) with rfl | rfl | rfl | rfl <;> assumption
theorem lt7 {P : Nat → Prop} (h0 : P 0) (h1 : P 1) (h2 : P 2) (h3 : P 3) (h4 : P 4) (h5 : P 5) (h6 : P 6) {d : Nat} (hd : d < 7) : P d := by
  rcases (show d = 0 ∨ d = 1 ∨ d = 2 ∨ d = 3 ∨ d = 4 ∨ d = 5 ∨ d = 6 by omega) with rfl | rfl | rfl | rfl | rfl | rfl | rfl <;> assumption
theorem lpool_len (g : GP) (A : Nat → Nat → Nat) (τ : CS) : ∀ n, (lpool g A τ n).length = 3 * n
  | 0 => rfl
  | n + 1 => by
    show (lpool g A τ n ++ _).length = _
    rw [List.length_append, lpool_len g A τ n]
    show 3 * n + 3 = 3 * (n + 1)
    omega
theorem lpool_at (g : GP) (A : Nat → Nat → Nat) (τ : CS) (j : Nat) : ∀ n, j < n → (lpool g A τ n)[3 * j]? = some (A (j + 8) 99, .inr (4, lfs A τ j)) ∧ (lpool g A τ n)[3 * j + 1]? = some (car g A τ (j + 8) 1 (τ.2.2 (j + 8) 0)) ∧ (lpool g A τ n)[3 * j + 2]? = some (car g A τ (j + 8) 2 (τ.2.2 (j + 8) 0))
  | 0, h => by omega
  | n + 1, h => by
    have hl := lpool_len g A τ n
    by_cases e : j < n
    · have ih := lpool_at g A τ j n e
      refine ⟨?_, ?_, ?_⟩
      · rw [← ih.1]; exact List.getElem?_append_left (by rw [hl]; omega)
      · rw [← ih.2.1]; exact List.getElem?_append_left (by rw [hl]; omega)
      · rw [← ih.2.2]; exact List.getElem?_append_left (by rw [hl]; omega)
    · obtain rfl : j = n := by omega
      refine ⟨?_, ?_, ?_⟩
      · show (lpool g A τ j ++ _)[3 * j]? = _
        rw [List.getElem?_append_right (by rw [hl]; omega), hl]
        rw [show 3 * j - 3 * j = 0 by omega]
        rfl
      · show (lpool g A τ j ++ _)[3 * j + 1]? = _
        rw [List.getElem?_append_right (by rw [hl]; omega), hl]
        rw [show 3 * j + 1 - 3 * j = 1 by omega]
        rfl
      · show (lpool g A τ j ++ _)[3 * j + 2]? = _
        rw [List.getElem?_append_right (by rw [hl]; omega), hl]
        rw [show 3 * j + 2 - 3 * j = 2 by omega]
        rfl
theorem lpool_eq (g : GP) (A : Nat → Nat → Nat) (τ τ' : CS) : ∀ n, (∀ k, k < n → lfs A τ' k = lfs A τ k ∧ τ'.2.1 (k + 8) 1 = τ.2.1 (k + 8) 1 ∧ τ'.2.1 (k + 8) 2 = τ.2.1 (k + 8) 2 ∧ τ'.2.2 (k + 8) 0 = τ.2.2 (k + 8) 0) → lpool g A τ' n = lpool g A τ n
  | 0, _ => rfl
  | n + 1, h => by
    obtain ⟨h1, h2, h3, h4⟩ := h n (by omega)
    show lpool g A τ' n ++ _ = lpool g A τ n ++ _
    rw [lpool_eq g A τ τ' n (fun k hk => h k (by omega)), h1]
    unfold car
    rw [h2, h3, h4]
/-- a law's stack is written -/
theorem lpool_set (g : GP) (A : Nat → Nat → Nat) (τ : CS) (j : Nat) (h : Nat → Int32) : ∀ n, j < n → (lpool g A τ n).set (3 * j + 2) (A (j + 8) 2, .inl (g.2.1 0, τ.2.2 (j + 8) 0, .inl h)) = lpool g A (sa τ (j + 8) 2 h) n
  | 0, hj => by omega
  | n + 1, hj => by
    have hl := lpool_len g A τ n
    show (lpool g A τ n ++ _).set _ _ = lpool g A (sa τ (j + 8) 2 h) n ++ _
    by_cases e : j < n
    · rw [List.set_append_left _ _ (by rw [hl]; omega), lpool_set g A τ j h n e]
      congr 1
      have h1 : ¬ n = j := by omega
      simp [car, lfs, sa, up2, h1]
    · obtain rfl : j = n := by omega
      rw [List.set_append_right _ _ (by rw [hl]; omega), hl, show 3 * j + 2 - 3 * j = 2 by omega]
      rw [lpool_eq g A τ (sa τ (j + 8) 2 h) j (fun k hk => ?_)]
      · congr 1
        simp [car, lfs, sa, up2]
      · have h1 : ¬ k = j := by omega
        simp [lfs, sa, up2, h1]
theorem wC_law (g : GP) (A : Nat → Nat → Nat) (τ : CS) (X : va_W) (j : Nat) (hj : j < τ.2.2 7 0) : (wC g A τ X)[3 * j + 43]? = some (A (j + 8) 99, .inr (4, lfs A τ j)) ∧ (wC g A τ X)[3 * j + 1 + 43]? = some (car g A τ (j + 8) 1 (τ.2.2 (j + 8) 0)) ∧ (wC g A τ X)[3 * j + 2 + 43]? = some (car g A τ (j + 8) 2 (τ.2.2 (j + 8) 0)) := by
  have h := lpool_at g A τ j _ hj
  have hl := lpool_len g A τ (τ.2.2 7 0)
  refine ⟨?_, ?_, ?_⟩
  · show (lpool g A τ (τ.2.2 7 0) ++ X)[3 * j]? = _
    rw [← h.1]; exact List.getElem?_append_left (by rw [hl]; omega)
  · show (lpool g A τ (τ.2.2 7 0) ++ X)[3 * j + 1]? = _
    rw [← h.2.1]; exact List.getElem?_append_left (by rw [hl]; omega)
  · show (lpool g A τ (τ.2.2 7 0) ++ X)[3 * j + 2]? = _
    rw [← h.2.2]; exact List.getElem?_append_left (by rw [hl]; omega)

theorem lp_sa {g : GP} {A : Nat → Nat → Nat} {τ : CS} {o f n : Nat} {h : Nat → Int32} (ho : o < 8) : lpool g A (sa τ o f h) n = lpool g A τ n := by
  refine lpool_eq g A τ _ _ (fun k hk => ?_)
  have h1 : ¬ k + 8 = o := by omega
  refine ⟨rfl, ?_, ?_, rfl⟩ <;> simp [sa, up2, h1]
theorem lp_si {g : GP} {A : Nat → Nat → Nat} {τ : CS} {o f n : Nat} {v : Int32} (ho : o < 8) : lpool g A (si τ o f v) n = lpool g A τ n := by
  refine lpool_eq g A τ _ _ (fun k hk => ?_)
  have h1 : ¬ k + 8 = o := by omega
  refine ⟨?_, rfl, rfl, rfl⟩
  simp [lfs, si, up2, h1]
theorem wC_sa {g : GP} {A : Nat → Nat → Nat} {τ : CS} {X : va_W} {k o f : Nat} {h : Nat → Int32} {e : Nat × va_E} (ho : o < 8) (hs : ∀ Y, (fx g A τ Y).set k e = fx g A (sa τ o f h) Y) : (wC g A τ X).set k e = wC g A (sa τ o f h) X := by
  show (fx g A τ _).set k e = fx g A (sa τ o f h) (lpool g A (sa τ o f h) (τ.2.2 7 0) ++ X)
  rw [lp_sa ho]
  exact hs _
theorem wC_si {g : GP} {A : Nat → Nat → Nat} {τ : CS} {X : va_W} {k o f : Nat} {v : Int32} {e : Nat × va_E} (ho : o < 8) (hs : ∀ Y, (fx g A τ Y).set k e = fx g A (si τ o f v) Y) : (wC g A τ X).set k e = wC g A (si τ o f v) X := by
  show (fx g A τ _).set k e = fx g A (si τ o f v) (lpool g A (si τ o f v) (τ.2.2 7 0) ++ X)
  rw [lp_si ho]
  exact hs _
def AC (g : GP) (A : Nat → Nat → Nat) (k o f n : Nat) : Prop := ∀ (τ : CS) (X : va_W), (wC g A τ X)[k]? = some (car g A τ o f n) ∧ ∀ h : Nat → Int32, (wC g A τ X).set k (A o f, .inl (g.2.1 0, n, .inl h)) = wC g A (sa τ o f h) X
theorem aS1 {g : GP} {A : Nat → Nat → Nat} {d : Nat} (hd : d < 3) : AC g A (7 * d + 2) d 1 12 := lt3 (P := fun d => AC g A (7 * d + 2) d 1 12) (fun τ X => ⟨rfl, fun h => wC_sa (by decide) (fun Y => rfl)⟩) (fun τ X => ⟨rfl, fun h => wC_sa (by decide) (fun Y => rfl)⟩) (fun τ X => ⟨rfl, fun h => wC_sa (by decide) (fun Y => rfl)⟩) hd
theorem aS2 {g : GP} {A : Nat → Nat → Nat} {d : Nat} (hd : d < 3) : AC g A (7 * d + 3) d 2 12 := lt3 (P := fun d => AC g A (7 * d + 3) d 2 12) (fun τ X => ⟨rfl, fun h => wC_sa (by decide) (fun Y => rfl)⟩) (fun τ X => ⟨rfl, fun h => wC_sa (by decide) (fun Y => rfl)⟩) (fun τ X => ⟨rfl, fun h => wC_sa (by decide) (fun Y => rfl)⟩) hd
theorem aS3 {g : GP} {A : Nat → Nat → Nat} {d : Nat} (hd : d < 3) : AC g A (7 * d + 4) d 3 12 := lt3 (P := fun d => AC g A (7 * d + 4) d 3 12) (fun τ X => ⟨rfl, fun h => wC_sa (by decide) (fun Y => rfl)⟩) (fun τ X => ⟨rfl, fun h => wC_sa (by decide) (fun Y => rfl)⟩) (fun τ X => ⟨rfl, fun h => wC_sa (by decide) (fun Y => rfl)⟩) hd
theorem aS4 {g : GP} {A : Nat → Nat → Nat} {d : Nat} (hd : d < 3) : AC g A (7 * d + 5) d 4 12 := lt3 (P := fun d => AC g A (7 * d + 5) d 4 12) (fun τ X => ⟨rfl, fun h => wC_sa (by decide) (fun Y => rfl)⟩) (fun τ X => ⟨rfl, fun h => wC_sa (by decide) (fun Y => rfl)⟩) (fun τ X => ⟨rfl, fun h => wC_sa (by decide) (fun Y => rfl)⟩) hd
theorem aS13 {g : GP} {A : Nat → Nat → Nat} {d : Nat} (hd : d < 3) : AC g A (7 * d + 6) d 13 50 := lt3 (P := fun d => AC g A (7 * d + 6) d 13 50) (fun τ X => ⟨rfl, fun h => wC_sa (by decide) (fun Y => rfl)⟩) (fun τ X => ⟨rfl, fun h => wC_sa (by decide) (fun Y => rfl)⟩) (fun τ X => ⟨rfl, fun h => wC_sa (by decide) (fun Y => rfl)⟩) hd
theorem aS15 {g : GP} {A : Nat → Nat → Nat} {d : Nat} (hd : d < 3) : AC g A (7 * d + 7) d 15 20 := lt3 (P := fun d => AC g A (7 * d + 7) d 15 20) (fun τ X => ⟨rfl, fun h => wC_sa (by decide) (fun Y => rfl)⟩) (fun τ X => ⟨rfl, fun h => wC_sa (by decide) (fun Y => rfl)⟩) (fun τ X => ⟨rfl, fun h => wC_sa (by decide) (fun Y => rfl)⟩) hd
theorem aQ0 {g : GP} {A : Nat → Nat → Nat} : AC g A 23 3 0 50 := fun τ X => ⟨rfl, fun h => wC_sa (by decide) (fun Y => rfl)⟩
theorem aQ1 {g : GP} {A : Nat → Nat → Nat} : AC g A 24 3 1 50 := fun τ X => ⟨rfl, fun h => wC_sa (by decide) (fun Y => rfl)⟩
theorem aP0 {g : GP} {A : Nat → Nat → Nat} : AC g A 26 4 0 40 := fun τ X => ⟨rfl, fun h => wC_sa (by decide) (fun Y => rfl)⟩
theorem aT6 {g : GP} {A : Nat → Nat → Nat} : AC g A 40 5 6 4 := fun τ X => ⟨rfl, fun h => wC_sa (by decide) (fun Y => rfl)⟩
theorem aT7 {g : GP} {A : Nat → Nat → Nat} : AC g A 41 5 7 4 := fun τ X => ⟨rfl, fun h => wC_sa (by decide) (fun Y => rfl)⟩
theorem aT8 {g : GP} {A : Nat → Nat → Nat} : AC g A 42 5 8 6 := fun τ X => ⟨rfl, fun h => wC_sa (by decide) (fun Y => rfl)⟩
theorem aN {g : GP} {A : Nat → Nat → Nat} {s : Nat} (hs : s < 4) : AC g A (s + 36) 6 s 40 := lt4 (P := fun s => AC g A (s + 36) 6 s 40) (fun τ X => ⟨rfl, fun h => wC_sa (by decide) (fun Y => rfl)⟩) (fun τ X => ⟨rfl, fun h => wC_sa (by decide) (fun Y => rfl)⟩) (fun τ X => ⟨rfl, fun h => wC_sa (by decide) (fun Y => rfl)⟩) (fun τ X => ⟨rfl, fun h => wC_sa (by decide) (fun Y => rfl)⟩) hs
theorem eT (g : GP) (A : Nat → Nat → Nat) (τ : CS) (X : va_W) : (wC g A τ X)[0]? = some (A 5 99, .inr (11, tfs A τ)) := rfl
theorem eQ (g : GP) (A : Nat → Nat → Nat) (τ : CS) (X : va_W) : (wC g A τ X)[22]? = some (A 3 99, .inr (5, qfs A τ)) := rfl
theorem eP (g : GP) (A : Nat → Nat → Nat) (τ : CS) (X : va_W) : (wC g A τ X)[25]? = some (A 4 99, .inr (6, pfs A τ)) := rfl
theorem eS {g : GP} {A : Nat → Nat → Nat} {τ : CS} {X : va_W} {d : Nat} (hd : d < 3) : (wC g A τ X)[7 * d + 1]? = some (A d 99, .inr (7, sfs A τ d)) := lt3 (P := fun d => (wC g A τ X)[7 * d + 1]? = some (A d 99, .inr (7, sfs A τ d))) rfl rfl rfl hd
theorem eKd {g : GP} {A : Nat → Nat → Nat} {τ : CS} {X : va_W} {κ : Nat} (hk : κ < 7) : (wC g A τ X)[κ + 28]? = some (A 7 (κ + 10), .inr (kcl κ, [])) := lt7 (P := fun κ => (wC g A τ X)[κ + 28]? = some (A 7 (κ + 10), .inr (kcl κ, []))) rfl rfl rfl rfl rfl rfl rfl hk
theorem uS {g : GP} {A : Nat → Nat → Nat} {τ : CS} {X : va_W} {d f : Nat} {v : Int32} (hd : d < 3) (hf : f ∈ [5, 6, 7, 8, 9, 10, 14, 16, 17]) : (wC g A τ X).set (7 * d + 1) (A d 99, .inr (7, (sfs A τ d).set f (.int v))) = wC g A (si τ d f v) X := by
  simp only [List.mem_cons, List.not_mem_nil, or_false] at hf
  rcases (show d = 0 ∨ d = 1 ∨ d = 2 by omega) with rfl | rfl | rfl <;> rcases hf with rfl | rfl | rfl | rfl | rfl | rfl | rfl | rfl | rfl <;> exact wC_si (by decide) (fun Y => rfl)
theorem uL {g : GP} {A : Nat → Nat → Nat} {τ : CS} {X : va_W} {d f j : Nat} (hd : d < 3) (hf : f ∈ [11, 12]) : (wC g A τ X).set (7 * d + 1) (A d 99, .inr (7, (sfs A τ d).set f (.ref (A (j + 8) 99)))) = wC g A (slw τ d f j) X := by
  simp only [List.mem_cons, List.not_mem_nil, or_false] at hf
  have hp : lpool g A (slw τ d f j) (τ.2.2 7 0) = lpool g A τ (τ.2.2 7 0) := by
    refine lpool_eq g A τ _ _ (fun k hk => ⟨rfl, rfl, rfl, ?_⟩)
    have h1 : ¬ k + 8 = d := by omega
    simp [slw, up2, h1]
  rcases (show d = 0 ∨ d = 1 ∨ d = 2 by omega) with rfl | rfl | rfl <;> rcases hf with rfl | rfl <;> (show (fx g A τ _).set _ _ = fx g A _ (lpool g A _ (τ.2.2 7 0) ++ X); rw [hp]; rfl)
theorem uT {g : GP} {A : Nat → Nat → Nat} {τ : CS} {X : va_W} {v : Int32} : (wC g A τ X).set 0 (A 5 99, .inr (11, (tfs A τ).set 9 (.int v))) = wC g A (si τ 5 9 v) X := wC_si (by decide) (fun Y => rfl)
theorem uQ {g : GP} {A : Nat → Nat → Nat} {τ : CS} {X : va_W} {f : Nat} {v : Int32} (hf : f ∈ [2, 3, 4, 5]) : (wC g A τ X).set 22 (A 3 99, .inr (5, (qfs A τ).set f (.int v))) = wC g A (si τ 3 f v) X := by
  simp only [List.mem_cons, List.not_mem_nil, or_false] at hf
  rcases hf with rfl | rfl | rfl | rfl <;> exact wC_si (by decide) (fun Y => rfl)
theorem uP {g : GP} {A : Nat → Nat → Nat} {τ : CS} {X : va_W} {f : Nat} {v : Int32} (hf : f ∈ [1, 2, 3]) : (wC g A τ X).set 25 (A 4 99, .inr (6, (pfs A τ).set f (.int v))) = wC g A (si τ 4 f v) X := by
  simp only [List.mem_cons, List.not_mem_nil, or_false] at hf
  rcases hf with rfl | rfl | rfl <;> exact wC_si (by decide) (fun Y => rfl)

