/-! the two readers, step by step -/
def lvl (b : Int32) : Int32 := if b = 37 then 4 else if b = 38 then 1 else if b = 42 then 4 else if b = 43 then 3 else if b = 45 then 3 else if b = 47 then 4 else if b = 60 then 2 else if b = 61 then 2 else if b = 62 then 2 else if b = 124 then 0 else -1
theorem ite_some {α β : Type} {c : Prop} [Decidable c] (x y : α) (s : β) : (if c then some (x, s) else some (y, s)) = some ((if c then x else y), s) := by split <;> rfl
theorem levelOf_e (b : Int32) (σ : CS) : N_Q_levelOf b σ = some (lvl b, σ) := by simp only [N_Q_levelOf, lvl, ite_some]
theorem lvl_isop {b : Int32} (h : lvl b ≠ -1) : isop b := by
  unfold lvl at h
  unfold isop
  by_cases c37 : b = 37
  · simp [c37]
  rw [if_neg c37] at h
  by_cases c38 : b = 38
  · simp [c38]
  rw [if_neg c38] at h
  by_cases c42 : b = 42
  · simp [c42]
  rw [if_neg c42] at h
  by_cases c43 : b = 43
  · simp [c43]
  rw [if_neg c43] at h
  by_cases c45 : b = 45
  · simp [c45]
  rw [if_neg c45] at h
  by_cases c47 : b = 47
  · simp [c47]
  rw [if_neg c47] at h
  by_cases c60 : b = 60
  · simp [c60]
  rw [if_neg c60] at h
  by_cases c61 : b = 61
  · simp [c61]
  rw [if_neg c61] at h
  by_cases c62 : b = 62
  · simp [c62]
  rw [if_neg c62] at h
  by_cases c124 : b = 124
  · simp [c124]
  rw [if_neg c124] at h
  exact absurd rfl h
theorem lvl_4 {b : Int32} (h : lvl b = 4) : b = 37 ∨ b = 42 ∨ b = 47 := by
  unfold lvl at h
  by_cases c37 : b = 37
  · simp [c37]
  rw [if_neg c37] at h
  by_cases c38 : b = 38
  · rw [if_pos c38] at h; exact absurd h (by decide)
  rw [if_neg c38] at h
  by_cases c42 : b = 42
  · simp [c42]
  rw [if_neg c42] at h
  by_cases c43 : b = 43
  · rw [if_pos c43] at h; exact absurd h (by decide)
  rw [if_neg c43] at h
  by_cases c45 : b = 45
  · rw [if_pos c45] at h; exact absurd h (by decide)
  rw [if_neg c45] at h
  by_cases c47 : b = 47
  · simp [c47]
  rw [if_neg c47] at h
  by_cases c60 : b = 60
  · rw [if_pos c60] at h; exact absurd h (by decide)
  rw [if_neg c60] at h
  by_cases c61 : b = 61
  · rw [if_pos c61] at h; exact absurd h (by decide)
  rw [if_neg c61] at h
  by_cases c62 : b = 62
  · rw [if_pos c62] at h; exact absurd h (by decide)
  rw [if_neg c62] at h
  by_cases c124 : b = 124
  · rw [if_pos c124] at h; exact absurd h (by decide)
  rw [if_neg c124] at h
  exact absurd h (by decide)
theorem lvl_3 {b : Int32} (h : lvl b = 3) : b = 43 ∨ b = 45 := by
  unfold lvl at h
  by_cases c37 : b = 37
  · rw [if_pos c37] at h; exact absurd h (by decide)
  rw [if_neg c37] at h
  by_cases c38 : b = 38
  · rw [if_pos c38] at h; exact absurd h (by decide)
  rw [if_neg c38] at h
  by_cases c42 : b = 42
  · rw [if_pos c42] at h; exact absurd h (by decide)
  rw [if_neg c42] at h
  by_cases c43 : b = 43
  · simp [c43]
  rw [if_neg c43] at h
  by_cases c45 : b = 45
  · simp [c45]
  rw [if_neg c45] at h
  by_cases c47 : b = 47
  · rw [if_pos c47] at h; exact absurd h (by decide)
  rw [if_neg c47] at h
  by_cases c60 : b = 60
  · rw [if_pos c60] at h; exact absurd h (by decide)
  rw [if_neg c60] at h
  by_cases c61 : b = 61
  · rw [if_pos c61] at h; exact absurd h (by decide)
  rw [if_neg c61] at h
  by_cases c62 : b = 62
  · rw [if_pos c62] at h; exact absurd h (by decide)
  rw [if_neg c62] at h
  by_cases c124 : b = 124
  · rw [if_pos c124] at h; exact absurd h (by decide)
  rw [if_neg c124] at h
  exact absurd h (by decide)
theorem lvl_2 {b : Int32} (h : lvl b = 2) : b = 60 ∨ b = 61 ∨ b = 62 := by
  unfold lvl at h
  by_cases c37 : b = 37
  · rw [if_pos c37] at h; exact absurd h (by decide)
  rw [if_neg c37] at h
  by_cases c38 : b = 38
  · rw [if_pos c38] at h; exact absurd h (by decide)
  rw [if_neg c38] at h
  by_cases c42 : b = 42
  · rw [if_pos c42] at h; exact absurd h (by decide)
  rw [if_neg c42] at h
  by_cases c43 : b = 43
  · rw [if_pos c43] at h; exact absurd h (by decide)
  rw [if_neg c43] at h
  by_cases c45 : b = 45
  · rw [if_pos c45] at h; exact absurd h (by decide)
  rw [if_neg c45] at h
  by_cases c47 : b = 47
  · rw [if_pos c47] at h; exact absurd h (by decide)
  rw [if_neg c47] at h
  by_cases c60 : b = 60
  · simp [c60]
  rw [if_neg c60] at h
  by_cases c61 : b = 61
  · simp [c61]
  rw [if_neg c61] at h
  by_cases c62 : b = 62
  · simp [c62]
  rw [if_neg c62] at h
  by_cases c124 : b = 124
  · rw [if_pos c124] at h; exact absurd h (by decide)
  rw [if_neg c124] at h
  exact absurd h (by decide)
theorem lvl_1 {b : Int32} (h : lvl b = 1) : b = 38 := by
  unfold lvl at h
  by_cases c37 : b = 37
  · rw [if_pos c37] at h; exact absurd h (by decide)
  rw [if_neg c37] at h
  by_cases c38 : b = 38
  · simp [c38]
  rw [if_neg c38] at h
  by_cases c42 : b = 42
  · rw [if_pos c42] at h; exact absurd h (by decide)
  rw [if_neg c42] at h
  by_cases c43 : b = 43
  · rw [if_pos c43] at h; exact absurd h (by decide)
  rw [if_neg c43] at h
  by_cases c45 : b = 45
  · rw [if_pos c45] at h; exact absurd h (by decide)
  rw [if_neg c45] at h
  by_cases c47 : b = 47
  · rw [if_pos c47] at h; exact absurd h (by decide)
  rw [if_neg c47] at h
  by_cases c60 : b = 60
  · rw [if_pos c60] at h; exact absurd h (by decide)
  rw [if_neg c60] at h
  by_cases c61 : b = 61
  · rw [if_pos c61] at h; exact absurd h (by decide)
  rw [if_neg c61] at h
  by_cases c62 : b = 62
  · rw [if_pos c62] at h; exact absurd h (by decide)
  rw [if_neg c62] at h
  by_cases c124 : b = 124
  · rw [if_pos c124] at h; exact absurd h (by decide)
  rw [if_neg c124] at h
  exact absurd h (by decide)
theorem lvl_0 {b : Int32} (h : lvl b = 0) : b = 124 := by
  unfold lvl at h
  by_cases c37 : b = 37
  · rw [if_pos c37] at h; exact absurd h (by decide)
  rw [if_neg c37] at h
  by_cases c38 : b = 38
  · rw [if_pos c38] at h; exact absurd h (by decide)
  rw [if_neg c38] at h
  by_cases c42 : b = 42
  · rw [if_pos c42] at h; exact absurd h (by decide)
  rw [if_neg c42] at h
  by_cases c43 : b = 43
  · rw [if_pos c43] at h; exact absurd h (by decide)
  rw [if_neg c43] at h
  by_cases c45 : b = 45
  · rw [if_pos c45] at h; exact absurd h (by decide)
  rw [if_neg c45] at h
  by_cases c47 : b = 47
  · rw [if_pos c47] at h; exact absurd h (by decide)
  rw [if_neg c47] at h
  by_cases c60 : b = 60
  · rw [if_pos c60] at h; exact absurd h (by decide)
  rw [if_neg c60] at h
  by_cases c61 : b = 61
  · rw [if_pos c61] at h; exact absurd h (by decide)
  rw [if_neg c61] at h
  by_cases c62 : b = 62
  · rw [if_pos c62] at h; exact absurd h (by decide)
  rw [if_neg c62] at h
  by_cases c124 : b = 124
  · simp [c124]
  rw [if_neg c124] at h
  exact absurd h (by decide)
def pzL (inn : RS → Option (Int32 × RS)) (lv : Int32) : Nat → Int32 → RS → Option (Int32 × RS)
  | 0, _, _ => none
  | n + 1, x, σ => if σ.1 14 = 0 then some (x, σ) else ob (M_byteAt (σ.1 8) σ) fun b s => if lvl b = lv then ob (inn (ri s 8 (s.1 8 + 1))) fun y s2 => pzL inn lv n (jn b x y) s2 else some (x, s)
def pz1 (inn : RS → Option (Int32 × RS)) (x : Int32) (σ : RS) : Option (Int32 × RS) := if σ.1 14 = 0 then some (x, σ) else ob (M_byteAt (σ.1 8) σ) fun b s => if lvl b = 2 then ob (inn (ri s 8 (s.1 8 + 1))) fun y s2 => some (jn b x y, s2) else some (x, s)
theorem byteAt_st (x : Int32) (σ : RS) : M_byteAt x σ = none ∨ ∃ b, M_byteAt x σ = some (b, σ) := by
  unfold M_byteAt
  by_cases c : σ.1 9 ≤ x
  · rw [if_pos c]; exact Or.inr ⟨_, rfl⟩
  · rw [if_neg c]
    by_cases e : inb (((140 : Int32) + ((50 : Int32) * (σ.1 7))) + x) 240 = true
    · rw [gd_t e]; exact Or.inr ⟨_, rfl⟩
    · exact Or.inl (by unfold gd; rw [if_neg e])
theorem product_L (fac : RS → Option (Int32 × RS)) : ∀ (n : Nat) (x : Int32) (σ : RS), M_product_b5 fac n x σ = pzL fac 4 n x σ
  | 0, _, _ => rfl
  | n + 1, x, σ => by
    have ih := product_L fac n
    simp only [M_product_b5, pzL, M_product_b51, M_product_b110, ih]
    by_cases c : σ.1 14 = 0
    · rw [if_pos c, if_pos c]
    · rw [if_neg c, if_neg c]
      rcases byteAt_st (σ.1 8) σ with e | ⟨b, e⟩
      · rw [e]; rfl
      · simp only [e, ob_s, lt_e]
        by_cases c1 : b = 42
        · subst c1
          rw [if_pos rfl, if_pos (by decide)]
          congr 1
        · rw [if_neg c1]
          by_cases c2 : b = 47
          · subst c2
            rw [if_pos rfl, if_pos (by decide)]
            congr 1
            funext y s
            rw [if_neg (by decide)]
            by_cases cy : y = 0
            · rw [if_pos cy]; simp (decide := true) [jn, cy]
            · rw [if_neg cy, if_pos rfl, gd_t (nz_t cy)]; simp (decide := true) [jn, cy]
          · rw [if_neg c2]
            by_cases c3 : b = 37
            · subst c3
              rw [if_pos rfl, if_pos (by decide)]
              congr 1
              funext y s
              rw [if_neg (by decide)]
              by_cases cy : y = 0
              · rw [if_pos cy]; simp (decide := true) [jn, cy]
              · rw [if_neg cy, if_neg (by decide), gd_t (nz_t cy)]; simp (decide := true) [jn, cy]
            · rw [if_neg c3, if_neg (fun q => by rcases lvl_4 q with q | q | q <;> contradiction)]
theorem sum_L (fac : RS → Option (Int32 × RS)) : ∀ (n : Nat) (x : Int32) (σ : RS), M_sum_b5 fac n x σ = pzL (M_product fac) 3 n x σ
  | 0, _, _ => rfl
  | n + 1, x, σ => by
    have ih := sum_L fac n
    simp only [M_sum_b5, pzL, M_sum_b38, ih]
    by_cases c : σ.1 14 = 0
    · rw [if_pos c, if_pos c]
    · rw [if_neg c, if_neg c]
      rcases byteAt_st (σ.1 8) σ with e | ⟨b, e⟩
      · rw [e]; rfl
      · simp only [e, ob_s, lt_e]
        by_cases c1 : b = 43
        · subst c1
          rw [if_pos rfl, if_pos (by decide)]
          congr 1
        · rw [if_neg c1]
          by_cases c2 : b = 45
          · subst c2
            rw [if_pos rfl, if_pos (by decide)]
            congr 1
          · rw [if_neg c2, if_neg (fun q => by rcases lvl_3 q with q | q <;> contradiction)]
theorem both_L (fac : RS → Option (Int32 × RS)) : ∀ (n : Nat) (x : Int32) (σ : RS), M_both_b5 fac n x σ = pzL (M_compared fac) 1 n x σ
  | 0, _, _ => rfl
  | n + 1, x, σ => by
    have ih := both_L fac n
    simp only [M_both_b5, pzL, ih]
    by_cases c : σ.1 14 = 0
    · rw [if_pos c, if_pos c]
    · rw [if_neg c, if_neg c]
      rcases byteAt_st (σ.1 8) σ with e | ⟨b, e⟩
      · rw [e]; rfl
      · simp only [e, ob_s, lt_e]
        by_cases c1 : b = 38
        · subst c1
          rw [if_pos rfl, if_pos (by decide)]
          congr 1
        · rw [if_neg c1, if_neg (fun q => c1 (lvl_1 q))]
theorem whole_L (fac : RS → Option (Int32 × RS)) : ∀ (n : Nat) (x : Int32) (σ : RS), M_whole_b5 fac n x σ = pzL (M_both fac) 0 n x σ
  | 0, _, _ => rfl
  | n + 1, x, σ => by
    have ih := whole_L fac n
    simp only [M_whole_b5, pzL, ih]
    by_cases c : σ.1 14 = 0
    · rw [if_pos c, if_pos c]
    · rw [if_neg c, if_neg c]
      rcases byteAt_st (σ.1 8) σ with e | ⟨b, e⟩
      · rw [e]; rfl
      · simp only [e, ob_s, lt_e]
        by_cases c1 : b = 124
        · subst c1
          rw [if_pos rfl, if_pos (by decide)]
          congr 1
        · rw [if_neg c1, if_neg (fun q => c1 (lvl_0 q))]
theorem compared_L (fac : RS → Option (Int32 × RS)) (σ : RS) : M_compared fac σ = ob (M_sum fac σ) fun v s => pz1 (M_sum fac) v s := by
  unfold M_compared
  congr 1
  funext x s
  simp only [pz1, M_compared_b24, M_compared_b45]
  by_cases c : s.1 14 = 0
  · rw [if_pos c, if_pos c, if_neg (by decide), if_neg (by decide), if_neg (by decide)]
  · rw [if_neg c, if_neg c]
    rcases byteAt_st (s.1 8) s with e | ⟨b, e⟩
    · rw [e]; rfl
    · simp only [e, ob_s, lt_e]
      by_cases c1 : b = 60
      · subst c1
        rw [if_pos rfl, if_pos (by decide)]
        congr 1
        funext y s2
        rw [if_pos rfl]
        by_cases q : y ≤ x <;> simp (decide := true) [jn, q]
      · rw [if_neg c1]
        by_cases c2 : b = 61
        · subst c2
          rw [if_pos rfl, if_pos (by decide)]
          congr 1
          funext y s2
          rw [if_neg (by decide : ¬ (61 : Int32) = 60), if_pos (rfl : (61 : Int32) = 61)]
          by_cases q : x = y <;> simp (decide := true) [jn, q]
        · rw [if_neg c2]
          by_cases c3 : b = 62
          · subst c3
            rw [if_pos rfl, if_pos (by decide)]
            congr 1
            funext y s2
            rw [if_neg (by decide : ¬ (62 : Int32) = 60), if_neg (by decide : ¬ (62 : Int32) = 61)]
            by_cases q : x ≤ y <;> simp (decide := true) [jn, q]
          · rw [if_neg c3, if_neg (fun q => by rcases lvl_2 q with q | q | q <;> contradiction)]
theorem pzL_0 {inn : RS → Option (Int32 × RS)} {lv x : Int32} {n : Nat} {σ : RS} (h : σ.1 14 = 0) : pzL inn lv (n + 1) x σ = some (x, σ) := by simp only [pzL, if_pos h]
