/-! the law's machine: what a row of steps does -/
theorem si_eq (τ : CS) (o f : Nat) (v : Int32) : (si τ o f v).1 o f = v := by simp [si, up2]
theorem si_ne (τ : CS) {o f g : Nat} (v : Int32) (h : g ≠ f) : (si τ o f v).1 o g = τ.1 o g := by simp [si, up2, h]
theorem sa_eq (τ : CS) (o f : Nat) (v : Nat → Int32) : (sa τ o f v).2.1 o f = v := by simp [sa, up2]
theorem sa_ne (τ : CS) {o f g : Nat} (v : Nat → Int32) (h : g ≠ f) : (sa τ o f v).2.1 o g = τ.2.1 o g := by simp [sa, up2, h]
theorem ri_eq (σ : RS) (f : Nat) (v : Int32) : (ri σ f v).1 f = v := by simp [ri, upd]
theorem ri_ne (σ : RS) {f g : Nat} (v : Int32) (h : g ≠ f) : (ri σ f v).1 g = σ.1 g := by simp [ri, upd, h]
def jn (s x y : Int32) : Int32 := if s = 37 then (if y = 0 then 0 else irm x y) else if s = 38 then (if x = 0 then 0 else if y = 0 then 0 else 1) else if s = 42 then x * y else if s = 43 then x + y else if s = 45 then x - y else if s = 47 then (if y = 0 then 0 else x / y) else if s = 60 then (if y ≤ x then 0 else 1) else if s = 61 then (if x = y then 1 else 0) else if s = 62 then (if x ≤ y then 0 else 1) else (if x = 0 then (if y = 0 then 0 else 1) else 1)
def isop (b : Int32) : Prop := b = 37 ∨ b = 38 ∨ b = 42 ∨ b = 43 ∨ b = 45 ∨ b = 47 ∨ b = 60 ∨ b = 61 ∨ b = 62 ∨ b = 124
theorem nz_t {y : Int32} (h : ¬ y = 0) : nz y = true := by unfold nz; simp [h]
theorem jn_e {s : Int32} (hs : isop s) (x y : Int32) (σ : CS) : N_L_joined s x y σ = some (jn s x y, σ) := by
  rcases hs with rfl | rfl | rfl | rfl | rfl | rfl | rfl | rfl | rfl | rfl
  · by_cases c : y = 0
    · simp (decide := true) [N_L_joined, jn, c]
    · simp (decide := true) [N_L_joined, jn, c, gd_t (nz_t c)]
  · simp (decide := true) [N_L_joined, jn]
  · simp (decide := true) [N_L_joined, jn]
  · simp (decide := true) [N_L_joined, jn]
  · simp (decide := true) [N_L_joined, jn]
  · by_cases c : y = 0
    · simp (decide := true) [N_L_joined, jn, c]
    · simp (decide := true) [N_L_joined, jn, c, gd_t (nz_t c)]
  · simp (decide := true) [N_L_joined, jn]
  · simp (decide := true) [N_L_joined, jn]
  · simp (decide := true) [N_L_joined, jn]
  · simp (decide := true) [N_L_joined, N_L_joined_b203, jn]
theorem isop_neg {b : Int32} (h : isop b) : -b < -3 ∧ ¬ -b = -33 := by
  rcases h with rfl | rfl | rfl | rfl | rfl | rfl | rfl | rfl | rfl | rfl <;> decide
/-- only the stack of law j differs -/
def gvs (j : Nat) (τ τ' : CS) : Prop := τ'.1 = τ.1 ∧ τ'.2.2 = τ.2.2 ∧ ∀ o f, ¬ (o = j + 8 ∧ f = 2) → τ'.2.1 o f = τ.2.1 o f
theorem gvs.tr {j : Nat} {a b c : CS} (h : gvs j a b) (h2 : gvs j b c) : gvs j a c := ⟨h2.1.trans h.1, h2.2.1.trans h.2.1, fun o f q => (h2.2.2 o f q).trans (h.2.2 o f q)⟩
theorem gvs_sa {j : Nat} {τ : CS} {v : Nat → Int32} : gvs j τ (sa τ (j + 8) 2 v) := ⟨rfl, rfl, fun o f q => by
  by_cases c : o = j + 8
  · have h2 : f ≠ 2 := fun e => q ⟨c, e⟩
    simp [sa, up2, h2]
  · simp [sa, up2, c]⟩
theorem gvs_ceq {j : Nat} {τ τ' : CS} (h : gvs j τ τ') : ceq τ τ' := ⟨h.1, h.2.1, fun o f q => h.2.2 o f (by omega)⟩
section GV
variable {j L n h i : Nat} {τ : CS} {a b c v : Int32}
def psh (a b c v : Int32) : Int32 := if v < 0 then (if v = -1 then a else (if v = -2 then b else c)) else v
theorem gv_push (hj : j < τ.2.2 7 0) (hL : τ.2.2 (j + 8) 0 = L) (hL2 : L ≤ 50) (hi : i < L) (hh : h < L) (hv : τ.2.1 (j + 8) 1 i = v) (h3 : ¬ v < -3) : N_L_give_b21 j (n + 1) a b c (nI h) (nI i) τ = N_L_give_b21 j n a b c (nI (h + 1)) (nI (i + 1)) (sa τ (j + 8) 2 (upd (τ.2.1 (j + 8) 2) h (psh a b c v))) := by
  have hd : decide (j < τ.2.2 7 0) = true := decide_eq_true hj
  have c1 : ¬ Int32.ofNat L ≤ nI i := nI_ge hi (by omega)
  have c2 : ¬ Int32.ofNat L ≤ nI h := nI_ge hh (by omega)
  have b1 : inb (nI i) L = true := inb_nI hi (by omega)
  have b2 : inb (nI h) L = true := inb_nI hh (by omega)
  have x1 : ix (nI i) = i := ix_nI (by omega)
  have x2 : ix (nI h) = h := ix_nI (by omega)
  simp only [N_L_give_b21, hL, gd_t hd, if_neg c1, gd_t b1, lt_e, x1, hv, if_neg h3, if_neg c2, gd_t b2, x2, N_L_give_b184, nI_1]
  rfl
theorem gv_not (hj : j < τ.2.2 7 0) (hL : τ.2.2 (j + 8) 0 = L) (hL2 : L ≤ 50) (hi : i < L) (hh : h < L) (hv : τ.2.1 (j + 8) 1 i = -33) : N_L_give_b21 j (n + 1) a b c (nI (h + 1)) (nI i) τ = N_L_give_b21 j n a b c (nI (h + 1)) (nI (i + 1)) (sa τ (j + 8) 2 (upd (τ.2.1 (j + 8) 2) h (if τ.2.1 (j + 8) 2 h = 0 then 1 else 0))) := by
  have hd : decide (j < τ.2.2 7 0) = true := decide_eq_true hj
  have c1 : ¬ Int32.ofNat L ≤ nI i := nI_ge hi (by omega)
  have b1 : inb (nI i) L = true := inb_nI hi (by omega)
  have b2 : inb (nI h) L = true := inb_nI hh (by omega)
  have x1 : ix (nI i) = i := ix_nI (by omega)
  have x2 : ix (nI h) = h := ix_nI (by omega)
  have h3 : (-33 : Int32) < -3 := by decide
  have h4 : ¬ nI (h + 1) < (1 : Int32) := nI_nlt (a := h + 1) (b := 1) (by omega) (by omega)
  simp only [N_L_give_b21, hL, gd_t hd, if_neg c1, gd_t b1, lt_e, x1, hv, if_pos h3, N_L_give_b102, if_pos, if_neg h4, nI_pred, gd_t b2, x2, N_L_give_b184, nI_1]
theorem gv_op {s : Int32} (hj : j < τ.2.2 7 0) (hL : τ.2.2 (j + 8) 0 = L) (hL2 : L ≤ 50) (hi : i < L) (hh : h + 1 < L) (hs : isop s) (hv : τ.2.1 (j + 8) 1 i = -s) : N_L_give_b21 j (n + 1) a b c (nI (h + 2)) (nI i) τ = N_L_give_b21 j n a b c (nI (h + 1)) (nI (i + 1)) (sa τ (j + 8) 2 (upd (τ.2.1 (j + 8) 2) h (jn s (τ.2.1 (j + 8) 2 h) (τ.2.1 (j + 8) 2 (h + 1))))) := by
  have hd : decide (j < τ.2.2 7 0) = true := decide_eq_true hj
  have c1 : ¬ Int32.ofNat L ≤ nI i := nI_ge hi (by omega)
  have b1 : inb (nI i) L = true := inb_nI hi (by omega)
  have b2 : inb (nI h) L = true := inb_nI (by omega) (by omega)
  have b3 : inb (nI (h + 1)) L = true := inb_nI hh (by omega)
  have x1 : ix (nI i) = i := ix_nI (by omega)
  have x2 : ix (nI h) = h := ix_nI (by omega)
  have x3 : ix (nI (h + 1)) = h + 1 := ix_nI (by omega)
  obtain ⟨h3, h5⟩ := isop_neg hs
  have h4 : ¬ nI (h + 2) < (2 : Int32) := nI_nlt (a := h + 2) (b := 2) (by omega) (by omega)
  have e1 : nI (h + 2) + (-1) = nI (h + 1) := pk_m1 (h + 1)
  have e2 : -(-s) = s := Int32.neg_neg
  simp only [N_L_give_b21, hL, gd_t hd, if_neg c1, gd_t b1, lt_e, x1, hv, if_pos h3, N_L_give_b102, if_neg h5, N_L_give_b144, if_neg h4, e1, nI_pred, gd_t b2, gd_t b3, x2, x3, e2, jn_e hs, ob_s, N_L_give_b184, nI_1]
end GV
/-- the steps cd, run at any place, put w on the stack -/
def EvC (a b c : Int32) (cd : List Int32) (w : Int32) : Prop := ∀ (j L n h i : Nat) (τ : CS), j < τ.2.2 7 0 → τ.2.2 (j + 8) 0 = L → L ≤ 50 → i + cd.length ≤ L → h ≤ i → (∀ k, k < cd.length → τ.2.1 (j + 8) 1 (i + k) = cd.getD k 0) → ∃ τ' : CS, N_L_give_b21 j (n + cd.length) a b c (nI h) (nI i) τ = N_L_give_b21 j n a b c (nI (h + 1)) (nI (i + cd.length)) τ' ∧ gvs j τ τ' ∧ (∀ k, k < h → τ'.2.1 (j + 8) 2 k = τ.2.1 (j + 8) 2 k) ∧ τ'.2.1 (j + 8) 2 h = w
theorem getD_l {l1 l2 : List Int32} {k : Nat} (h : k < l1.length) : (l1 ++ l2).getD k 0 = l1.getD k 0 := by
  rw [List.getD_eq_getElem?_getD, List.getD_eq_getElem?_getD, List.getElem?_append_left h]
theorem getD_r {l1 l2 : List Int32} {k : Nat} : (l1 ++ l2).getD (l1.length + k) 0 = l2.getD k 0 := by
  rw [List.getD_eq_getElem?_getD, List.getD_eq_getElem?_getD, List.getElem?_append_right (by omega), Nat.add_sub_cancel_left]
theorem EvC_1 {a b c v : Int32} (h3 : ¬ v < -3) : EvC a b c [v] (psh a b c v) := by
  intro j L n h i τ h1 h2 h4 h5 h6 h7
  have h5' : i + 1 ≤ L := h5
  have hv : τ.2.1 (j + 8) 1 i = v := h7 0 (Nat.zero_lt_succ _)
  refine ⟨sa τ (j + 8) 2 (upd (τ.2.1 (j + 8) 2) h (psh a b c v)), gv_push h1 h2 h4 (by omega) (by omega) hv h3, gvs_sa, fun k hk => ?_, ?_⟩
  · rw [sa_eq, upd_ne _ _ (by omega)]
  · rw [sa_eq, upd_eq]
theorem EvC_not {a b c x : Int32} {cd : List Int32} (h : EvC a b c cd x) : EvC a b c (cd ++ [-33]) (if x = 0 then 1 else 0) := by
  intro j L n hh i τ h1 h2 h4 h5 h6 h7
  rw [List.length_append] at h5 h7
  have h5' : i + cd.length + 1 ≤ L := h5
  obtain ⟨τ1, e1, g1, k1, w1⟩ := h j L (n + 1) hh i τ h1 h2 h4 (by omega) h6 (fun k hk => by
    rw [h7 k (by omega), getD_l hk])
  have e : n + (cd ++ [-33]).length = n + 1 + cd.length := by rw [List.length_append]; show n + (cd.length + 1) = _; omega
  have hv : τ1.2.1 (j + 8) 1 (i + cd.length) = -33 := by
    rw [g1.2.2 _ _ (by omega), h7 cd.length (by show cd.length < cd.length + 1; omega)]
    exact getD_r (k := 0)
  have e2 := gv_not (j := j) (L := L) (n := n) (h := hh) (i := i + cd.length) (τ := τ1) (a := a) (b := b) (c := c) (by rw [g1.2.1]; exact h1) (by rw [g1.2.1]; exact h2) h4 (by omega) (by omega) hv
  refine ⟨sa τ1 (j + 8) 2 (upd (τ1.2.1 (j + 8) 2) hh (if τ1.2.1 (j + 8) 2 hh = 0 then 1 else 0)), ?_, g1.tr gvs_sa, fun k hk => ?_, ?_⟩
  · rw [e, e1, e2, List.length_append]; rfl
  · rw [sa_eq, upd_ne _ _ (by omega)]; exact k1 k hk
  · rw [sa_eq, upd_eq, w1]
theorem EvC_op {a b c x y s : Int32} {c1 c2 : List Int32} (hs : isop s) (hl1 : 0 < c1.length) (h : EvC a b c c1 x) (h' : EvC a b c c2 y) : EvC a b c (c1 ++ (c2 ++ [-s])) (jn s x y) := by
  intro j L n hh i τ h1 h2 h4 h5 h6 h7
  have el : (c1 ++ (c2 ++ [-s])).length = c1.length + (c2.length + 1) := by rw [List.length_append, List.length_append]; rfl
  rw [el] at h5 h7 ⊢
  obtain ⟨τ1, e1, g1, k1, w1⟩ := h j L (n + 1 + c2.length) hh i τ h1 h2 h4 (by omega) h6 (fun k hk => by
    rw [h7 k (by omega), getD_l hk])
  have st : ∀ k, k < c2.length + 1 → τ1.2.1 (j + 8) 1 (i + c1.length + k) = (c2 ++ [-s]).getD k 0 := fun k hk => by
    rw [g1.2.2 _ _ (by omega), Nat.add_assoc, h7 (c1.length + k) (by omega)]
    exact getD_r
  obtain ⟨τ2, e2, g2, k2, w2⟩ := h' j L (n + 1) (hh + 1) (i + c1.length) τ1 (by rw [g1.2.1]; exact h1) (by rw [g1.2.1]; exact h2) h4 (by omega) (by omega) (fun k hk => by rw [st k (by omega), getD_l hk])
  have hv : τ2.2.1 (j + 8) 1 (i + c1.length + c2.length) = -s := by
    rw [g2.2.2 _ _ (by omega), st c2.length (by omega)]
    exact getD_r (k := 0)
  have g3 := g1.tr g2
  have e3 := gv_op (j := j) (L := L) (n := n) (h := hh) (i := i + c1.length + c2.length) (τ := τ2) (a := a) (b := b) (c := c) (by rw [g3.2.1]; exact h1) (by rw [g3.2.1]; exact h2) h4 (by omega) (by omega) hs hv
  refine ⟨sa τ2 (j + 8) 2 (upd (τ2.2.1 (j + 8) 2) hh (jn s (τ2.2.1 (j + 8) 2 hh) (τ2.2.1 (j + 8) 2 (hh + 1)))), ?_, g3.tr gvs_sa, fun k hk => ?_, ?_⟩
  · rw [show n + (c1.length + (c2.length + 1)) = n + 1 + c2.length + c1.length by omega, e1, e2, e3, show i + c1.length + c2.length + 1 = i + (c1.length + (c2.length + 1)) by omega]
  · rw [sa_eq, upd_ne _ _ (by omega), k2 k (by omega)]; exact k1 k hk
  · rw [sa_eq, upd_eq, w2, k2 hh (by omega), w1]
