/-! a law's answer on both sides -/
def clp (m x : Int32) : Int32 := if 0 ≤ x then (if x ≤ m then x else m) else 0
theorem i32_asym {x y : Int32} (h : x ≤ y) (h2 : y ≤ x) : x = y := Int32.toInt_inj.mp (by rw [Int32.le_iff_toInt_le] at h h2; omega)
theorem cl2_e {m x : Int32} (hm : 0 < m) : (if 0 < (if x < m then x else m) then (if x < m then x else m) else 0) = clp m x := by
  unfold clp
  rw [Int32.lt_iff_toInt_lt] at hm
  have z : (0 : Int32).toInt = 0 := by decide
  rw [z] at hm
  by_cases a : x < m
  · rw [if_pos a]
    rw [Int32.lt_iff_toInt_lt] at a
    by_cases b : 0 < x
    · rw [if_pos b]
      rw [Int32.lt_iff_toInt_lt, z] at b
      rw [if_pos (by rw [Int32.le_iff_toInt_le, z]; omega), if_pos (by rw [Int32.le_iff_toInt_le]; omega)]
    · rw [if_neg b]
      rw [Int32.lt_iff_toInt_lt, z] at b
      by_cases c : 0 ≤ x
      · rw [if_pos c, if_pos (by rw [Int32.le_iff_toInt_le]; omega)]
        rw [Int32.le_iff_toInt_le, z] at c
        exact Int32.toInt_inj.mp (by rw [z]; omega)
      · rw [if_neg c]
  · rw [if_neg a, if_pos (by rw [Int32.lt_iff_toInt_lt, z]; omega)]
    rw [Int32.lt_iff_toInt_lt] at a
    rw [if_pos (by rw [Int32.le_iff_toInt_le, z]; omega)]
    by_cases c : x ≤ m
    · rw [if_pos c]
      rw [Int32.le_iff_toInt_le] at c
      exact Int32.toInt_inj.mp (by omega)
    · rw [if_neg c]
theorem clp_r {m x : Int32} (hm : 0 < m) : 0 ≤ (clp m x).toInt ∧ (clp m x).toInt ≤ m.toInt := by
  unfold clp
  rw [Int32.lt_iff_toInt_lt] at hm
  have z : (0 : Int32).toInt = 0 := by decide
  rw [z] at hm
  by_cases a : 0 ≤ x
  · rw [if_pos a]
    rw [Int32.le_iff_toInt_le, z] at a
    by_cases b : x ≤ m
    · rw [if_pos b]
      rw [Int32.le_iff_toInt_le] at b
      exact ⟨a, b⟩
    · rw [if_neg b]
      exact ⟨by omega, by omega⟩
  · rw [if_neg a, z]
    exact ⟨by omega, by omega⟩
theorem gv_end {j L n h : Nat} {τ : CS} {a b c m : Int32} (hj : j < τ.2.2 7 0) (hL : τ.2.2 (j + 8) 0 = L) (hL2 : L ≤ 50) (hL0 : 0 < L) (hm : (if τ.1 (j + 8) 0 = 0 then (99 : Int32) else 1) = m) (hm0 : 0 < m) : N_L_give_b21 j (n + 1) a b c (nI h) (nI L) τ = some (clp m (τ.2.1 (j + 8) 2 0), τ) := by
  have hd : decide (j < τ.2.2 7 0) = true := decide_eq_true hj
  have c1 : Int32.ofNat L ≤ nI L := nI_le (a := L) (b := L) (by omega) (by omega)
  have b1 : inb (0 : Int32) L = true := inb_nI (j := 0) hL0 (by omega)
  simp only [N_L_give_b21, hL, gd_t hd, if_pos c1, gd_t b1, hm, cl2_e hm0]
theorem give_e {j W : Nat} {a b c x m : Int32} {cd : List Int32} {τ : CS} (hj : j < τ.2.2 7 0) (hW : τ.2.2 (j + 8) 0 = W) (h0 : 0 < W) (h50 : W ≤ 50) (hl : cd.length = W) (hs : ∀ k, k < W → τ.2.1 (j + 8) 1 k = cd.getD k 0) (hE : EvC a b c cd x) (hm : (if τ.1 (j + 8) 0 = 0 then (99 : Int32) else 1) = m) (hm0 : 0 < m) : ∃ τ' : CS, N_L_give j a b c τ = some (clp m x, τ') ∧ ceq τ τ' := by
  have hd : decide (j < τ.2.2 7 0) = true := decide_eq_true hj
  have c1 : ¬ Int32.ofNat W = 0 := nI_ne0 h0 (by omega)
  obtain ⟨τ1, e1, g1, -, w1⟩ := hE j W (FU - W) 0 0 τ hj hW h50 (by omega) (Nat.le_refl _) (fun k hk => by rw [Nat.zero_add]; exact hs k (by omega))
  have hF : FU = 1000 := rfl
  have e2 : N_L_give_b21 j FU a b c 0 0 τ = N_L_give_b21 j (FU - W) a b c (nI 1) (nI W) τ1 := by
    have e3 : FU - W + cd.length = FU := by omega
    rw [e3] at e1
    rw [show (0 : Nat) + cd.length = W by omega] at e1
    exact e1
  unfold N_L_give
  rw [gd_t hd, gd_t hd, hW, if_neg c1, e2]
  obtain ⟨n, hn⟩ : ∃ n, FU - W = n + 1 := ⟨FU - W - 1, by omega⟩
  rw [hn, gv_end (by rw [g1.2.1]; exact hj) (by rw [g1.2.1]; exact hW) h50 h0 (by rw [g1.1]; exact hm) hm0, w1]
  exact ⟨τ1, rfl, gvs_ceq g1⟩
def σW (σ : RS) (u : Nat) (a b c : Int32) : RS := ri (ri (ri (ri (ri (ri (ri (ri σ 7 (nI u)) 8 0) 9 (σ.2 0 (5 + u))) 10 0) 14 1) 11 a) 12 b) 13 c
theorem req_ri {σ : RS} {f : Nat} {v : Int32} (hf : 7 ≤ f ∧ f ≤ 14) : req σ (ri σ f v) := ⟨rfl, fun g h => ri_ne _ _ (by omega)⟩
theorem pzR_req {σ σ' : RS} (h : pzR σ σ') : req σ σ' := ⟨h.1, fun f q => h.2 f (by omega) (by omega) (by omega)⟩
theorem req_σW (σ : RS) (u : Nat) (a b c : Int32) : req σ (σW σ u a b c) := ((((((((req_ri (by decide)).tr (req_ri (by decide))).tr (req_ri (by decide))).tr (req_ri (by decide))).tr (req_ri (by decide))).tr (req_ri (by decide))).tr (req_ri (by decide))).tr (req_ri (by decide)))
theorem n5u (u : Nat) : (5 : Int32) + nI u = nI (5 + u) := nI_add 5 u
theorem walks_u {u : Nat} (hu : u < 2) (a b c : Int32) (σ : RS) : M_walks (nI u) a b c σ = ob (M_whole (M_factor 8) (σW σ u a b c)) fun v s => if s.1 14 = 0 then some (v, ri s 14 0) else some (v, ri s 14 (if s.1 8 = s.1 9 then 1 else 0)) := by
  unfold M_walks
  simp only [lt_e, n5u, gd_t (inb_nI (show 5 + u < 240 by omega) (by decide)), ix_nI (show 5 + u < 2 ^ 31 by omega)]
  rfl
/-- a text of t bytes f lies as use u's -/
def txR (σ : RS) (u t : Nat) (f : Nat → Int32) : Prop := σ.2 0 (5 + u) = nI t ∧ ∀ i, i < t → σ.2 0 (140 + 50 * u + i) = f i
/-- the class's reader is about to read it -/
def txC (τ : CS) (u t : Nat) (f : Nat → Int32) : Prop := t ≤ 50 ∧ u < 2 ∧ τ.1 3 2 = nI t ∧ τ.1 3 5 = nI u ∧ τ.1 3 3 = nI 0 ∧ τ.1 3 4 = nI 0 ∧ ∀ i, i < t → τ.2.1 3 0 i = f i ∧ ∃ v : Nat, v < 256 ∧ f i = nI v
theorem pz_start {τ : CS} {σ : RS} {u t : Nat} {f : Nat → Int32} {a b c : Int32} (hC : txC τ u t f) (hR : txR σ u t f) : pzD u t 0 0 0 τ (σW σ u a b c) := by
  obtain ⟨h1, h2, h3, h4, h5, h6, h7⟩ := hC
  obtain ⟨r1, r2⟩ := hR
  refine ⟨⟨h1, h2, h3, ?_, h4, ?_, fun i hi => ?_⟩, h5, ?_, h6, ?_, ?_, Nat.zero_le _, Nat.le_refl _⟩
  · unfold σW
    rw [ri_ne _ _ (by decide), ri_ne _ _ (by decide), ri_ne _ _ (by decide), ri_ne _ _ (by decide), ri_ne _ _ (by decide), ri_eq]
    exact r1
  · unfold σW
    rw [ri_ne _ _ (by decide), ri_ne _ _ (by decide), ri_ne _ _ (by decide), ri_ne _ _ (by decide), ri_ne _ _ (by decide), ri_ne _ _ (by decide), ri_ne _ _ (by decide), ri_eq]
  · obtain ⟨k1, v, hv, k2⟩ := h7 i hi
    exact ⟨v, hv, k1.trans k2, (r2 i hi).trans k2⟩
  · unfold σW
    rw [ri_ne _ _ (by decide), ri_ne _ _ (by decide), ri_ne _ _ (by decide), ri_ne _ _ (by decide), ri_ne _ _ (by decide), ri_ne _ _ (by decide), ri_eq]
    rfl
  · unfold σW
    rw [ri_ne _ _ (by decide), ri_ne _ _ (by decide), ri_ne _ _ (by decide), ri_ne _ _ (by decide), ri_eq]
    rfl
  · unfold σW
    rw [ri_ne _ _ (by decide), ri_ne _ _ (by decide), ri_ne _ _ (by decide), ri_eq]
theorem σW_abc (σ : RS) (u : Nat) (a b c : Int32) : (σW σ u a b c).1 11 = a ∧ (σW σ u a b c).1 12 = b ∧ (σW σ u a b c).1 13 = c := by
  unfold σW
  refine ⟨?_, ?_, ri_eq _ _ _⟩
  · rw [ri_ne _ _ (by decide), ri_ne _ _ (by decide), ri_eq]
  · rw [ri_ne _ _ (by decide), ri_eq]
/-- reading a text, and what the reference makes of it, whatever the names are -/
theorem text_run {τ : CS} {σ0 : RS} {u t : Nat} {f : Nat → Int32} (hC : txC τ u t f) (hR0 : txR σ0 u t f) : ∃ (τ' : CS) (q : Nat), pzC τ τ' ∧ q ≤ t ∧ τ'.1 3 3 = nI q ∧ (((rdp 60).1 0 0 τ = some (0, τ') ∧ ∀ (σ : RS) (a b c : Int32), txR σ u t f → ∃ (x : Int32) (σ' : RS), M_walks (nI u) a b c σ = some (x, σ') ∧ req σ σ' ∧ σ'.1 14 = 0 ∧ σ'.1 8 = nI q) ∨ ((rdp 60).1 0 0 τ = some (1, τ') ∧ ∃ W : Nat, 0 < W ∧ W ≤ 50 ∧ τ'.1 3 4 = nI W ∧ ∀ (σ : RS) (a b c : Int32), txR σ u t f → ∃ (x : Int32) (σ' : RS) (cd : List Int32), M_walks (nI u) a b c σ = some (x, σ') ∧ req σ σ' ∧ σ'.1 14 = (if q = t then 1 else 0) ∧ σ'.1 8 = nI q ∧ cd.length = W ∧ (∀ k, k < W → τ'.2.1 3 1 k = cd.getD k 0) ∧ EvC a b c cd x)) := by
  have hu : u < 2 := hC.2.1
  have ht : t ≤ 50 := hC.1
  obtain ⟨x0, τ', σ', e1, hh⟩ := pz_top _ _ _ _ _ _ (pz_start (a := 0) (b := 0) (c := 0) hC hR0)
  rcases hh with ⟨e2, f1, f2, f3, q, f4, f5, f6⟩ | ⟨e2, q, cd0, g⟩
  · refine ⟨τ', q, f1, f4, f5, Or.inl ⟨e2, fun σ a b c hR => ?_⟩⟩
    obtain ⟨x, τ2, σ2, k1, kk⟩ := pz_top _ _ _ _ _ _ (pz_start (a := a) (b := b) (c := c) hC hR)
    rcases kk with ⟨k2, m1, m2, m3, q2, m4, m5, m6⟩ | ⟨k2, -⟩
    · rw [e2] at k2
      cases k2
      rw [f5] at m5
      have hq : q = q2 := (nI_eq (by omega) (by omega)).mp m5
      subst hq
      rw [walks_u hu, k1, ob_s, if_pos m3]
      exact ⟨_, _, rfl, ((req_σW σ u a b c).tr (pzR_req m2)).tr (req_ri (by decide)), ri_eq _ _ _, by rw [ri_ne _ _ (by decide)]; exact m6⟩
    · rw [e2] at k2
      cases k2
  · obtain ⟨g1, g2, g3, g4, g5, g6, g7, g8, g9, g10, g11, g12, g13⟩ := id g
    rw [Nat.zero_add] at g5 g9
    refine ⟨τ', q, g1, g8, g3, Or.inr ⟨e2, cd0.length, g10, by omega, g5, fun σ a b c hR => ?_⟩⟩
    have hs := pz_start (a := a) (b := b) (c := c) hC hR
    obtain ⟨x, τ2, σ2, k1, kk⟩ := pz_top _ _ _ _ _ _ hs
    rcases kk with ⟨k2, -⟩ | ⟨k2, q2, cd, m1, m2, m3, m4, m5, m6, m7, m8, m9, m10, m11, m12, m13⟩
    · rw [e2] at k2
      cases k2
    · rw [e2] at k2
      cases k2
      rw [Nat.zero_add] at m5 m9
      rw [g3] at m3
      rw [g5] at m5
      have hq : q = q2 := (nI_eq (by omega) (by omega)).mp m3
      have hl : cd0.length = cd.length := (nI_eq (by omega) (by omega)).mp m5
      subst hq
      have c14 : ¬ σ2.1 14 = 0 := by rw [m7]; decide
      have h9 : σ2.1 9 = nI t := by
        rw [m2.2 9 (by decide) (by decide) (by decide)]
        exact hs.1.2.2.2.1
      obtain ⟨w1, w2, w3⟩ := σW_abc σ u a b c
      rw [w1, w2, w3] at m13
      rw [walks_u hu, k1, ob_s, if_neg c14]
      refine ⟨_, _, cd, rfl, ((req_σW σ u a b c).tr (pzR_req m2)).tr (req_ri (by decide)), ?_, ?_, hl.symm, fun k hk => ?_, m13⟩
      · rw [ri_eq, m4, h9]
        by_cases c : q = t
        · subst c; rw [if_pos rfl, if_pos rfl]
        · rw [if_neg c, if_neg (fun z => c ((nI_eq (by omega) (by omega)).mp z))]
      · rw [ri_ne _ _ (by decide)]; exact m4
      · have := m12 k (by omega)
        rw [Nat.zero_add] at this
        exact this
