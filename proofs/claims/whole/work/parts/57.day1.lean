/-! what falls, what is taken, cars: both sides -/
theorem its_S {S : SP} {σ : RS} {k w : Nat} (hS : S.1 ≤ 12) (hr : RRow (σ.2 0) S) (hk : k < S.1) (hw : w < 5) : M_its (nI k) (nI w) σ = some (S.2.1 w k, σ) := by
  rw [its_e (by omega) hw, hr.2.1 k hk w hw]
theorem carOf_e {S : SP} {τ : CS} {d k : Nat} (hS : S.1 ≤ 12) (hc : CStr τ d S) (hk : k < S.1) : N_S_carOf d (nI k) τ = some (S.2.1 3 k, τ) := by
  obtain ⟨-, -, ⟨c, c1, c2, c3⟩, -⟩ := hc
  have h1 : (2 : Nat) ^ S.1 ≤ 2 ^ 12 := Nat.pow_le_pow_right (by decide) hS
  have h2 : (2 : Nat) ^ 12 = 4096 := by decide
  unfold N_S_carOf
  rw [c2, bit_e (by omega) (by omega), c3 k hk]
theorem car_bit {S : SP} {c k : Nat} (h : S.2.1 3 k = nI (c / 2 ^ k % 2)) : carb S k = c.testBit k := by
  unfold carb
  rw [h, nb2]
  cases c.testBit k <;> decide
theorem car_01 {S : SP} {D : Int} {k : Nat} (h : SPok S D) (hk : k < S.1) : S.2.1 3 k = if carb S k = true then 1 else 0 := by
  unfold carb
  rcases (h.2.1 k hk).2.2.2.1 with q | q <;> rw [q] <;> decide
theorem kindOf_e {S : SP} {τ : CS} {D : Int} {d k : Nat} (hS : SPok S D) (hc : CStr τ d S) (hk : k < S.1) : N_S_kindOf d (nI k) τ = some (ix (S.2.1 0 k), τ) := by
  have h12 := hS.1
  obtain ⟨κ, hκ, e0⟩ := (hS.2.1 k hk).1
  unfold N_S_kindOf
  rw [gd_t (inb_nI (by omega) (by decide)), ix_nI (by omega), (hc.2.1 k hk).1, e0, gd_t (inb_nI (by omega) (by decide))]
theorem fallsC {S : SP} {τ : CS} {D : Int} {d k : Nat} {F0 : LF} (hd : d < 8) (hS : SPok S D) (hc : CStr τ d S) (hL : LawC τ (τ.2.2 d 11) F0) (hk : k < S.1) : ∃ τ', N_S_fallsNow d (nI k) τ = some (fD F0 S (S.2.2 0) k (S.2.1 2 k), τ') ∧ ceq τ τ' := by
  have h12 := hS.1
  obtain ⟨τ', e, hq⟩ := hL.2 τ ⟨rfl, rfl, rfl, hL.1⟩ (nI k) (irm (S.2.2 0) 30) (S.2.1 2 k)
  have hc' : CStr τ' d S := hc.same (ceq_dsame hd hq)
  have b1 : inb (nI k) 12 = true := inb_nI (by omega) (by decide)
  have x1 : ix (nI k) = k := ix_nI (by omega)
  have m1 : τ'.2.1 d 2 k = S.2.1 1 k := (hc'.2.1 k hk).2.1
  have t1 : τ'.1 d 7 = S.2.2 0 := hc'.2.2.2.1
  have w1 : τ'.1 d 8 = S.2.2 1 := hc'.2.2.2.2.1
  refine ⟨τ', ?_, hq⟩
  unfold N_S_fallsNow
  rw [gd_t b1, gd_t (decide_eq_true hL.1), x1, hc.2.2.2.1, (hc.2.1 k hk).2.2.1, e, ob_s, kindOf_e hS hc' hk, ob_s, gd_t b1, carOf_e h12 hc' hk, ob_s, m1, t1, w1, Dfallen_e, ob_s]
  rfl
theorem takesC {S : SP} {τ : CS} {D : Int} {d k : Nat} (hS : SPok S D) (hc : CStr τ d S) (hk : k < S.1) : N_S_takesNow d (nI k) τ = some (tK S k (S.2.1 2 k), τ) := by
  have h12 := hS.1
  have b1 : inb (nI k) 12 = true := inb_nI (by omega) (by decide)
  have x1 : ix (nI k) = k := ix_nI (by omega)
  unfold N_S_takesNow
  rw [kindOf_e hS hc hk, ob_s, gd_t b1, x1, (hc.2.1 k hk).2.2.1, Dtaken_e, ob_s]
  rfl
theorem fallsR {S : SP} {σ : RS} {D : Int} {k : Nat} {F0 : LF} (hS : SPok S D) (hr : RRow (σ.2 0) S) (hL : LawR (σ.2 0) 0 F0) (hk : k < S.1) : ∃ σ', M_falling (nI k) σ = some (fD F0 S (S.2.2 0) k (S.2.1 2 k), σ') ∧ req σ σ' := by
  have h12 := hS.1
  obtain ⟨κ, hκ, e0⟩ := (hS.2.1 k hk).1
  obtain ⟨σ', e, hq⟩ := hL σ ⟨rfl, fun _ _ => rfl⟩ (nI k) (irm (S.2.2 0) 30) (S.2.1 2 k)
  have hr' : RRow (σ'.2 0) S := by rw [hq.1]; exact hr
  have e' : M_lawOf 0 (nI k) (irm (S.2.2 0) 30) (S.2.1 2 k) σ = some (F0 (nI k) (irm (S.2.2 0) 30) (S.2.1 2 k), σ') := e
  have i1 : M_its (nI k) 1 σ = some (S.2.1 1 k, σ) := its_S h12 hr hk (by decide : 1 < 5)
  have i2 : M_its (nI k) 2 σ = some (S.2.1 2 k, σ) := its_S h12 hr hk (by decide : 2 < 5)
  have i0 : M_its (nI k) 0 σ' = some (S.2.1 0 k, σ') := its_S h12 hr' hk (by decide : 0 < 5)
  have i3 : M_its (nI k) 3 σ' = some (S.2.1 3 k, σ') := its_S h12 hr' hk (by decide : 3 < 5)
  have d1 : σ.2 0 0 = S.2.2 0 := hr.2.2.1
  have d2 : σ'.2 0 0 = S.2.2 0 := hr'.2.2.1
  have d3 : σ'.2 0 7 = S.2.2 1 := hr'.2.2.2.1
  refine ⟨σ', ?_, hq⟩
  unfold M_falling fD
  rw [i1, ob_s, i2, ob_s, d1, e', ob_s, i0, ob_s, e0, ix_nI (by omega)]
  unfold M_falling_b122 M_falling_b158
  rcases (show κ = 0 ∨ κ = 1 ∨ κ = 2 ∨ κ = 3 ∨ κ = 4 ∨ κ = 5 ∨ κ = 6 by omega) with rfl | rfl | rfl | rfl | rfl | rfl | rfl
  · rw [if_neg (by decide), if_neg (by decide), if_neg (by decide), if_neg (by decide), if_neg (by decide), if_neg (by decide), mx0_e]; rfl
  · rw [if_pos (by decide), lt_e, mx0_e]; rfl
  · rw [if_neg (by decide), if_pos (by decide), lt_e, mx0_e]; rfl
  · rw [if_neg (by decide), if_neg (by decide), if_pos (by decide), i3, ob_s, lt_e, mx0_e]; rfl
  · rw [if_neg (by decide), if_neg (by decide), if_neg (by decide), if_pos (by decide), lt_e, mx0_e]; rfl
  · rw [if_neg (by decide), if_neg (by decide), if_neg (by decide), if_neg (by decide), if_pos (by decide), d2]
    by_cases c : irm (S.2.2 0) 7 = 0
    · rw [if_pos c, mx0_e]
      show some (mx0 _, σ') = some (mx0 (_ / 2 + (if irm (S.2.2 0) 7 = 0 then _ else 0)), σ')
      rw [if_pos c]
    · rw [if_neg c, mx0_e]
      show some (mx0 _, σ') = some (mx0 (_ / 2 + (if irm (S.2.2 0) 7 = 0 then _ else 0)), σ')
      rw [if_neg c, Int32.add_zero]
  · rw [if_neg (by decide), if_neg (by decide), if_neg (by decide), if_neg (by decide), if_neg (by decide), if_pos (by decide), i3, ob_s, lt_e, d3, mx0_e, ← Int32.add_assoc]; rfl
theorem le_lt_50 (c x : Int32) : (if c ≤ x then c else x) = (if c < x then c else x) := by
  by_cases h : c < x
  · rw [if_pos h, if_pos (by rw [Int32.lt_iff_toInt_lt] at h; rw [Int32.le_iff_toInt_le]; omega)]
  · rw [if_neg h]
    by_cases h2 : c ≤ x
    · rw [if_pos h2]
      refine i32_asym h2 ?_
      rw [Int32.lt_iff_toInt_lt] at h
      rw [Int32.le_iff_toInt_le]; omega
    · rw [if_neg h2]
theorem takenR {S : SP} {σ : RS} {D : Int} {k : Nat} (hS : SPok S D) (hr : RRow (σ.2 0) S) (hk : k < S.1) : M_taken (nI k) σ = some (tK S k (S.2.1 2 k), σ) := by
  have h12 := hS.1
  obtain ⟨κ, hκ, e0⟩ := (hS.2.1 k hk).1
  have i2 : M_its (nI k) 2 σ = some (S.2.1 2 k, σ) := its_S h12 hr hk (by decide : 2 < 5)
  have i0 : M_its (nI k) 0 σ = some (S.2.1 0 k, σ) := its_S h12 hr hk (by decide : 0 < 5)
  unfold M_taken tK M_taken_b96
  rw [i2, ob_s, lt_e, i0, ob_s, e0, ix_nI (by omega)]
  rcases (show κ = 0 ∨ κ = 1 ∨ κ = 2 ∨ κ = 3 ∨ κ = 4 ∨ κ = 5 ∨ κ = 6 by omega) with rfl | rfl | rfl | rfl | rfl | rfl | rfl
  · rw [if_neg (by decide), if_neg (by decide), if_neg (by decide), if_neg (by decide), if_neg (by decide), if_neg (by decide)]; rfl
  · rw [if_pos (by decide)]; rfl
  · rw [if_neg (by decide), if_pos (by decide)]; rfl
  · rw [if_neg (by decide), if_neg (by decide), if_pos (by decide), le_lt_50]; rfl
  · rw [if_neg (by decide), if_neg (by decide), if_neg (by decide), if_pos (by decide), le_lt_50]; rfl
  · rw [if_neg (by decide), if_neg (by decide), if_neg (by decide), if_neg (by decide), if_pos (by decide)]
    show _ = some ((if S.2.1 2 k < S.2.1 2 k / 2 + 10 then S.2.1 2 k else S.2.1 2 k / 2 + 10), σ)
    by_cases c : S.2.1 2 k < S.2.1 2 k / 2 + 10
    · rw [if_pos c, if_pos (by rw [Int32.lt_iff_toInt_lt] at c; rw [Int32.le_iff_toInt_le]; omega)]
    · rw [if_neg c]
      by_cases c2 : S.2.1 2 k ≤ S.2.1 2 k / 2 + 10
      · rw [if_pos c2]
        have e : S.2.1 2 k = S.2.1 2 k / 2 + 10 := by
          refine i32_asym c2 ?_
          rw [Int32.lt_iff_toInt_lt] at c
          rw [Int32.le_iff_toInt_le]; omega
        rw [← e]
      · rw [if_neg c2]
  · rw [if_neg (by decide), if_neg (by decide), if_neg (by decide), if_neg (by decide), if_neg (by decide), if_pos (by decide), le_lt_50]; rfl
/-! places, who goes, who stays -/
theorem hf_s {n s m : Nat} (h : hf n s = m + 1) : s < n ∧ hf n (s + 2) = m := by unfold hf at h ⊢; omega
theorem hf_0 {n s : Nat} (h : hf n s = 0) : n ≤ s := by unfold hf at h; omega
theorem nI_2 (a : Nat) : nI a + 2 = nI (a + 2) := nI_add a 2
theorem car_pl {S : SP} {D : Int} {k l : Nat} (h : SPok S D) (hk : k < S.1) : nI l + (1 - S.2.1 3 k) = nI (l + (if carb S k = true then 0 else 1)) := by
  rw [car_01 h hk]
  cases carb S k
  · rw [if_neg (by decide), if_neg (by decide)]; exact nI_add l 1
  · rw [if_pos rfl, if_pos rfl]; exact nI_add l 0
theorem plR {S : SP} {D : Int} {σ : RS} (hS : SPok S D) (hr : RRow (σ.2 0) S) : ∀ (m n k l : Nat), hf S.1 k = m → m < n → k < 100 → M_placesOn_b4 n (nI l) (nI k) σ = some (nI (plL S m k l), σ) := by
  have h12 := hS.1
  intro m
  induction m with
  | zero =>
    intro n k l hm hn hk
    obtain ⟨n, rfl⟩ : ∃ q, n = q + 1 := ⟨n - 1, by omega⟩
    have c1 : nI S.1 ≤ nI k := nI_le (hf_0 hm) (by omega)
    simp only [M_placesOn_b4, hr.1, if_pos c1, plL]
  | succ m ih =>
    intro n k l hm hn hk
    obtain ⟨n, rfl⟩ : ∃ q, n = q + 1 := ⟨n - 1, by omega⟩
    obtain ⟨h1, h2⟩ := hf_s hm
    have c1 : ¬ nI S.1 ≤ nI k := nI_ge h1 (by omega)
    have i3 : M_its (nI k) 3 σ = some (S.2.1 3 k, σ) := its_S h12 hr h1 (by decide : 3 < 5)
    simp only [M_placesOn_b4, hr.1, if_neg c1, i3, ob_s, lt_e, car_pl hS h1, nI_2]
    exact ih n (k + 2) _ h2 (by omega) (by omega)
theorem placesR {S : SP} {D : Int} {σ : RS} {s : Nat} (hS : SPok S D) (hr : RRow (σ.2 0) S) (hs : s < 2) : M_placesOn (nI s) σ = some (nI (plN S s), σ) := by
  have h12 := hS.1
  have h13 : hf S.1 s ≤ 6 := by unfold hf; omega
  have hF : FU = 1000 := rfl
  exact plR hS hr (hf S.1 s) FU s 0 rfl (by omega) (by omega)
theorem plL_le (S : SP) : ∀ (m k l : Nat), plL S m k l ≤ l + m := by
  intro m
  induction m with
  | zero => intro k l; exact Nat.le_refl _
  | succ m ih =>
    intro k l
    have := ih (k + 2) (l + (if carb S k = true then 0 else 1))
    show plL S m (k + 2) (l + (if carb S k = true then 0 else 1)) ≤ l + (m + 1)
    split at this <;> rename_i c
    · rw [if_pos c]; omega
    · rw [if_neg c]; omega
theorem sb_m1' {l : Nat} (h : 0 < l) : nI l + (-1) = nI (l - 1) := by
  obtain ⟨q, rfl⟩ : ∃ q, l = q + 1 := ⟨l - 1, by omega⟩
  exact pk_m1 q
theorem goC {S : SP} {D : Int} {τ : CS} {d : Nat} (hS : SPok S D) (hc : CStr τ d S) : ∀ (m n k l g : Nat), hf S.1 k = m → m < n → k < 100 → l < 1000 → g < 2 ^ k → N_S_goers_b35 d n (nI l) (nI g) (nI k) τ = some (nI (goL S m k l g), τ) := by
  have h12 := hS.1
  intro m
  induction m with
  | zero =>
    intro n k l g hm hn hk hl hg
    obtain ⟨n, rfl⟩ : ∃ q, n = q + 1 := ⟨n - 1, by omega⟩
    have c1 : nI S.1 ≤ nI k := nI_le (hf_0 hm) (by omega)
    simp only [N_S_goers_b35, hc.1, if_pos c1, goL]
  | succ m ih =>
    intro n k l g hm hn hk hl hg
    obtain ⟨n, rfl⟩ : ∃ q, n = q + 1 := ⟨n - 1, by omega⟩
    obtain ⟨h1, h2⟩ := hf_s hm
    have c1 : ¬ nI S.1 ≤ nI k := nI_ge h1 (by omega)
    have p1 : (2 : Nat) ^ (k + 2) = 4 * 2 ^ k := by rw [Nat.pow_add]; omega
    have b1 : inb (nI k) 12 = true := inb_nI (by omega) (by decide)
    have x1 : ix (nI k) = k := ix_nI (by omega)
    have f1 : τ.1 d 9 = S.2.2 2 := hc.2.2.2.2.2.1
    have f2 : τ.2.1 d 4 k = S.2.1 4 k := (hc.2.1 k h1).2.2.2
    simp only [N_S_goers_b35, hc.1, if_neg c1, carOf_e h12 hc h1, ob_s, N_S_goers_b82, gd_t b1, x1, f1, f2, nI_2, goL]
    by_cases q1 : S.2.1 3 k = 1
    · rw [if_pos q1]
      have e1 : carb S k = true := by unfold carb; rw [q1]; decide
      by_cases q2 : S.2.2 2 ≤ S.2.1 4 k
      · have e2 : gob S l k = false := by
          have : ¬ S.2.1 4 k < S.2.2 2 := by rw [Int32.le_iff_toInt_le] at q2; rw [Int32.lt_iff_toInt_lt]; omega
          simp [gob, this]
        rw [if_pos q2, e2, if_neg (by decide), if_neg (by decide)]
        exact ih n (k + 2) l g h2 (by omega) (by omega) hl (by omega)
      · have e3 : S.2.1 4 k < S.2.2 2 := by rw [Int32.le_iff_toInt_le] at q2; rw [Int32.lt_iff_toInt_lt]; omega
        rw [if_neg q2]
        by_cases q3 : nI l ≤ 0
        · have e4 : l = 0 := by
            have := (nI_leI (a := l) (b := 0) (by omega) (by decide)).mp q3
            omega
          have e2 : gob S l k = false := by simp [gob, e4]
          rw [if_pos q3, e2, if_neg (by decide), if_neg (by decide)]
          exact ih n (k + 2) l g h2 (by omega) (by omega) hl (by omega)
        · have e4 : 0 < l := by
            rcases Nat.eq_zero_or_pos l with z | z
            · exact absurd (by rw [z]; decide) q3
            · exact z
          have e2 : gob S l k = true := by simp [gob, e1, e3, e4]
          rw [if_neg q3, lt_e, e2, if_pos rfl, if_pos rfl, or_pow hg (by omega), sb_m1' e4]
          exact ih n (k + 2) (l - 1) (g + 2 ^ k) h2 (by omega) (by omega) (by omega) (by omega)
    · rw [if_neg q1]
      have e2 : gob S l k = false := by simp [gob, carb, q1]
      rw [e2, if_neg (by decide), if_neg (by decide)]
      exact ih n (k + 2) l g h2 (by omega) (by omega) hl (by omega)
