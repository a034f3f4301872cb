theorem goC6 {S : SP} {D : Int} {τ : CS} {d s : Nat} (hS : SPok S D) (hc : CStr τ d S) (hs : s < 2) : ∀ (m n k l : Nat), hf S.1 k = m → m < n → k < 100 → l + m < 100 → N_S_goers_b6 d n (nI s) (nI l) (nI k) τ = some (nI (goN S s (plL S m k l)), τ) := by
  have h12 := hS.1
  intro m
  induction m with
  | zero =>
    intro n k l hm hn hk hl
    obtain ⟨n, rfl⟩ : ∃ q, n = q + 1 := ⟨n - 1, by omega⟩
    have c1 : nI S.1 ≤ nI k := nI_le (hf_0 hm) (by omega)
    have h13 : hf S.1 s ≤ 6 := by unfold hf; omega
    have hF : FU = 1000 := rfl
    simp only [N_S_goers_b6, hc.1, if_pos c1, plL]
    exact goC hS hc (hf S.1 s) FU s l 0 rfl (by omega) (by omega) (by omega) (Nat.two_pow_pos s)
  | succ m ih =>
    intro n k l hm hn hk hl
    obtain ⟨n, rfl⟩ : ∃ q, n = q + 1 := ⟨n - 1, by omega⟩
    obtain ⟨h1, h2⟩ := hf_s hm
    have c1 : ¬ nI S.1 ≤ nI k := nI_ge h1 (by omega)
    simp only [N_S_goers_b6, hc.1, if_neg c1, carOf_e h12 hc h1, ob_s, lt_e, car_pl hS h1, nI_2]
    exact ih n (k + 2) _ h2 (by omega) (by omega) (by split <;> omega)
theorem goersC {S : SP} {D : Int} {τ : CS} {d s : Nat} (hS : SPok S D) (hc : CStr τ d S) (hs : s < 2) : N_S_goers d (nI s) τ = some (nI (goN S s (plN S (1 - s))), τ) := by
  have h12 := hS.1
  have h13 : hf S.1 (1 - s) ≤ 6 := by unfold hf; omega
  have hF : FU = 1000 := rfl
  have e : (1 : Int32) - nI s = nI (1 - s) := pk_sub (a := 1) (by omega)
  unfold N_S_goers
  rw [lt_e, e]
  exact goC6 hS hc hs (hf S.1 (1 - s)) FU (1 - s) 0 rfl (by omega) (by omega) (by omega)
theorem stR {S : SP} {D : Int} {σ : RS} (hS : SPok S D) (hr : RRow (σ.2 0) S) : ∀ (m n k l s : Nat), hf S.1 k = m → m < n → k < 100 → l < 1000 → s < 2 ^ k → M_stayers_b8 n (nI l) (nI s) (nI k) σ = some (nI (stL S m k l s), σ) := by
  have h12 := hS.1
  intro m
  induction m with
  | zero =>
    intro n k l g hm hn hk hl hg
    obtain ⟨n, rfl⟩ : ∃ q, n = q + 1 := ⟨n - 1, by omega⟩
    have c1 : nI S.1 ≤ nI k := nI_le (hf_0 hm) (by omega)
    simp only [M_stayers_b8, hr.1, if_pos c1, stL]
  | succ m ih =>
    intro n k l g hm hn hk hl hg
    obtain ⟨n, rfl⟩ : ∃ q, n = q + 1 := ⟨n - 1, by omega⟩
    obtain ⟨h1, h2⟩ := hf_s hm
    have c1 : ¬ nI S.1 ≤ nI k := nI_ge h1 (by omega)
    have p1 : (2 : Nat) ^ (k + 2) = 4 * 2 ^ k := by rw [Nat.pow_add]; omega
    have i3 : M_its (nI k) 3 σ = some (S.2.1 3 k, σ) := its_S h12 hr h1 (by decide : 3 < 5)
    have i4 : M_its (nI k) 4 σ = some (S.2.1 4 k, σ) := its_S h12 hr h1 (by decide : 4 < 5)
    have f1 : σ.2 0 8 = S.2.2 2 := hr.2.2.2.2.1
    have z0 : ∀ l : Nat, nI l - (0 : Int32) = nI l := fun l => pk_sub (b := 0) (by omega)
    have o0 : nI g ||| (0 : Int32) = nI g := by
      have := ofn_or (a := g) (b := 0) (Nat.lt_of_lt_of_le hg (Nat.pow_le_pow_right (by decide) (by omega))) (by decide)
      rw [Nat.or_zero] at this
      exact this
    simp only [M_stayers_b8, hr.1, if_neg c1, i3, i4, ob_s, M_stayers_b56, f1, lt_e, nI_2, stL]
    by_cases q1 : S.2.1 3 k = 1
    · have e1 : carb S k = true := by unfold carb; rw [q1]; decide
      rw [if_pos q1, if_pos q1]
      by_cases q2 : S.2.2 2 ≤ S.2.1 4 k
      · have e2 : gob S l k = false := by
          have : ¬ S.2.1 4 k < S.2.2 2 := by rw [Int32.le_iff_toInt_le] at q2; rw [Int32.lt_iff_toInt_lt]; omega
          simp [gob, this]
        rw [if_pos q2, e1, e2, if_pos rfl, if_pos rfl, if_neg (by decide), if_pos (by decide), z0, or_pow hg (by omega)]
        exact ih n (k + 2) l (g + 2 ^ k) h2 (by omega) (by omega) hl (by omega)
      · have e3 : S.2.1 4 k < S.2.2 2 := by rw [Int32.le_iff_toInt_le] at q2; rw [Int32.lt_iff_toInt_lt]; omega
        rw [if_neg q2]
        by_cases q3 : nI l ≤ 0
        · have e4 : l = 0 := by
            have := (nI_leI (a := l) (b := 0) (by omega) (by decide)).mp q3
            omega
          have e2 : gob S l k = false := by simp [gob, e4]
          rw [if_pos q3, e1, e2, if_pos rfl, if_pos rfl, if_neg (by decide), if_pos (by decide), z0, or_pow hg (by omega)]
          exact ih n (k + 2) l (g + 2 ^ k) h2 (by omega) (by omega) hl (by omega)
        · have e4 : 0 < l := by
            rcases Nat.eq_zero_or_pos l with z | z
            · exact absurd (by rw [z]; decide) q3
            · exact z
          have e2 : gob S l k = true := by simp [gob, e1, e3, e4]
          have e5 : nI l - (1 : Int32) = nI (l - 1) := pk_sub (b := 1) (by omega)
          rw [if_neg q3, e1, e2, if_neg (by decide), if_neg (by decide), if_pos rfl, if_neg (by decide), e5, o0]
          exact ih n (k + 2) (l - 1) g h2 (by omega) (by omega) (by omega) (by omega)
    · have e1 : carb S k = false := by simp [carb, q1]
      have e2 : gob S l k = false := by simp [gob, e1]
      rw [if_neg q1, if_neg q1, e1, e2, if_pos trivial, if_neg (by decide), if_neg (by decide), z0, o0]
      exact ih n (k + 2) l g h2 (by omega) (by omega) hl (by omega)
theorem stayR {S : SP} {D : Int} {σ : RS} {s l : Nat} (hS : SPok S D) (hr : RRow (σ.2 0) S) (hs : s < 2) (hl : l < 1000) : M_stayers (nI s) (nI l) σ = some (nI (stN S s l), σ) := by
  have h12 := hS.1
  have h13 : hf S.1 s ≤ 6 := by unfold hf; omega
  have hF : FU = 1000 := rfl
  exact stR hS hr (hf S.1 s) FU s l 0 rfl (by omega) (by omega) hl (Nat.two_pow_pos s)
theorem bpow {g k j : Nat} (hg : g < 2 ^ k) (b : Bool) : (if b = true then g + 2 ^ k else g).testBit j = (g.testBit j || (b && decide (j = k))) := by
  cases b
  · simp
  · rw [if_pos rfl, testBit_add_pow hg]; simp
theorem lt_bit {g k : Nat} (hg : g < 2 ^ k) {j : Nat} (hj : k ≤ j) : g.testBit j = false := Nat.testBit_lt_two_pow (Nat.lt_of_lt_of_le hg (Nat.pow_le_pow_right (by decide) hj))
/-- bits of the sets of those who go, who stay -/
theorem gs_bits (S : SP) : ∀ (m k l g s : Nat), hf S.1 k = m → g < 2 ^ k → s < 2 ^ k → ∀ j, (goL S m k l g).testBit j = (if k ≤ j ∧ j < S.1 ∧ j % 2 = k % 2 then (goL S m k l g).testBit j else g.testBit j) ∧ (stL S m k l s).testBit j = (if k ≤ j ∧ j < S.1 ∧ j % 2 = k % 2 then (carb S j && !(goL S m k l g).testBit j) else s.testBit j) := by
  intro m
  induction m with
  | zero =>
    intro k l g s hm hg hs j
    have := hf_0 hm
    rw [if_neg (by omega), if_neg (by omega)]
    exact ⟨rfl, rfl⟩
  | succ m ih =>
    intro k l g s hm hg hs j
    obtain ⟨h1, h2⟩ := hf_s hm
    have p1 : (2 : Nat) ^ (k + 2) = 4 * 2 ^ k := by rw [Nat.pow_add]; omega
    have b1 : (if gob S l k = true then g + 2 ^ k else g) < 2 ^ (k + 2) := by split <;> omega
    have b2 : (if (carb S k && !gob S l k) = true then s + 2 ^ k else s) < 2 ^ (k + 2) := by split <;> omega
    obtain ⟨i1, i2⟩ := ih (k + 2) (if gob S l k = true then l - 1 else l) _ _ h2 b1 b2 j
    have eg : goL S (m + 1) k l g = goL S m (k + 2) (if gob S l k = true then l - 1 else l) (if gob S l k = true then g + 2 ^ k else g) := rfl
    have es : stL S (m + 1) k l s = stL S m (k + 2) (if gob S l k = true then l - 1 else l) (if (carb S k && !gob S l k) = true then s + 2 ^ k else s) := rfl
    rw [eg, es]
    by_cases c : k + 2 ≤ j ∧ j < S.1 ∧ j % 2 = (k + 2) % 2
    · rw [if_pos c] at i2
      rw [if_pos (show k ≤ j ∧ j < S.1 ∧ j % 2 = k % 2 by omega), if_pos (show k ≤ j ∧ j < S.1 ∧ j % 2 = k % 2 by omega)]
      exact ⟨rfl, i2⟩
    · rw [if_neg c] at i1 i2
      rw [bpow hg] at i1
      rw [bpow hs] at i2
      by_cases cj : j = k
      · subst cj
        rw [if_pos (show j ≤ j ∧ j < S.1 ∧ j % 2 = j % 2 by omega), if_pos (show j ≤ j ∧ j < S.1 ∧ j % 2 = j % 2 by omega), i1, i2, lt_bit hg (Nat.le_refl _), lt_bit hs (Nat.le_refl _)]
        refine ⟨rfl, ?_⟩
        cases carb S j <;> cases gob S l j <;> simp
      · rw [if_neg (show ¬ (k ≤ j ∧ j < S.1 ∧ j % 2 = k % 2) by omega), if_neg (show ¬ (k ≤ j ∧ j < S.1 ∧ j % 2 = k % 2) by omega), i1, i2]
        simp [cj]
theorem st_bit {S : SP} {s l j : Nat} (hs : s < 2) : (stN S s l).testBit j = (decide (s ≤ j ∧ j < S.1 ∧ j % 2 = s % 2) && (carb S j && !(goN S s l).testBit j)) := by
  obtain ⟨-, h⟩ := gs_bits S (hf S.1 s) s l 0 0 rfl (Nat.two_pow_pos s) (Nat.two_pow_pos s) j
  have e : (stN S s l) = stL S (hf S.1 s) s l 0 := rfl
  have e2 : (goN S s l) = goL S (hf S.1 s) s l 0 := rfl
  rw [e, e2, h]
  by_cases c : s ≤ j ∧ j < S.1 ∧ j % 2 = s % 2
  · rw [if_pos c, decide_eq_true c]; simp
  · rw [if_neg c, decide_eq_false c]; simp
theorem goL_0 (S : SP) : ∀ (m k g : Nat), goL S m k 0 g = g := by
  intro m
  induction m with
  | zero => intro k g; rfl
  | succ m ih =>
    intro k g
    have e : gob S 0 k = false := by simp [gob]
    show goL S m (k + 2) (if gob S 0 k = true then 0 - 1 else 0) (if gob S 0 k = true then g + 2 ^ k else g) = g
    rw [e, if_neg (by decide), if_neg (by decide)]
    exact ih (k + 2) g
theorem st_bit0 {S : SP} {s j : Nat} (hs : s < 2) (h : s ≤ j ∧ j < S.1 ∧ j % 2 = s % 2) : (stN S s 0).testBit j = carb S j := by
  rw [st_bit hs, decide_eq_true h]
  have e : goN S s 0 = 0 := goL_0 S _ _ _
  rw [e]; simp
theorem goL_lt {S : SP} : ∀ (m k l g : Nat), hf S.1 k = m → k ≤ S.1 + 1 → g < 2 ^ k → goL S m k l g < 2 ^ (S.1 + 1) := by
  intro m
  induction m with
  | zero =>
    intro k l g hm hk hg
    exact Nat.lt_of_lt_of_le hg (Nat.pow_le_pow_right (by decide) hk)
  | succ m ih =>
    intro k l g hm hk hg
    obtain ⟨h1, h2⟩ := hf_s hm
    have p1 : (2 : Nat) ^ (k + 2) = 4 * 2 ^ k := by rw [Nat.pow_add]; omega
    exact ih (k + 2) _ _ h2 (by omega) (by split <;> omega)
theorem stL_lt {S : SP} : ∀ (m k l g : Nat), hf S.1 k = m → k ≤ S.1 + 1 → g < 2 ^ k → stL S m k l g < 2 ^ (S.1 + 1) := by
  intro m
  induction m with
  | zero =>
    intro k l g hm hk hg
    exact Nat.lt_of_lt_of_le hg (Nat.pow_le_pow_right (by decide) hk)
  | succ m ih =>
    intro k l g hm hk hg
    obtain ⟨h1, h2⟩ := hf_s hm
    have p1 : (2 : Nat) ^ (k + 2) = 4 * 2 ^ k := by rw [Nat.pow_add]; omega
    exact ih (k + 2) _ _ h2 (by omega) (by split <;> omega)
theorem p13 {n : Nat} (h : n ≤ 12) : (2 : Nat) ^ (n + 1) ≤ 8192 ∧ (2 : Nat) ^ n ≤ 4096 := ⟨Nat.pow_le_pow_right (n := 2) (by decide) (show n + 1 ≤ 13 by omega), Nat.pow_le_pow_right (n := 2) (by decide) h⟩
theorem goN_lt {S : SP} {s l : Nat} (hS : S.1 ≤ 12) (hs : s < 2) : goN S s l < 8192 := by
  by_cases c : s ≤ S.1 + 1
  · exact Nat.lt_of_lt_of_le (goL_lt _ s l 0 rfl c (Nat.two_pow_pos s)) (p13 hS).1
  · omega
theorem stN_lt {S : SP} {s l : Nat} (hS : S.1 ≤ 12) (hs : s < 2) : stN S s l < 8192 := by
  by_cases c : s ≤ S.1 + 1
  · exact Nat.lt_of_lt_of_le (stL_lt _ s l 0 rfl c (Nat.two_pow_pos s)) (p13 hS).1
  · omega
theorem plN_lt {S : SP} {s : Nat} (hS : S.1 ≤ 12) : plN S s < 100 := by
  have := plL_le S (hf S.1 s) s 0
  have h13 : hf S.1 s ≤ 7 := by unfold hf; omega
  unfold plN
  omega
/-- the class's set of those who stay, as the reference's -/
def ofL : Nat → Nat → Nat → Nat
  | 0, _, s => s
  | m + 1, k, s => ofL m (k + 2) (s + 2 ^ k)
theorem ofL_bit (n : Nat) : ∀ (m k s : Nat), hf n k = m → s < 2 ^ k → ∀ j, (ofL m k s).testBit j = (decide (k ≤ j ∧ j < n ∧ j % 2 = k % 2) || s.testBit j) := by
  intro m
  induction m with
  | zero =>
    intro k s hm hs j
    have := hf_0 hm
    rw [decide_eq_false (by omega)]; simp [ofL]
  | succ m ih =>
    intro k s hm hs j
    obtain ⟨h1, h2⟩ := hf_s hm
    have p1 : (2 : Nat) ^ (k + 2) = 4 * 2 ^ k := by rw [Nat.pow_add]; omega
    have i1 := ih (k + 2) (s + 2 ^ k) h2 (by omega) j
    show (ofL m (k + 2) (s + 2 ^ k)).testBit j = _
    rw [i1, testBit_add_pow hs]
    by_cases cj : j = k
    · subst cj
      rw [decide_eq_true (p := j ≤ j ∧ j < n ∧ j % 2 = j % 2) (by omega)]; simp
    · by_cases c : k + 2 ≤ j ∧ j < n ∧ j % 2 = (k + 2) % 2
      · rw [decide_eq_true c, decide_eq_true (p := k ≤ j ∧ j < n ∧ j % 2 = k % 2) (by omega)]; simp
      · rw [decide_eq_false c, decide_eq_false (p := k ≤ j ∧ j < n ∧ j % 2 = k % 2) (by omega)]; simp [cj]
theorem ofL_lt {n : Nat} : ∀ (m k s : Nat), hf n k = m → k ≤ n + 1 → s < 2 ^ k → ofL m k s < 2 ^ (n + 1) := by
  intro m
  induction m with
  | zero =>
    intro k s hm hk hg
    exact Nat.lt_of_lt_of_le hg (Nat.pow_le_pow_right (by decide) hk)
  | succ m ih =>
    intro k s hm hk hg
    obtain ⟨h1, h2⟩ := hf_s hm
    have p1 : (2 : Nat) ^ (k + 2) = 4 * 2 ^ k := by rw [Nat.pow_add]; omega
    exact ih (k + 2) _ h2 (by omega) (by omega)
theorem stayC4 {S : SP} {D : Int} {τ : CS} {d s : Nat} (hS : SPok S D) (hc : CStr τ d S) (hs : s < 2) : ∀ (m n k z : Nat), hf S.1 k = m → m < n → k < 100 → z < 2 ^ k → N_S_stayers_b4 d n (nI s) (nI z) (nI k) τ = some (((τ.1 d 6 &&& nI (ofL m k z)) &&& (nI (goN S s (plN S (1 - s))) ^^^ -1)), τ) := by
  have h12 := hS.1
  intro m
  induction m with
  | zero =>
    intro n k z hm hn hk hz
    obtain ⟨n, rfl⟩ : ∃ q, n = q + 1 := ⟨n - 1, by omega⟩
    have c1 : nI S.1 ≤ nI k := nI_le (hf_0 hm) (by omega)
    simp only [N_S_stayers_b4, hc.1, if_pos c1, goersC hS hc hs, ob_s, ofL]
  | succ m ih =>
    intro n k z hm hn hk hz
    obtain ⟨n, rfl⟩ : ∃ q, n = q + 1 := ⟨n - 1, by omega⟩
    obtain ⟨h1, h2⟩ := hf_s hm
    have c1 : ¬ nI S.1 ≤ nI k := nI_ge h1 (by omega)
    have p1 : (2 : Nat) ^ (k + 2) = 4 * 2 ^ k := by rw [Nat.pow_add]; omega
    simp only [N_S_stayers_b4, hc.1, if_neg c1, lt_e, or_pow hz (show k < 31 by omega), nI_2, ofL]
    exact ih n (k + 2) (z + 2 ^ k) h2 (by omega) (by omega) (by omega)
theorem stayC {S : SP} {D : Int} {τ : CS} {d s : Nat} (hS : SPok S D) (hc : CStr τ d S) (hs : s < 2) : N_S_stayers d (nI s) τ = some (nI (stN S s (plN S (1 - s))), τ) := by
  have h12 := hS.1
  have h13 : hf S.1 s ≤ 6 := by unfold hf; omega
  have hF : FU = 1000 := rfl
  have e := stayC4 hS hc hs (hf S.1 s) FU s 0 rfl (by omega) (by omega) (Nat.two_pow_pos s)
  have e' : N_S_stayers d (nI s) τ = some (((τ.1 d 6 &&& nI (ofL (hf S.1 s) s 0)) &&& (nI (goN S s (plN S (1 - s))) ^^^ -1)), τ) := e
  obtain ⟨-, -, ⟨c, c1, c2, c3⟩, -⟩ := hc
  have q1 := p13 h12
  have hg := goN_lt (S := S) (s := s) (l := plN S (1 - s)) h12 hs
  have ho : ofL (hf S.1 s) s 0 < 8192 := by
    by_cases c : s ≤ S.1 + 1
    · exact Nat.lt_of_lt_of_le (ofL_lt _ s 0 rfl c (Nat.two_pow_pos s)) q1.1
    · omega
  have ha : c &&& ofL (hf S.1 s) s 0 ≤ c := Nat.and_le_left
  rw [e', c2, ofn_and (by omega) (by omega), ofn_nand (by omega) (by omega)]
  congr 3
  apply Nat.eq_of_testBit_eq
  intro j
  rw [nand_bit, Nat.testBit_and, ofL_bit S.1 _ s 0 rfl (Nat.two_pow_pos s), st_bit hs]
  by_cases q : s ≤ j ∧ j < S.1 ∧ j % 2 = s % 2
  · rw [decide_eq_true q, car_bit (c3 j q.2.1)]
    cases c.testBit j <;> simp
  · rw [decide_eq_false q]; simp
