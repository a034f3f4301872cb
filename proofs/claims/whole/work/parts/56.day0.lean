/-! a day, as both do it -/
def mn9 (y : Int32) : Int32 := if y < 999 then y else 999
def mnP (y : Int32) : Int32 := if y < 99999 then y else 99999
def fD (F0 : LF) (S : SP) (t : Int32) (k : Nat) (x : Int32) : Int32 := mx0 (fallK (ix (S.2.1 0 k)) (F0 (nI k) (irm t 30) x) (S.2.1 1 k) (S.2.1 3 k) t (S.2.2 1))
def tK (S : SP) (k : Nat) (x : Int32) : Int32 := takK (ix (S.2.1 0 k)) x
def wv (w x : Int32) : Int32 := x * w / 20
def faL (F0 : LF) (S : SP) (t : Int32) : Nat → Nat → (Nat → Int32) → (Nat → Int32)
  | 0, _, f => f
  | m + 1, k, f => faL F0 S t m (k + 1) (upd f k (mn9 (f k + fD F0 S t k (f k))))
def wiL (w : Int32) : Nat → Nat → (Nat → Int32) → (Nat → Int32)
  | 0, _, f => f
  | m + 1, k, f => wiL w m (k + 2) (upd (upd f k (f k - wv w (f k))) (k - 1) (mn9 (f (k - 1) + wv w (f k))))
def swL (S : SP) (st : Nat → Bool) : Nat → Nat → (Nat → Int32) × Int32 → (Nat → Int32) × Int32
  | 0, _, a => a
  | m + 1, k, a => swL S st m (k + 2) (if st k = true then (a.1, mnP (a.2 + S.2.2 2)) else (upd a.1 k (a.1 k - tK S k (a.1 k)), a.2))
def carb (S : SP) (k : Nat) : Bool := decide (S.2.1 3 k = 1)
def plL (S : SP) : Nat → Nat → Nat → Nat
  | 0, _, l => l
  | m + 1, k, l => plL S m (k + 2) (l + (if carb S k = true then 0 else 1))
def gob (S : SP) (l k : Nat) : Bool := carb S k && (decide (S.2.1 4 k < S.2.2 2) && decide (0 < l))
def goL (S : SP) : Nat → Nat → Nat → Nat → Nat
  | 0, _, _, g => g
  | m + 1, k, l, g => goL S m (k + 2) (if gob S l k = true then l - 1 else l) (if gob S l k = true then g + 2 ^ k else g)
def stL (S : SP) : Nat → Nat → Nat → Nat → Nat
  | 0, _, _, s => s
  | m + 1, k, l, s => stL S m (k + 2) (if gob S l k = true then l - 1 else l) (if (carb S k && !gob S l k) = true then s + 2 ^ k else s)
def hf (n s : Nat) : Nat := (n + 1 - s) / 2
def plN (S : SP) (s : Nat) : Nat := plL S (hf S.1 s) s 0
def stN (S : SP) (s l : Nat) : Nat := stL S (hf S.1 s) s l 0
def goN (S : SP) (s l : Nat) : Nat := goL S (hf S.1 s) s l 0
def dyF (F0 : LF) (S : SP) (lo hi : Nat) : Nat → Int32 := wiL (S.2.2 1) (hf hi (lo + 1)) (lo + 1) (faL F0 S (S.2.2 0) (hi - lo) lo (S.2.1 2))
def dyA (a b : Bool) (S : SP) (lo hi : Nat) (r : (Nat → Int32) × Int32) : (Nat → Int32) × Int32 := if a = true then swL S (fun j => (stN S 0 (if b = true then 0 else plN S 1)).testBit j) (hf hi lo) lo r else r
def dyB (a b : Bool) (S : SP) (lo hi : Nat) (r : (Nat → Int32) × Int32) : (Nat → Int32) × Int32 := if b = true then swL S (fun j => (stN S 1 (if a = true then 0 else plN S 0)).testBit j) (hf hi (lo + 1)) (lo + 1) r else r
def dyR (F0 : LF) (a b : Bool) (S : SP) (lo hi : Nat) : (Nat → Int32) × Int32 := dyB a b S lo hi (dyA a b S lo hi (dyF F0 S lo hi, S.2.2 3))
def dyS (F0 : LF) (a b : Bool) (S : SP) (lo hi : Nat) : SP := wS S (dyR F0 a b S lo hi).1 (dyR F0 a b S lo hi).2 (S.2.2 0 + 1)
theorem rng_nat {x : Int32} {b : Nat} (hb : b < 2 ^ 31) (h : rng x 0 b) : ∃ a : Nat, a ≤ b ∧ x = nI a := by
  obtain ⟨h1, h2⟩ := h
  have c : ¬ x < 0 := by rw [Int32.lt_iff_toInt_lt, Int32.toInt_zero]; omega
  obtain ⟨j, hj, rfl⟩ := nI_of c
  rw [nI_toInt hj] at h2
  exact ⟨j, by omega, rfl⟩
theorem mx0_e (x : Int32) : (if 0 ≤ x then x else 0) = mx0 x := by
  unfold mx0
  by_cases c : 0 < x
  · rw [if_pos c, if_pos (by rw [Int32.lt_iff_toInt_lt] at c; rw [Int32.le_iff_toInt_le]; omega)]
  · rw [if_neg c]
    by_cases d : 0 ≤ x
    · rw [if_pos d]
      refine i32_asym ?_ d
      rw [Int32.lt_iff_toInt_lt] at c
      rw [Int32.le_iff_toInt_le]; omega
    · rw [if_neg d]
theorem mx0_nI {a : Nat} (h : a < 2 ^ 31) : mx0 (nI a) = nI a := by rw [← mx0_e, if_pos (nI_pos' h)]
theorem mx0_sub {a r : Nat} (ha : a < 2 ^ 30) (hr : r < 2 ^ 30) : mx0 (nI a - nI r) = nI (a - r) := by
  by_cases c : r ≤ a
  · rw [pk_sub c, mx0_nI (by omega)]
  · unfold mx0
    have h : nI a - nI r < 0 := pk_sneg hr (by omega)
    rw [if_neg (fun q => by rw [Int32.lt_iff_toInt_lt] at h q; omega), show a - r = 0 by omega]; rfl
theorem fD_r {F0 : LF} {S : SP} {D : Int} {k : Nat} {t x : Int32} (hS : SPok S D) (hF : FR0 F0) (hk : k < S.1) : ∃ v : Nat, v ≤ 300 ∧ fD F0 S t k x = nI v := by
  obtain ⟨-, h2, -, hw, -⟩ := hS
  obtain ⟨⟨κ, hκ, e0⟩, h1, -, h3, -⟩ := h2 k hk
  obtain ⟨a, ha, ea⟩ := rng_nat (b := 99) (by decide) (hF (nI k) (irm t 30) x)
  obtain ⟨b, hb, eb⟩ := rng_nat (b := 9) (by decide) h1
  obtain ⟨w, hw, ew⟩ := rng_nat (b := 9) (by decide) hw
  obtain ⟨c, hc, ec⟩ : ∃ c : Nat, c ≤ 1 ∧ S.2.1 3 k = nI c := by
    rcases h3 with q | q
    · exact ⟨0, by decide, q⟩
    · exact ⟨1, by decide, q⟩
  unfold fD
  rw [e0, ea, eb, ec, ew, ix_nI (by omega)]
  have em : irm (nI b) 3 = nI (b % 3) := irm_e (by omega) (by decide) (by decide)
  have ed : nI a / (2 : Int32) = nI (a / 2) := pk_div (by omega) (by decide) (by decide)
  rcases (show κ = 0 ∨ κ = 1 ∨ κ = 2 ∨ κ = 3 ∨ κ = 4 ∨ κ = 5 ∨ κ = 6 by omega) with rfl | rfl | rfl | rfl | rfl | rfl | rfl
  · exact ⟨a, by omega, mx0_nI (by omega)⟩
  · refine ⟨a - b % 3, by omega, ?_⟩
    show mx0 (nI a - irm (nI b) 3) = _
    rw [em, mx0_sub (by omega) (by omega)]
  · refine ⟨a / 2, by omega, ?_⟩
    show mx0 (nI a / 2) = _
    rw [ed, mx0_nI (by omega)]
  · refine ⟨a + c, by omega, ?_⟩
    show mx0 (nI a + nI c) = _
    rw [nI_add, mx0_nI (by omega)]
  · show ∃ v : Nat, v ≤ 300 ∧ mx0 (2 * (nI a - irm (nI b) 3)) = nI v
    rw [em]
    by_cases q : b % 3 ≤ a
    · refine ⟨2 * (a - b % 3), by omega, ?_⟩
      rw [pk_sub q, show (2 : Int32) = nI 2 from rfl, pk_mul, mx0_nI (by omega)]
    · refine ⟨0, by omega, ?_⟩
      rcases (show (a = 0 ∧ b % 3 = 1) ∨ (a = 0 ∧ b % 3 = 2) ∨ (a = 1 ∧ b % 3 = 2) by omega) with ⟨q1, q2⟩ | ⟨q1, q2⟩ | ⟨q1, q2⟩ <;> rw [q1, q2] <;> decide
  · by_cases q : irm t 7 = 0
    · refine ⟨a / 2 + b, by omega, ?_⟩
      show mx0 (nI a / 2 + (if irm t 7 = 0 then nI b else 0)) = _
      rw [if_pos q, ed, nI_add, mx0_nI (by omega)]
    · refine ⟨a / 2 + 0, by omega, ?_⟩
      show mx0 (nI a / 2 + (if irm t 7 = 0 then nI b else 0)) = _
      rw [if_neg q, ed, show (0 : Int32) = nI 0 from rfl, nI_add, mx0_nI (by omega)]
  · refine ⟨a + c + w, by omega, ?_⟩
    show mx0 (nI a + nI c + nI w) = _
    rw [nI_add, nI_add, mx0_nI (by omega)]
theorem tK_r {S : SP} {D : Int} {k a : Nat} (hS : SPok S D) (hk : k < S.1) (ha : a ≤ 999) : ∃ v : Nat, v ≤ a ∧ tK S k (nI a) = nI v := by
  obtain ⟨-, h2, -⟩ := hS
  obtain ⟨⟨κ, hκ, e0⟩, -⟩ := h2 k hk
  unfold tK
  rw [e0, ix_nI (by omega)]
  have em : nI a - irm (nI a) 2 = nI (a - a % 2) := by
    have e : irm (nI a) 2 = nI (a % 2) := irm_e (by omega) (by decide) (by decide)
    rw [e, pk_sub (by omega)]
  have ed : nI a / (2 : Int32) = nI (a / 2) := pk_div (by omega) (by decide) (by decide)
  have h50 : ∃ v : Nat, v ≤ a ∧ (if 50 < nI a then 50 else nI a) = nI v := by
    by_cases c : 50 < nI a
    · have := (nI_ltI (a := 50) (b := a) (by decide) (by omega)).mp c
      exact ⟨50, by omega, if_pos c⟩
    · exact ⟨a, by omega, if_neg c⟩
  rcases (show κ = 0 ∨ κ = 1 ∨ κ = 2 ∨ κ = 3 ∨ κ = 4 ∨ κ = 5 ∨ κ = 6 by omega) with rfl | rfl | rfl | rfl | rfl | rfl | rfl
  · exact ⟨a, by omega, rfl⟩
  · exact ⟨a - a % 2, by omega, em⟩
  · exact ⟨a / 2, by omega, ed⟩
  · exact h50
  · show ∃ v : Nat, v ≤ a ∧ (if 99 < nI a - irm (nI a) 2 then 99 else nI a - irm (nI a) 2) = nI v
    rw [em]
    by_cases c : 99 < nI (a - a % 2)
    · have := (nI_ltI (a := 99) (b := a - a % 2) (by decide) (by omega)).mp c
      exact ⟨99, by omega, if_pos c⟩
    · exact ⟨a - a % 2, by omega, if_neg c⟩
  · show ∃ v : Nat, v ≤ a ∧ (if nI a < nI a / 2 + 10 then nI a else nI a / 2 + 10) = nI v
    have e10 : nI (a / 2) + 10 = nI (a / 2 + 10) := nI_add (a / 2) 10
    rw [ed, e10]
    by_cases c : nI a < nI (a / 2 + 10)
    · exact ⟨a, by omega, if_pos c⟩
    · have : ¬ a < a / 2 + 10 := fun q => c ((nI_ltI (by omega) (by omega)).mpr q)
      exact ⟨a / 2 + 10, by omega, if_neg c⟩
  · exact h50
/-- held between 0 and 999 -/
theorem mn9_r {a b : Nat} (ha : a ≤ 999) (hb : b ≤ 999) : rng (mn9 (nI a + nI b)) 0 999 ∧ (if 0 ≤ nI a + nI b then (if nI a + nI b ≤ 999 then nI a + nI b else 999) else 0) = mn9 (nI a + nI b) := by
  rw [nI_add]
  unfold mn9
  by_cases c : nI (a + b) < 999
  · have c2 := (nI_ltI (a := a + b) (b := 999) (by omega) (by decide)).mp c
    rw [if_pos c, if_pos (nI_pos' (by omega)), if_pos (show nI (a + b) ≤ (999 : Int32) from nI_le (a := a + b) (b := 999) (by omega) (by decide))]
    exact ⟨rng_nI (b := 999) (by omega) (by decide), rfl⟩
  · rw [if_neg c, if_pos (nI_pos' (by omega))]
    refine ⟨rng_nI (a := 999) (b := 999) (by omega) (by decide), ?_⟩
    by_cases c3 : nI (a + b) ≤ 999
    · rw [if_pos c3]
      refine i32_asym c3 ?_
      rw [Int32.lt_iff_toInt_lt] at c
      rw [Int32.le_iff_toInt_le]; omega
    · rw [if_neg c3]
theorem mnP_r {a b : Nat} (ha : a ≤ 99999) (hb : b ≤ 99) : rng (mnP (nI a + nI b)) 0 99999 ∧ (if 0 ≤ nI a + nI b then (if nI a + nI b ≤ 99999 then nI a + nI b else 99999) else 0) = mnP (nI a + nI b) := by
  rw [nI_add]
  unfold mnP
  by_cases c : nI (a + b) < 99999
  · have c2 := (nI_ltI (a := a + b) (b := 99999) (by omega) (by decide)).mp c
    rw [if_pos c, if_pos (nI_pos' (by omega)), if_pos (show nI (a + b) ≤ (99999 : Int32) from nI_le (a := a + b) (b := 99999) (by omega) (by decide))]
    exact ⟨rng_nI (b := 99999) (by omega) (by decide), rfl⟩
  · rw [if_neg c, if_pos (nI_pos' (by omega))]
    refine ⟨rng_nI (a := 99999) (b := 99999) (by omega) (by decide), ?_⟩
    by_cases c3 : nI (a + b) ≤ 99999
    · rw [if_pos c3]
      refine i32_asym c3 ?_
      rw [Int32.lt_iff_toInt_lt] at c
      rw [Int32.le_iff_toInt_le]; omega
    · rw [if_neg c3]
theorem wv_r {a w : Nat} (ha : a ≤ 999) (hw : w ≤ 9) : ∃ v : Nat, v ≤ a ∧ v ≤ 999 ∧ wv (nI w) (nI a) = nI v := by
  unfold wv
  have h1 : a * w ≤ 999 * 9 := Nat.mul_le_mul ha hw
  have h2 : a * w ≤ a * 9 := Nat.mul_le_mul_left a hw
  have e : nI (a * w) / (20 : Int32) = nI (a * w / 20) := pk_div (by omega) (by decide) (by decide)
  rw [pk_mul, e]
  exact ⟨a * w / 20, by omega, by omega, rfl⟩
theorem wS_ok {S : SP} {D D' : Int} {f : Nat → Int32} {p t : Int32} (h : SPok S D) (hf : ∀ j, j < S.1 → rng (f j) 0 999) (hp : rng p 0 99999) (ht : rng t 0 D') : SPok (wS S f p t) D' := by
  obtain ⟨h1, h2, h3, h4, h5, h6⟩ := h
  exact ⟨h1, fun k hk => ⟨(h2 k hk).1, (h2 k hk).2.1, hf k hk, (h2 k hk).2.2.2.1, (h2 k hk).2.2.2.2⟩, ht, h4, h5, hp⟩
