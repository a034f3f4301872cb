/-! a day of the class -/
theorem CW_L {τ0 τ : CS} {d : Nat} {S : SP} {F0 F1 : LF} (h : CL τ0 d F0 F1) (w : CW τ0 d S τ) : LawC τ (τ.2.2 d 11) F0 ∧ LawC τ (τ.2.2 d 12) F1 := by
  obtain ⟨hd, l0, l1⟩ := h
  have hl := fr_l (by omega) w.2
  rw [w.2.1]
  exact ⟨l0.same hl, l1.same hl⟩
theorem rng_upd {n k : Nat} {f : Nat → Int32} {v : Int32} {a b : Int} (h : ∀ j, j < n → rng (f j) a b) (hv : rng v a b) : ∀ j, j < n → rng (upd f k v j) a b := fun j hj => by
  by_cases c : j = k
  · subst c; rw [upd_eq]; exact hv
  · rw [upd_ne _ _ c]; exact h j hj
theorem faC {τ0 : CS} {d : Nat} {S : SP} {D D' : Int} {F0 F1 : LF} {p t lo sg : Int32} {hi : Nat} (hL : CL τ0 d F0 F1) (hF : FR0 F0) (hS : SPok S D) (hp : rng p 0 99999) (ht : rng t 0 D') (hhi : hi ≤ S.1) : ∀ (m n k : Nat) (f : Nat → Int32) (τ : CS), k + m = hi → m < n → (∀ j, j < S.1 → rng (f j) 0 999) → CW τ0 d (wS S f p t) τ → ∃ τ', N_S_passPart_b3 d n lo (nI hi) sg (nI k) τ = N_S_passPart_b47 d FU lo (nI hi) sg (lo + 1) τ' ∧ CW τ0 d (wS S (faL F0 S t m k f) p t) τ' ∧ ∀ j, j < S.1 → rng (faL F0 S t m k f j) 0 999 := by
  have h12 := hS.1
  have hd : d < 8 := by have := hL.1; omega
  intro m
  induction m with
  | zero =>
    intro n k f τ hm hn hf w
    obtain ⟨n, rfl⟩ : ∃ q, n = q + 1 := ⟨n - 1, by omega⟩
    have c1 : nI hi ≤ nI k := nI_le (by omega) (by omega)
    simp only [N_S_passPart_b3, if_pos c1, lt_e]
    exact ⟨τ, rfl, w, hf⟩
  | succ m ih =>
    intro n k f τ hm hn hf w
    obtain ⟨n, rfl⟩ : ∃ q, n = q + 1 := ⟨n - 1, by omega⟩
    have hk : k < S.1 := by omega
    have c1 : ¬ nI hi ≤ nI k := nI_ge (by omega) (by omega)
    have b1 : inb (nI k) 12 = true := inb_nI (by omega) (by decide)
    have x1 : ix (nI k) = k := ix_nI (by omega)
    obtain ⟨τ1, e1, q1⟩ := fallsC hd (wS_ok hS hf hp ht) w.1 (CW_L hL w).1 hk
    have e1' : N_S_fallsNow d (nI k) τ = some (fD F0 S t k (f k), τ1) := e1
    have hdk : τ.2.1 d 3 k = f k := (w.1.2.1 k hk).2.2.1
    obtain ⟨a, ha, ea⟩ := rng_nat (b := 999) (by decide) (hf k hk)
    obtain ⟨v, hv, ev⟩ := fD_r (t := t) (x := f k) hS hF hk
    have hr : rng (mn9 (f k + fD F0 S t k (f k))) 0 999 := by rw [ev, ea]; exact (mn9_r ha (by omega)).1
    simp only [N_S_passPart_b3, if_neg c1, gd_t b1, e1', ob_s, lt_e, x1, hdk, nI_1]
    exact ih n (k + 1) (upd f k (mn9 (f k + fD F0 S t k (f k)))) _ (by omega) (by omega) (rng_upd hf hr) (CW.dirt (w.ceq hd q1))
theorem wiC {τ0 : CS} {d : Nat} {S : SP} {D : Int} {p t lo sg : Int32} {hi : Nat} (hS : SPok S D) (hhi : hi ≤ S.1) : ∀ (m n k : Nat) (f : Nat → Int32) (τ : CS), hf hi k = m → m < n → 0 < k → k < 100 → (∀ j, j < S.1 → rng (f j) 0 999) → CW τ0 d (wS S f p t) τ → ∃ τ', N_S_passPart_b47 d n lo (nI hi) sg (nI k) τ = (ob (N_S_sweep d lo (nI hi) sg τ') fun _ s => lt (si s d 7 ((s.1 d 7) + 1)) fun s2 => some (0, s2)) ∧ CW τ0 d (wS S (wiL (S.2.2 1) m k f) p t) τ' ∧ ∀ j, j < S.1 → rng (wiL (S.2.2 1) m k f j) 0 999 := by
  have h12 := hS.1
  intro m
  induction m with
  | zero =>
    intro n k f τ hm hn hk0 hk hf w
    obtain ⟨n, rfl⟩ : ∃ q, n = q + 1 := ⟨n - 1, by omega⟩
    have c1 : nI hi ≤ nI k := nI_le (hf_0 hm) (by omega)
    simp only [N_S_passPart_b47, if_pos c1]
    exact ⟨τ, rfl, w, hf⟩
  | succ m ih =>
    intro n k f τ hm hn hk0 hk hf w
    obtain ⟨n, rfl⟩ : ∃ q, n = q + 1 := ⟨n - 1, by omega⟩
    obtain ⟨h1, h2⟩ := hf_s hm
    have hkS : k < S.1 := by omega
    have c1 : ¬ nI hi ≤ nI k := nI_ge h1 (by omega)
    have b1 : inb (nI k) 12 = true := inb_nI (by omega) (by decide)
    have b2 : inb (nI (k - 1)) 12 = true := inb_nI (by omega) (by decide)
    have x1 : ix (nI k) = k := ix_nI (by omega)
    have x2 : ix (nI (k - 1)) = k - 1 := ix_nI (by omega)
    have e1 : nI k - (1 : Int32) = nI (k - 1) := pk_sub (b := 1) (by omega)
    have hdk : τ.2.1 d 3 k = f k := (w.1.2.1 k hkS).2.2.1
    have hw : τ.1 d 8 = S.2.2 1 := w.1.2.2.2.2.1
    have hdk1 : τ.2.1 d 3 (k - 1) = f (k - 1) := (w.1.2.1 (k - 1) (show k - 1 < S.1 by omega)).2.2.1
    obtain ⟨a, ha, ea⟩ := rng_nat (b := 999) (by decide) (hf k hkS)
    obtain ⟨b, hb, eb⟩ := rng_nat (b := 999) (by decide) (hf (k - 1) (by omega))
    obtain ⟨wn, hwn, ew⟩ := rng_nat (b := 9) (by decide) hS.2.2.2.1
    obtain ⟨v, hv1, hv2, ev⟩ := wv_r ha hwn
    have r1 : rng (f k - wv (S.2.2 1) (f k)) 0 999 := by rw [ew, ea, ev, pk_sub hv1]; exact rng_nI (b := 999) (by omega) (by decide)
    have r2 : rng (mn9 (f (k - 1) + wv (S.2.2 1) (f k))) 0 999 := by rw [ew, ea, ev, eb]; exact (mn9_r hb hv2).1
    have e3 : (sa τ d 3 (upd (τ.2.1 d 3) k (f k - f k * S.2.2 1 / 20))).2.1 d 3 (k - 1) = f (k - 1) := by rw [sa_eq, upd_ne _ _ (by omega)]; exact hdk1
    simp only [N_S_passPart_b47, if_neg c1, gd_t b1, x1, hdk, hw, lt_e, e1, gd_t b2, x2, e3, nI_2]
    exact ih n (k + 2) (upd (upd f k (f k - wv (S.2.2 1) (f k))) (k - 1) (mn9 (f (k - 1) + wv (S.2.2 1) (f k)))) _ h2 (by omega) (by omega) (by omega) (rng_upd (rng_upd hf r1) r2) (CW.dirt (CW.dirt w))
theorem swC {τ0 : CS} {d : Nat} {S : SP} {D D' : Int} {t x1 x3 x4 : Int32} {hi sy : Nat} {st : Nat → Bool} {ag3 : Int32 → Int32 → Int32 → Int32 → CS → Option (Int32 × CS)} (hS : SPok S D) (ht : rng t 0 D') (hhi : hi ≤ S.1) (hsy : sy < 2 ^ 31) : ∀ (m n k : Nat) (a : (Nat → Int32) × Int32) (τ : CS), hf hi k = m → m < n → k < 100 → (∀ j, k ≤ j → j < hi → j % 2 = k % 2 → sy.testBit j = st j) → (∀ j, j < S.1 → rng (a.1 j) 0 999) → rng a.2 0 99999 → CW τ0 d (wS S a.1 a.2 t) τ → ∃ τ', N_S_sweep_b54 d ag3 n x1 (nI hi) x3 x4 (nI sy) (nI k) τ = ag3 x1 (nI hi) x3 (x4 + 1) τ' ∧ CW τ0 d (wS S (swL S st m k a).1 (swL S st m k a).2 t) τ' ∧ (∀ j, j < S.1 → rng ((swL S st m k a).1 j) 0 999) ∧ rng (swL S st m k a).2 0 99999 := by
  have h12 := hS.1
  intro m
  induction m with
  | zero =>
    intro n k a τ hm hn hk hst hf hp w
    obtain ⟨n, rfl⟩ : ∃ q, n = q + 1 := ⟨n - 1, by omega⟩
    have c1 : nI hi ≤ nI k := nI_le (hf_0 hm) (by omega)
    simp only [N_S_sweep_b54, if_pos c1, N_S_sweep_b124]
    exact ⟨τ, rfl, w, hf, hp⟩
  | succ m ih =>
    intro n k a τ hm hn hk hst hf hp w
    obtain ⟨n, rfl⟩ : ∃ q, n = q + 1 := ⟨n - 1, by omega⟩
    obtain ⟨h1, h2⟩ := hf_s hm
    have hkS : k < S.1 := by omega
    have c1 : ¬ nI hi ≤ nI k := nI_ge h1 (by omega)
    have b1 : inb (nI k) 12 = true := inb_nI (by omega) (by decide)
    have x1' : ix (nI k) = k := ix_nI (by omega)
    have hdk : τ.2.1 d 3 k = a.1 k := (w.1.2.1 k hkS).2.2.1
    have hfi : τ.1 d 9 = S.2.2 2 := w.1.2.2.2.2.2.1
    have hpe : τ.1 d 10 = a.2 := w.1.2.2.2.2.2.2
    have hb : sy.testBit k = st k := hst k (Nat.le_refl _) h1 rfl
    have hst' : ∀ j, k + 2 ≤ j → j < hi → j % 2 = (k + 2) % 2 → sy.testBit j = st j := fun j q1 q2 q3 => hst j (by omega) q2 (by omega)
    simp only [N_S_sweep_b54, if_neg c1, bit_b hsy (show k < 31 by omega), b01_1, hb, N_S_sweep_b118, nI_2, hfi, hpe, lt_e, swL]
    by_cases q : st k = true
    · rw [if_pos q, if_pos q]
      obtain ⟨pa, hpa, epa⟩ := rng_nat (b := 99999) (by decide) hp
      obtain ⟨fi, hfi2, efi⟩ := rng_nat (b := 99) (by decide) hS.2.2.2.2.1
      have r1 : rng (mnP (a.2 + S.2.2 2)) 0 99999 := by rw [epa, efi]; exact (mnP_r hpa hfi2).1
      exact ih n (k + 2) (a.1, mnP (a.2 + S.2.2 2)) _ h2 (by omega) (by omega) hst' hf r1 (CW.pen w)
    · rw [if_neg q, if_neg q]
      obtain ⟨xa, hxa, exa⟩ := rng_nat (b := 999) (by decide) (hf k hkS)
      obtain ⟨v, hv, ev⟩ := tK_r hS hkS hxa
      have r1 : rng (a.1 k - tK S k (a.1 k)) 0 999 := by rw [exa, ev, pk_sub hv]; exact rng_nI (b := 999) (by omega) (by decide)
      have ek0 := kindOf_e (S := wS S a.1 a.2 t) (k := k) (wS_ok hS hf hp ht) w.1 hkS
      have ek : N_S_kindOf d (nI k) τ = some (ix (S.2.1 0 k), τ) := ek0
      rw [gd_t b1, ek, ob_s, gd_t b1, x1', hdk, Dtaken_e, ob_s, gd_t b1]
      exact ih n (k + 2) (upd a.1 k (a.1 k - tK S k (a.1 k)), a.2) _ h2 (by omega) (by omega) hst' (rng_upd hf r1) hp (CW.dirt w)
theorem plL_w (S : SP) (f : Nat → Int32) (p t : Int32) : ∀ (m k l : Nat), plL (wS S f p t) m k l = plL S m k l := by
  intro m
  induction m with
  | zero => intro k l; rfl
  | succ m ih => intro k l; exact ih (k + 2) _
theorem goL_w (S : SP) (f : Nat → Int32) (p t : Int32) : ∀ (m k l g : Nat), goL (wS S f p t) m k l g = goL S m k l g := by
  intro m
  induction m with
  | zero => intro k l g; rfl
  | succ m ih => intro k l g; exact ih (k + 2) _ _
theorem stL_w (S : SP) (f : Nat → Int32) (p t : Int32) : ∀ (m k l g : Nat), stL (wS S f p t) m k l g = stL S m k l g := by
  intro m
  induction m with
  | zero => intro k l g; rfl
  | succ m ih => intro k l g; exact ih (k + 2) _ _
theorem plN_w (S : SP) (f : Nat → Int32) (p t : Int32) (s : Nat) : plN (wS S f p t) s = plN S s := plL_w S f p t _ _ _
theorem goN_w (S : SP) (f : Nat → Int32) (p t : Int32) (s l : Nat) : goN (wS S f p t) s l = goN S s l := goL_w S f p t _ _ _ _
theorem stN_w (S : SP) (f : Nat → Int32) (p t : Int32) (s l : Nat) : stN (wS S f p t) s l = stN S s l := stL_w S f p t _ _ _ _
def sgN (a b : Bool) : Nat := (if a = true then 1 else 0) + (if b = true then 2 else 0)
/-- one side of the class's sweeping -/
theorem sdC {τ0 : CS} {d : Nat} {S : SP} {D D' : Int} {t : Int32} {lo hi sg s : Nat} (hS : SPok S D) (ht : rng t 0 D') (hlo : lo % 2 = 0) (hlo2 : lo ≤ 12) (hhi : hi ≤ S.1) (hsg : sg < 4) (hs : s < 2) (n : Nat) (a : (Nat → Int32) × Int32) (τ : CS) (hf' : ∀ j, j < S.1 → rng (a.1 j) 0 999) (hp : rng a.2 0 99999) (w : CW τ0 d (wS S a.1 a.2 t) τ) : ∃ (τ' : CS) (r : (Nat → Int32) × Int32), r = (if sg.testBit s = true then swL S (fun j => (stN S s (if sg = 3 then 0 else plN S (1 - s))).testBit j) (hf hi (lo + s)) (lo + s) a else a) ∧ N_S_sweep_b3 d (n + 1) (nI lo) (nI hi) (nI sg) (nI s) τ = N_S_sweep_b3 d n (nI lo) (nI hi) (nI sg) (nI (s + 1)) τ' ∧ CW τ0 d (wS S r.1 r.2 t) τ' ∧ (∀ j, j < S.1 → rng (r.1 j) 0 999) ∧ rng r.2 0 99999 := by
  have h12 := hS.1
  have c1 : ¬ (1 : Int32) < nI s := nI_nlt (a := 1) (b := s) (by omega) (by decide)
  have hF : FU = 1000 := rfl
  have h13 : hf hi (lo + s) ≤ 7 := by unfold hf; omega
  simp only [N_S_sweep_b3, if_neg c1, bit_b (show sg < 2 ^ 31 by omega) (show s < 31 by omega), b01_0, N_S_sweep_b124, nI_1]
  by_cases q : sg.testBit s = true
  · rw [if_pos q, if_neg (show ¬ sg.testBit s = false by rw [q]; decide)]
    have hok := wS_ok (f := a.1) (p := a.2) hS hf' hp ht
    obtain ⟨c, cl, c2, c3⟩ := w.1.2.2.1
    have cl' : c < 2 ^ S.1 := cl
    have c3' : ∀ k, k < S.1 → S.2.1 3 k = nI (c / 2 ^ k % 2) := c3
    have q1 := p13 h12
    by_cases q3 : sg = 3
    · subst q3
      rw [if_pos (by decide : nI 3 = (3 : Int32)), if_pos (rfl : (3 : Nat) = 3)]
      unfold N_S_sweep_b46
      rw [lt_e, nI_add, c2]
      obtain ⟨τ', e, w', r1, r2⟩ := swC (x1 := nI lo) (x3 := nI 3) (x4 := nI s) (ag3 := N_S_sweep_b3 d n) (st := fun j => (stN S s 0).testBit j) hS ht hhi (show c < 2 ^ 31 by omega) (hf hi (lo + s)) FU (lo + s) a τ rfl (by omega) (by omega) (fun j j1 j2 j3 => by
        rw [st_bit0 hs ⟨by omega, by omega, by omega⟩, car_bit (c3' j (by omega))]) hf' hp w
      rw [nI_1] at e
      exact ⟨τ', _, rfl, e, w', r1, r2⟩
    · have q4 : ¬ nI sg = (3 : Int32) := fun z => q3 ((nI_eq (by omega) (by decide : 3 < 2 ^ 31)).mp z)
      have eg : N_S_goers d (nI s) τ = some (nI (goN S s (plN S (1 - s))), τ) := by
        have eg0 := goersC (S := wS S a.1 a.2 t) hok w.1 hs
        rw [goN_w, plN_w] at eg0
        exact eg0
      rw [if_neg q4, if_neg q3, eg, ob_s]
      unfold N_S_sweep_b46
      have hg := goN_lt (S := S) (s := s) (l := plN S (1 - s)) h12 hs
      have hn : nand c (goN S s (plN S (1 - s))) ≤ c := nand_le
      rw [lt_e, nI_add, c2, ofn_nand (by omega) (by omega)]
      obtain ⟨τ', e, w', r1, r2⟩ := swC (x1 := nI lo) (x3 := nI sg) (x4 := nI s) (ag3 := N_S_sweep_b3 d n) (st := fun j => (stN S s (plN S (1 - s))).testBit j) hS ht hhi (show nand c (goN S s (plN S (1 - s))) < 2 ^ 31 by omega) (hf hi (lo + s)) FU (lo + s) a τ rfl (by omega) (by omega) (fun j j1 j2 j3 => by
        rw [st_bit hs, decide_eq_true (p := s ≤ j ∧ j < S.1 ∧ j % 2 = s % 2) (by omega), nand_bit, car_bit (c3' j (by omega))]; simp) hf' hp w
      rw [nI_1] at e
      exact ⟨τ', _, rfl, e, w', r1, r2⟩
  · have q' : sg.testBit s = false := by cases h : sg.testBit s; rfl; exact absurd h q
    rw [if_neg q, if_pos q']
    exact ⟨τ, a, rfl, rfl, w, hf', hp⟩
theorem sgN_b (a b : Bool) : sgN a b < 4 ∧ (sgN a b).testBit 0 = a ∧ (sgN a b).testBit 1 = b ∧ (sgN a b = 3 ↔ a = true ∧ b = true) := by
  cases a <;> cases b <;> decide
theorem swpC {τ0 : CS} {d : Nat} {S : SP} {D D' : Int} {t : Int32} {lo hi : Nat} {a b : Bool} (hS : SPok S D) (ht : rng t 0 D') (hlo : lo % 2 = 0) (hlo2 : lo ≤ 12) (hhi : hi ≤ S.1) (r0 : (Nat → Int32) × Int32) (τ : CS) (hf' : ∀ j, j < S.1 → rng (r0.1 j) 0 999) (hp : rng r0.2 0 99999) (w : CW τ0 d (wS S r0.1 r0.2 t) τ) : ∃ (τ' : CS) (r : (Nat → Int32) × Int32), r = dyB a b S lo hi (dyA a b S lo hi r0) ∧ N_S_sweep d (nI lo) (nI hi) (nI (sgN a b)) τ = some (0, τ') ∧ CW τ0 d (wS S r.1 r.2 t) τ' ∧ (∀ j, j < S.1 → rng (r.1 j) 0 999) ∧ rng r.2 0 99999 := by
  obtain ⟨s1, s2, s3, s4⟩ := sgN_b a b
  obtain ⟨nn, hnn⟩ : ∃ nn, FU = nn + 3 := ⟨997, rfl⟩
  obtain ⟨τ1, r1, e1, k1, w1, f1, p1⟩ := sdC hS ht hlo hlo2 hhi s1 (show 0 < 2 by decide) (nn + 2) r0 τ hf' hp w
  obtain ⟨τ2, r2, e2, k2, w2, f2, p2⟩ := sdC hS ht hlo hlo2 hhi s1 (show 1 < 2 by decide) (nn + 1) r1 τ1 f1 p1 w1
  refine ⟨τ2, r2, ?_, ?_, w2, f2, p2⟩
  · rw [e2, s3]
    rw [s2] at e1
    unfold dyB dyA
    cases a <;> cases b
    · rw [e1]; rfl
    · rw [e1]; rfl
    · rw [e1]; rfl
    · rw [e1]; rfl
  · unfold N_S_sweep
    have k1' : N_S_sweep_b3 d (nn + 3) (nI lo) (nI hi) (nI (sgN a b)) 0 τ = N_S_sweep_b3 d (nn + 2) (nI lo) (nI hi) (nI (sgN a b)) (nI (0 + 1)) τ1 := k1
    have k2' : N_S_sweep_b3 d (nn + 2) (nI lo) (nI hi) (nI (sgN a b)) (nI (0 + 1)) τ1 = N_S_sweep_b3 d (nn + 1) (nI lo) (nI hi) (nI (sgN a b)) (nI (1 + 1)) τ2 := k2
    rw [hnn, k1', k2']
    have c1 : (1 : Int32) < nI (1 + 1) := by decide
    simp only [N_S_sweep_b3, if_pos c1]
theorem rng_s {t : Int32} {D : Int} (h : rng t 0 D) (hD : D < 1000000) : rng (t + 1) 0 (D + 1) := by
  obtain ⟨h1, h2⟩ := h
  have c : ¬ t < 0 := by rw [Int32.lt_iff_toInt_lt, Int32.toInt_zero]; omega
  obtain ⟨j, hj, rfl⟩ := nI_of c
  rw [nI_toInt hj] at h2
  rw [nI_1]
  unfold rng
  rw [nI_toInt (by omega)]
  omega
theorem ppC {τ0 : CS} {d : Nat} {S : SP} {D : Int} {F0 F1 : LF} {lo hi : Nat} {a b : Bool} {τ : CS} (hL : CL τ0 d F0 F1) (hF : FR0 F0) (hS : SPok S D) (hD : D < 1000000) (hlo : lo % 2 = 0) (hlh : lo ≤ hi) (hhi : hi ≤ S.1) (w : CW τ0 d S τ) : ∃ τ', N_S_passPart d (nI lo) (nI hi) (nI (sgN a b)) τ = some (0, τ') ∧ CW τ0 d (dyS F0 a b S lo hi) τ' ∧ SPok (dyS F0 a b S lo hi) (D + 1) := by
  have h12 := hS.1
  obtain ⟨o1, o2, o3, o4, o5, o6⟩ := id hS
  have w0 : CW τ0 d (wS S (S.2.1 2) (S.2.2 3) (S.2.2 0)) τ := by rw [wS_0]; exact w
  have hF' : FU = 1000 := rfl
  have h13 : hf hi (lo + 1) ≤ 7 := by unfold hf; omega
  obtain ⟨τ1, e1, w1, f1⟩ := faC (lo := nI lo) (sg := nI (sgN a b)) hL hF hS o6 o3 hhi (hi - lo) FU lo (S.2.1 2) τ (by omega) (by omega) (fun j hj => (o2 j hj).2.2.1) w0
  obtain ⟨τ2, e2, w2, f2⟩ := wiC (lo := nI lo) (sg := nI (sgN a b)) hS hhi (hf hi (lo + 1)) FU (lo + 1) _ τ1 rfl (by omega) (by omega) (by omega) f1 w1
  obtain ⟨τ3, r, er, e3, w3, f3, p3⟩ := swpC (a := a) (b := b) (lo := lo) (hi := hi) hS o3 hlo (by omega) hhi (_, S.2.2 3) τ2 f2 o6 w2
  have ht : τ3.1 d 7 = S.2.2 0 := w3.1.2.2.2.1
  have er' : r = dyR F0 a b S lo hi := er
  refine ⟨si τ3 d 7 (S.2.2 0 + 1), ?_, ?_, ?_⟩
  · unfold N_S_passPart
    rw [e1, nI_1, e2, e3, ob_s, lt_e, ht]
  · have := CW.day (v := S.2.2 0 + 1) w3
    rw [er'] at this
    exact this
  · rw [er'] at f3 p3
    exact wS_ok hS f3 p3 (rng_s o3 hD)
