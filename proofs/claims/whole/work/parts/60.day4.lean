/-! a day of the reference -/
theorem RW_L {σ0 σ : RS} {S : SP} {F0 F1 : LF} (h : RLw σ0 F0 F1) (w : RW σ0 S σ) : LawR (σ.2 0) 0 F0 ∧ LawR (σ.2 0) 1 F1 := ⟨frr_L (by decide) w.2 h.1, frr_L (by decide) w.2 h.2⟩
theorem faR {σ0 : RS} {S : SP} {D D' : Int} {F0 F1 : LF} {p t : Int32} (hL : RLw σ0 F0 F1) (hF : FR0 F0) (hS : SPok S D) (hp : rng p 0 99999) (ht : rng t 0 D') : ∀ (m n k : Nat) (f : Nat → Int32) (σ : RS), k + m = S.1 → m < n → (∀ j, j < S.1 → rng (f j) 0 999) → RW σ0 (wS S f p t) σ → ∃ σ', M_oneDay_b2 n (nI k) σ = M_oneDay_b45 FU 1 σ' ∧ RW σ0 (wS S (faL F0 S t m k f) p t) σ' ∧ ∀ j, j < S.1 → rng (faL F0 S t m k f j) 0 999 := by
  have h12 := hS.1
  intro m
  induction m with
  | zero =>
    intro n k f σ hm hn hf w
    obtain ⟨n, rfl⟩ : ∃ q, n = q + 1 := ⟨n - 1, by omega⟩
    have hn1 : σ.2 0 2 = nI S.1 := w.1.1
    have c1 : nI S.1 ≤ nI k := nI_le (by omega) (by omega)
    simp only [M_oneDay_b2, hn1, if_pos c1]
    exact ⟨σ, rfl, w, hf⟩
  | succ m ih =>
    intro n k f σ hm hn hf w
    obtain ⟨n, rfl⟩ : ∃ q, n = q + 1 := ⟨n - 1, by omega⟩
    have hk : k < S.1 := by omega
    have hn1 : σ.2 0 2 = nI S.1 := w.1.1
    have c1 : ¬ nI S.1 ≤ nI k := nI_ge (by omega) (by omega)
    obtain ⟨σ1, e1, q1⟩ := fallsR (S := wS S f p t) (k := k) (wS_ok hS hf hp ht) w.1 (RW_L hL w).1 hk
    have e1' : M_falling (nI k) σ = some (fD F0 S t k (f k), σ1) := e1
    have i2 : M_its (nI k) 2 σ = some (f k, σ) := its_S (S := wS S f p t) (w := 2) h12 w.1 hk (by decide)
    obtain ⟨a, ha, ea⟩ := rng_nat (b := 999) (by decide) (hf k hk)
    obtain ⟨v, hv, ev⟩ := fD_r (t := t) (x := f k) hS hF hk
    obtain ⟨hr, hh⟩ := mn9_r (a := a) (b := v) ha (by omega)
    rw [← ev, ← ea] at hr hh
    have g2 : ∀ (v : Int32) (s : RS), M_gets (nI k) 2 v s = some (0, ra s 0 (upd (s.2 0) (10 + 5 * k + 2) v)) := fun v s => gets_e (k := k) (w := 2) (by omega) (by decide) v s
    simp only [M_oneDay_b2, hn1, if_neg c1, i2, e1', ob_s, M_held, hh, g2, nI_1]
    exact ih n (k + 1) (upd f k (mn9 (f k + fD F0 S t k (f k)))) _ (by omega) (by omega) (rng_upd hf hr) (RW.dirt h12 hk (w.req q1))
def odE (σ : RS) : Option (Int32 × RS) := ob (M_isSigned 0 (σ.2 0 0) σ) fun v3 σ4 => ob (M_isSigned 1 (σ4.2 0 0) σ4) fun v6 σ7 => if v3 = 0 then M_oneDay_b164 v3 v6 σ7 else if v6 = 0 then ob (M_placesOn 1 σ7) fun v28 σ29 => M_oneDay_b161 v3 v6 0 v28 σ29 else M_oneDay_b161 v3 v6 0 0 σ7
theorem wiR {σ0 : RS} {S : SP} {D : Int} {p t : Int32} (hS : SPok S D) : ∀ (m n k : Nat) (f : Nat → Int32) (σ : RS), hf S.1 k = m → m < n → 0 < k → k < 100 → (∀ j, j < S.1 → rng (f j) 0 999) → RW σ0 (wS S f p t) σ → ∃ σ', M_oneDay_b45 n (nI k) σ = odE σ' ∧ RW σ0 (wS S (wiL (S.2.2 1) m k f) p t) σ' ∧ ∀ j, j < S.1 → rng (wiL (S.2.2 1) m k f j) 0 999 := by
  have h12 := hS.1
  intro m
  induction m with
  | zero =>
    intro n k f σ hm hn hk0 hk hf w
    obtain ⟨n, rfl⟩ : ∃ q, n = q + 1 := ⟨n - 1, by omega⟩
    have hn1 : σ.2 0 2 = nI S.1 := w.1.1
    have c1 : nI S.1 ≤ nI k := nI_le (hf_0 hm) (by omega)
    simp only [M_oneDay_b45, hn1, if_pos c1]
    exact ⟨σ, rfl, w, hf⟩
  | succ m ih =>
    intro n k f σ hm hn hk0 hk hf w
    obtain ⟨n, rfl⟩ : ∃ q, n = q + 1 := ⟨n - 1, by omega⟩
    obtain ⟨h1, h2⟩ := hf_s hm
    have hn1 : σ.2 0 2 = nI S.1 := w.1.1
    have c1 : ¬ nI S.1 ≤ nI k := nI_ge h1 (by omega)
    have e1 : nI k - (1 : Int32) = nI (k - 1) := pk_sub (b := 1) (by omega)
    have hw : σ.2 0 7 = S.2.2 1 := w.1.2.2.2.1
    have i2 : M_its (nI k) 2 σ = some (f k, σ) := its_S (S := wS S f p t) (w := 2) h12 w.1 h1 (by decide)
    obtain ⟨a, ha, ea⟩ := rng_nat (b := 999) (by decide) (hf k h1)
    obtain ⟨b, hb, eb⟩ := rng_nat (b := 999) (by decide) (hf (k - 1) (by omega))
    obtain ⟨wn, hwn, ew⟩ := rng_nat (b := 9) (by decide) hS.2.2.2.1
    obtain ⟨v, hv1, hv2, ev⟩ := wv_r ha hwn
    rw [← ew, ← ea] at ev
    have r1 : rng (f k - wv (S.2.2 1) (f k)) 0 999 := by rw [ev, ea, pk_sub hv1]; exact rng_nI (b := 999) (by omega) (by decide)
    obtain ⟨r2, hh⟩ := mn9_r (a := b) (b := v) hb hv2
    rw [← ev, ← eb] at r2 hh
    have g2 : ∀ (v : Int32) (s : RS), M_gets (nI k) 2 v s = some (0, ra s 0 (upd (s.2 0) (10 + 5 * k + 2) v)) := fun v s => gets_e (k := k) (w := 2) (by omega) (by decide) v s
    have g3 : ∀ (v : Int32) (s : RS), M_gets (nI (k - 1)) 2 v s = some (0, ra s 0 (upd (s.2 0) (10 + 5 * (k - 1) + 2) v)) := fun v s => gets_e (k := k - 1) (w := 2) (by omega) (by decide) v s
    have w1 := RW.dirt (k := k) (v := f k - wv (S.2.2 1) (f k)) h12 h1 w
    have i3 : M_its (nI (k - 1)) 2 (ra σ 0 (upd (σ.2 0) (10 + 5 * k + 2) (f k - wv (S.2.2 1) (f k)))) = some (f (k - 1), ra σ 0 (upd (σ.2 0) (10 + 5 * k + 2) (f k - wv (S.2.2 1) (f k)))) := by
      have := its_S (S := wS S (upd f k (f k - wv (S.2.2 1) (f k))) p t) (k := k - 1) (w := 2) h12 w1.1 (show k - 1 < S.1 by omega) (by decide)
      have e : (wS S (upd f k (f k - wv (S.2.2 1) (f k))) p t).2.1 2 (k - 1) = f (k - 1) := upd_ne _ _ (by omega)
      rw [e] at this
      exact this
    have ewv : f k * S.2.2 1 / 20 = wv (S.2.2 1) (f k) := rfl
    simp only [M_oneDay_b45, hn1, if_neg c1, i2, ob_s, hw, ewv, lt_e, g2, e1, i3, M_held, hh, g3, nI_2]
    exact ih n (k + 2) (upd (upd f k (f k - wv (S.2.2 1) (f k))) (k - 1) (mn9 (f (k - 1) + wv (S.2.2 1) (f k)))) _ h2 (by omega) (by omega) (by omega) (rng_upd (rng_upd hf r1) r2) (RW.dirt h12 (show k - 1 < S.1 by omega) w1)
theorem swR {σ0 : RS} {S : SP} {D D' : Int} {t : Int32} {sy : Nat} (hS : SPok S D) (ht : rng t 0 D') (hsy : sy < 2 ^ 31) : ∀ (m n k : Nat) (a : (Nat → Int32) × Int32) (σ : RS), hf S.1 k = m → m < n → k < 100 → (∀ j, j < S.1 → rng (a.1 j) 0 999) → rng a.2 0 99999 → RW σ0 (wS S a.1 a.2 t) σ → ∃ σ', M_sweepsSide_b10 n (nI sy) (nI k) σ = some (0, σ') ∧ RW σ0 (wS S (swL S (fun j => sy.testBit j) m k a).1 (swL S (fun j => sy.testBit j) m k a).2 t) σ' ∧ (∀ j, j < S.1 → rng ((swL S (fun j => sy.testBit j) m k a).1 j) 0 999) ∧ rng (swL S (fun j => sy.testBit j) m k a).2 0 99999 := by
  have h12 := hS.1
  intro m
  induction m with
  | zero =>
    intro n k a σ hm hn hk hf hp w
    obtain ⟨n, rfl⟩ : ∃ q, n = q + 1 := ⟨n - 1, by omega⟩
    have hn1 : σ.2 0 2 = nI S.1 := w.1.1
    have c1 : nI S.1 ≤ nI k := nI_le (hf_0 hm) (by omega)
    simp only [M_sweepsSide_b10, hn1, if_pos c1]
    exact ⟨σ, rfl, w, hf, hp⟩
  | succ m ih =>
    intro n k a σ hm hn hk hf hp w
    obtain ⟨n, rfl⟩ : ∃ q, n = q + 1 := ⟨n - 1, by omega⟩
    obtain ⟨h1, h2⟩ := hf_s hm
    have hn1 : σ.2 0 2 = nI S.1 := w.1.1
    have c1 : ¬ nI S.1 ≤ nI k := nI_ge h1 (by omega)
    have hfi : σ.2 0 8 = S.2.2 2 := w.1.2.2.2.2.1
    have hpe : σ.2 0 9 = a.2 := w.1.2.2.2.2.2
    have i2 : M_its (nI k) 2 σ = some (a.1 k, σ) := its_S (S := wS S a.1 a.2 t) (w := 2) h12 w.1 h1 (by decide)
    have g2 : ∀ (v : Int32) (s : RS), M_gets (nI k) 2 v s = some (0, ra s 0 (upd (s.2 0) (10 + 5 * k + 2) v)) := fun v s => gets_e (k := k) (w := 2) (by omega) (by decide) v s
    obtain ⟨pa, hpa, epa⟩ := rng_nat (b := 99999) (by decide) hp
    obtain ⟨fi, hfi2, efi⟩ := rng_nat (b := 99) (by decide) hS.2.2.2.2.1
    obtain ⟨r1, hh⟩ := mnP_r (a := pa) (b := fi) hpa hfi2
    rw [← epa, ← efi] at r1 hh
    have et0 := takenR (S := wS S a.1 a.2 t) (k := k) (wS_ok hS hf hp ht) w.1 h1
    have et : M_taken (nI k) σ = some (tK S k (a.1 k), σ) := et0
    simp only [M_sweepsSide_b10, hn1, if_neg c1, bit_b hsy (show k < 31 by omega), b01_1, M_sweepsSide_b83, nI_2, hfi, hpe, M_held, hh, i2, et, g2, ob_s, lt_e, swL]
    by_cases q : sy.testBit k = true
    · rw [if_pos q, if_pos q]
      exact ih n (k + 2) (a.1, mnP (a.2 + S.2.2 2)) _ h2 (by omega) (by omega) hf r1 (RW.pen w)
    · rw [if_neg q, if_neg q]
      obtain ⟨xa, hxa, exa⟩ := rng_nat (b := 999) (by decide) (hf k h1)
      obtain ⟨v, hv, ev⟩ := tK_r hS h1 hxa
      have r1 : rng (a.1 k - tK S k (a.1 k)) 0 999 := by rw [exa, ev, pk_sub hv]; exact rng_nI (b := 999) (by omega) (by decide)
      exact ih n (k + 2) (upd a.1 k (a.1 k - tK S k (a.1 k)), a.2) _ h2 (by omega) (by omega) (rng_upd hf r1) hp (RW.dirt h12 h1 w)
theorem sdR {σ0 : RS} {S : SP} {D D' : Int} {t : Int32} {s l : Nat} (hS : SPok S D) (ht : rng t 0 D') (hs : s < 2) (hl : l < 1000) (a : (Nat → Int32) × Int32) (σ : RS) (hf' : ∀ j, j < S.1 → rng (a.1 j) 0 999) (hp : rng a.2 0 99999) (w : RW σ0 (wS S a.1 a.2 t) σ) : ∃ (σ' : RS) (r : (Nat → Int32) × Int32), r = swL S (fun j => (stN S s l).testBit j) (hf S.1 s) s a ∧ M_sweepsSide (nI s) (nI l) σ = some (0, σ') ∧ RW σ0 (wS S r.1 r.2 t) σ' ∧ (∀ j, j < S.1 → rng (r.1 j) 0 999) ∧ rng r.2 0 99999 := by
  have h12 := hS.1
  have h13 : hf S.1 s ≤ 6 := by unfold hf; omega
  have hF : FU = 1000 := rfl
  have hlt := stN_lt (S := S) (s := s) (l := l) h12 hs
  obtain ⟨σ', e, w', r1, r2⟩ := swR hS ht (show stN S s l < 2 ^ 31 by omega) (hf S.1 s) FU s a σ rfl (by omega) (by omega) hf' hp w
  refine ⟨σ', _, rfl, ?_, w', r1, r2⟩
  have es := stayR (S := wS S a.1 a.2 t) (wS_ok hS hf' hp ht) w.1 hs hl
  rw [stN_w] at es
  unfold M_sweepsSide
  rw [es, ob_s, e]
theorem plR_w {σ0 : RS} {S : SP} {D D' : Int} {t : Int32} {s : Nat} (hS : SPok S D) (ht : rng t 0 D') (hs : s < 2) (a : (Nat → Int32) × Int32) (σ : RS) (hf' : ∀ j, j < S.1 → rng (a.1 j) 0 999) (hp : rng a.2 0 99999) (w : RW σ0 (wS S a.1 a.2 t) σ) : M_placesOn (nI s) σ = some (nI (plN S s), σ) := by
  have e := placesR (S := wS S a.1 a.2 t) (wS_ok hS hf' hp ht) w.1 hs
  rw [plN_w] at e
  exact e
/-- whether sides are signed, in the reference -/
def sgH (σ0 : RS) (t : Int32) (a b : Bool) : Prop := ∀ σ : RS, frr σ0 σ → (∃ σ', M_isSigned 0 t σ = some (b01 a, σ') ∧ req σ σ') ∧ ∃ σ', M_isSigned 1 t σ = some (b01 b, σ') ∧ req σ σ'
theorem b0z : b01 false = 0 := by decide
theorem b1z : ¬ b01 true = 0 := by decide
theorem fnt : ¬ false = true := by decide
theorem tt : true = true := rfl
theorem b164R {σ0 : RS} {S : SP} {D : Int} {a b : Bool} {x y : Int32} (hS : SPok S D) (hx : x = b01 a) (hy : y = b01 b) (r : (Nat → Int32) × Int32) (σ : RS) (hf' : ∀ j, j < S.1 → rng (r.1 j) 0 999) (hp : rng r.2 0 99999) (w : RW σ0 (wS S r.1 r.2 (S.2.2 0)) σ) : ∃ (σ' : RS) (r' : (Nat → Int32) × Int32), r' = dyB a b S 0 S.1 r ∧ M_oneDay_b164 x y σ = some (0, σ') ∧ RW σ0 (wS S r'.1 r'.2 (S.2.2 0 + 1)) σ' ∧ (∀ j, j < S.1 → rng (r'.1 j) 0 999) ∧ rng r'.2 0 99999 := by
  subst hx
  subst hy
  have h12 := hS.1
  have ht := hS.2.2.1
  have hpl := plN_lt (S := S) (s := 0) h12
  unfold M_oneDay_b164 dyB
  cases b
  · have e0 : σ.2 0 0 = S.2.2 0 := w.1.2.2.1
    rw [if_neg fnt, if_pos b0z, lt_e, e0]
    exact ⟨_, r, rfl, rfl, RW.day w, hf', hp⟩
  · rw [if_pos tt, if_neg b1z]
    cases a
    · obtain ⟨σ1, r1, er, e1, w1, f1, p1⟩ := sdR hS ht (show 1 < 2 by decide) (show plN S 0 < 1000 by omega) r σ hf' hp w
      have e0 : σ1.2 0 0 = S.2.2 0 := w1.1.2.2.1
      have ep : M_placesOn 0 σ = some (nI (plN S 0), σ) := plR_w (s := 0) hS ht (by decide) r σ hf' hp w
      have e1' : M_sweepsSide 1 (nI (plN S 0)) σ = some (0, σ1) := e1
      rw [if_pos b0z, ep, ob_s, e1', ob_s, lt_e, e0]
      exact ⟨_, r1, er, rfl, RW.day w1, f1, p1⟩
    · obtain ⟨σ1, r1, er, e1, w1, f1, p1⟩ := sdR (l := 0) hS ht (show 1 < 2 by decide) (by decide) r σ hf' hp w
      have e0 : σ1.2 0 0 = S.2.2 0 := w1.1.2.2.1
      have e1' : M_sweepsSide 1 0 σ = some (0, σ1) := e1
      rw [if_neg b1z, e1', ob_s, lt_e, e0]
      exact ⟨_, r1, er, rfl, RW.day w1, f1, p1⟩
theorem odR {σ0 : RS} {S : SP} {D : Int} {a b : Bool} (hS : SPok S D) (hsg : sgH σ0 (S.2.2 0) a b) (r : (Nat → Int32) × Int32) (σ : RS) (hf' : ∀ j, j < S.1 → rng (r.1 j) 0 999) (hp : rng r.2 0 99999) (w : RW σ0 (wS S r.1 r.2 (S.2.2 0)) σ) : ∃ (σ' : RS) (r' : (Nat → Int32) × Int32), r' = dyB a b S 0 S.1 (dyA a b S 0 S.1 r) ∧ odE σ = some (0, σ') ∧ RW σ0 (wS S r'.1 r'.2 (S.2.2 0 + 1)) σ' ∧ (∀ j, j < S.1 → rng (r'.1 j) 0 999) ∧ rng r'.2 0 99999 := by
  have h12 := hS.1
  have ht := hS.2.2.1
  have hpl := plN_lt (S := S) (s := 1) h12
  have e0 : σ.2 0 0 = S.2.2 0 := w.1.2.2.1
  obtain ⟨σ1, s1, q1⟩ := (hsg σ w.2).1
  have w1 : RW σ0 (wS S r.1 r.2 (S.2.2 0)) σ1 := w.req q1
  have e1 : σ1.2 0 0 = S.2.2 0 := w1.1.2.2.1
  obtain ⟨σ2, s2, q2⟩ := (hsg σ1 w1.2).2
  have w2 : RW σ0 (wS S r.1 r.2 (S.2.2 0)) σ2 := w1.req q2
  unfold odE
  rw [e0, s1, ob_s, e1, s2, ob_s]
  unfold dyA
  cases a
  · rw [if_pos b0z, if_neg fnt]
    exact b164R hS rfl rfl r σ2 hf' hp w2
  · rw [if_neg b1z, if_pos tt]
    cases b
    · obtain ⟨σ3, r1, er, e3, w3, f3, p3⟩ := sdR (l := plN S 1) hS ht (show 0 < 2 by decide) (by omega) r σ2 hf' hp w2
      have ep : M_placesOn 1 σ2 = some (nI (plN S 1), σ2) := plR_w (s := 1) hS ht (by decide) r σ2 hf' hp w2
      have e3' : M_sweepsSide 0 (nI (plN S 1)) σ2 = some (0, σ3) := e3
      rw [if_pos b0z, ep, ob_s]
      unfold M_oneDay_b161
      rw [e3', ob_s, if_neg fnt, ← er]
      exact b164R hS rfl rfl r1 σ3 f3 p3 w3
    · obtain ⟨σ3, r1, er, e3, w3, f3, p3⟩ := sdR (l := 0) hS ht (show 0 < 2 by decide) (by decide) r σ2 hf' hp w2
      have e3' : M_sweepsSide 0 0 σ2 = some (0, σ3) := e3
      rw [if_neg b1z]
      unfold M_oneDay_b161
      rw [e3', ob_s, if_pos tt, ← er]
      exact b164R hS rfl rfl r1 σ3 f3 p3 w3
theorem dayR {σ0 : RS} {S : SP} {D : Int} {F0 F1 : LF} {a b : Bool} {σ : RS} (hL : RLw σ0 F0 F1) (hF : FR0 F0) (hS : SPok S D) (hD : D < 1000000) (hsg : sgH σ0 (S.2.2 0) a b) (w : RW σ0 S σ) : ∃ σ', M_oneDay σ = some (0, σ') ∧ RW σ0 (dyS F0 a b S 0 S.1) σ' ∧ SPok (dyS F0 a b S 0 S.1) (D + 1) := by
  have h12 := hS.1
  obtain ⟨o1, o2, o3, o4, o5, o6⟩ := id hS
  have w0 : RW σ0 (wS S (S.2.1 2) (S.2.2 3) (S.2.2 0)) σ := by rw [wS_0]; exact w
  have hF' : FU = 1000 := rfl
  have h13 : hf S.1 (0 + 1) ≤ 7 := by unfold hf; omega
  obtain ⟨σ1, e1, w1, f1⟩ := faR hL hF hS o6 o3 S.1 FU 0 (S.2.1 2) σ (by omega) (by omega) (fun j hj => (o2 j hj).2.2.1) w0
  obtain ⟨σ2, e2, w2, f2⟩ := wiR hS (hf S.1 (0 + 1)) FU (0 + 1) _ σ1 rfl (by omega) (by omega) (by omega) f1 w1
  obtain ⟨σ3, r, er, e3, w3, f3, p3⟩ := odR hS hsg (_, S.2.2 3) σ2 f2 o6 w2
  have er' : r = dyR F0 a b S 0 S.1 := er
  have e1' : M_oneDay σ = M_oneDay_b45 FU 1 σ1 := e1
  have e2' : M_oneDay_b45 FU 1 σ1 = odE σ2 := e2
  refine ⟨σ3, ?_, ?_, ?_⟩
  · rw [e1', e2', e3]
  · rw [er'] at w3
    exact w3
  · rw [er'] at f3 p3
    exact wS_ok hS f3 p3 (rng_s o3 hD)
