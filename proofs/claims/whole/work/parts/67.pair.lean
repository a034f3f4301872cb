/-! only the one opposite bears on a yard's dirt -/
theorem faL_pt {F0 : LF} {S : SP} {t : Int32} : ∀ (m k : Nat) (f : Nat → Int32) (j : Nat), faL F0 S t m k f j = if k ≤ j ∧ j < k + m then mn9 (f j + fD F0 S t j (f j)) else f j := by
  intro m
  induction m with
  | zero => intro k f j; rw [if_neg (by omega)]; rfl
  | succ m ih =>
    intro k f j
    show faL F0 S t m (k + 1) (upd f k (mn9 (f k + fD F0 S t k (f k)))) j = _
    rw [ih]
    by_cases c : j = k
    · subst c
      rw [if_neg (show ¬ (j + 1 ≤ j ∧ j < j + 1 + m) by omega), if_pos (show j ≤ j ∧ j < j + (m + 1) by omega), upd_eq]
    · rw [upd_ne _ _ c]
      by_cases c2 : k + 1 ≤ j ∧ j < k + 1 + m
      · rw [if_pos c2, if_pos (show k ≤ j ∧ j < k + (m + 1) by omega)]
      · rw [if_neg c2, if_neg (show ¬ (k ≤ j ∧ j < k + (m + 1)) by omega)]
theorem wiL_pt {w : Int32} : ∀ (m k : Nat) (f : Nat → Int32) (j : Nat), 0 < k → wiL w m k f j = if k ≤ j ∧ j < k + 2 * m ∧ j % 2 = k % 2 then f j - wv w (f j) else if k ≤ j + 1 ∧ j + 1 < k + 2 * m ∧ (j + 1) % 2 = k % 2 then mn9 (f j + wv w (f (j + 1))) else f j := by
  intro m
  induction m with
  | zero => intro k f j hk; rw [if_neg (by omega), if_neg (by omega)]; rfl
  | succ m ih =>
    intro k f j hk
    show wiL w m (k + 2) (upd (upd f k (f k - wv w (f k))) (k - 1) (mn9 (f (k - 1) + wv w (f k)))) j = _
    rw [ih _ _ _ (by omega)]
    by_cases c : j = k
    · subst c
      rw [if_neg (show ¬ (j + 2 ≤ j ∧ j < j + 2 + 2 * m ∧ j % 2 = (j + 2) % 2) by omega), if_neg (show ¬ (j + 2 ≤ j + 1 ∧ j + 1 < j + 2 + 2 * m ∧ (j + 1) % 2 = (j + 2) % 2) by omega), if_pos (show j ≤ j ∧ j < j + 2 * (m + 1) ∧ j % 2 = j % 2 by omega), upd_ne _ _ (by omega), upd_eq]
    · by_cases d : j + 1 = k
      · subst d
        rw [if_neg (show ¬ (j + 1 + 2 ≤ j ∧ j < j + 1 + 2 + 2 * m ∧ j % 2 = (j + 1 + 2) % 2) by omega), if_neg (show ¬ (j + 1 + 2 ≤ j + 1 ∧ j + 1 < j + 1 + 2 + 2 * m ∧ (j + 1) % 2 = (j + 1 + 2) % 2) by omega), if_neg (show ¬ (j + 1 ≤ j ∧ j < j + 1 + 2 * (m + 1) ∧ j % 2 = (j + 1) % 2) by omega), if_pos (show j + 1 ≤ j + 1 ∧ j + 1 < j + 1 + 2 * (m + 1) ∧ (j + 1) % 2 = (j + 1) % 2 by omega), show j + 1 - 1 = j by omega, upd_eq]
      · have e0 : upd (upd f k (f k - wv w (f k))) (k - 1) (mn9 (f (k - 1) + wv w (f k))) j = f j := by rw [upd_ne _ _ (by omega), upd_ne _ _ c]
        by_cases c2 : k + 2 ≤ j ∧ j < k + 2 + 2 * m ∧ j % 2 = (k + 2) % 2
        · rw [if_pos c2, if_pos (show k ≤ j ∧ j < k + 2 * (m + 1) ∧ j % 2 = k % 2 by omega), e0]
        · rw [if_neg c2, if_neg (show ¬ (k ≤ j ∧ j < k + 2 * (m + 1) ∧ j % 2 = k % 2) by omega), e0]
          by_cases c3 : k + 2 ≤ j + 1 ∧ j + 1 < k + 2 + 2 * m ∧ (j + 1) % 2 = (k + 2) % 2
          · rw [if_pos c3, if_pos (show k ≤ j + 1 ∧ j + 1 < k + 2 * (m + 1) ∧ (j + 1) % 2 = k % 2 by omega), upd_ne _ _ (show j + 1 ≠ k - 1 by omega), upd_ne _ _ (show j + 1 ≠ k by omega)]
          · rw [if_neg c3, if_neg (show ¬ (k ≤ j + 1 ∧ j + 1 < k + 2 * (m + 1) ∧ (j + 1) % 2 = k % 2) by omega)]
theorem swL_pt {S : SP} {st : Nat → Bool} : ∀ (m k : Nat) (a : (Nat → Int32) × Int32) (j : Nat), (swL S st m k a).1 j = if k ≤ j ∧ j < k + 2 * m ∧ j % 2 = k % 2 ∧ st j = false then a.1 j - tK S j (a.1 j) else a.1 j := by
  intro m
  induction m with
  | zero => intro k a j; rw [if_neg (by omega)]; rfl
  | succ m ih =>
    intro k a j
    show (swL S st m (k + 2) (if st k = true then (a.1, mnP (a.2 + S.2.2 2)) else (upd a.1 k (a.1 k - tK S k (a.1 k)), a.2))).1 j = _
    rw [ih]
    by_cases c : j = k
    · subst c
      rw [if_neg (show ¬ (j + 2 ≤ j ∧ j < j + 2 + 2 * m ∧ j % 2 = (j + 2) % 2 ∧ st j = false) by omega)]
      cases hq : st j
      · rw [if_neg fnt, if_pos (show j ≤ j ∧ j < j + 2 * (m + 1) ∧ j % 2 = j % 2 ∧ false = false from ⟨by omega, by omega, rfl, rfl⟩)]
        exact upd_eq _ _ _
      · rw [if_pos tt, if_neg (fun q => by cases q.2.2.2)]
    · have e0 : (if st k = true then (a.1, mnP (a.2 + S.2.2 2)) else (upd a.1 k (a.1 k - tK S k (a.1 k)), a.2)).1 j = a.1 j := by
        cases st k
        · rw [if_neg fnt]; exact upd_ne _ _ c
        · rw [if_pos tt]
      rw [e0]
      by_cases c2 : k + 2 ≤ j ∧ j < k + 2 + 2 * m ∧ j % 2 = (k + 2) % 2 ∧ st j = false
      · rw [if_pos c2, if_pos (show k ≤ j ∧ j < k + 2 * (m + 1) ∧ j % 2 = k % 2 ∧ st j = false from ⟨by omega, by omega, by omega, c2.2.2.2⟩)]
      · rw [if_neg c2, if_neg (fun q => c2 ⟨by omega, by omega, by omega, q.2.2.2⟩)]
def inP (n lo hi : Nat) : Prop := lo % 2 = 0 ∧ lo < n ∧ hi = (if n < lo + 2 then n else lo + 2)
theorem inP_c {n lo hi : Nat} (h : inP n lo hi) : lo % 2 = 0 ∧ lo < n ∧ ((hi = n ∧ n = lo + 1) ∨ (hi = lo + 2 ∧ lo + 2 ≤ n)) := by
  obtain ⟨a, b, c⟩ := h
  refine ⟨a, b, ?_⟩
  by_cases q : n < lo + 2
  · rw [if_pos q] at c; omega
  · rw [if_neg q] at c; omega
theorem dyF_pair {F0 : LF} {S : SP} {lo hi : Nat} {f f' : Nat → Int32} {p p' t : Int32} (h : inP S.1 lo hi) (hff : ∀ j, lo ≤ j → j < hi → f j = f' j) : ∀ j, lo ≤ j → j < hi → dyF F0 (wS S f p t) lo hi j = dyF F0 (wS S f' p' t) 0 S.1 j := by
  obtain ⟨h1, h2, h3⟩ := inP_c h
  have e1 : ∀ j, lo ≤ j → j < hi → faL F0 (wS S f p t) t (hi - lo) lo f j = mn9 (f' j + fD F0 S t j (f' j)) := fun j a b => by
    rw [faL_pt, if_pos (show lo ≤ j ∧ j < lo + (hi - lo) by omega), hff j a b]; rfl
  have e2 : ∀ j, lo ≤ j → j < hi → faL F0 (wS S f' p' t) t (S.1 - 0) 0 f' j = mn9 (f' j + fD F0 S t j (f' j)) := fun j a b => by
    rw [faL_pt, if_pos (show 0 ≤ j ∧ j < 0 + (S.1 - 0) by omega)]; rfl
  intro j ja jb
  have g1 : dyF F0 (wS S f p t) lo hi j = wiL (S.2.2 1) (hf hi (lo + 1)) (lo + 1) (faL F0 (wS S f p t) t (hi - lo) lo f) j := rfl
  have g2 : dyF F0 (wS S f' p' t) 0 S.1 j = wiL (S.2.2 1) (hf S.1 (0 + 1)) (0 + 1) (faL F0 (wS S f' p' t) t (S.1 - 0) 0 f') j := rfl
  rw [g1, g2, wiL_pt _ _ _ _ (by omega), wiL_pt _ _ _ _ (by omega)]
  have q1 : hf hi (lo + 1) = (hi + 1 - (lo + 1)) / 2 := rfl
  have q2 : hf S.1 (0 + 1) = (S.1 + 1 - (0 + 1)) / 2 := rfl
  rw [q1, q2]
  by_cases c : j = lo
  · subst c
    rw [if_neg (show ¬ (j + 1 ≤ j ∧ j < j + 1 + 2 * ((hi + 1 - (j + 1)) / 2) ∧ j % 2 = (j + 1) % 2) by omega), if_neg (show ¬ (0 + 1 ≤ j ∧ j < 0 + 1 + 2 * ((S.1 + 1 - (0 + 1)) / 2) ∧ j % 2 = (0 + 1) % 2) by omega)]
    rcases h3 with ⟨h3, h4⟩ | ⟨h3, h4⟩
    · rw [if_neg (show ¬ (j + 1 ≤ j + 1 ∧ j + 1 < j + 1 + 2 * ((hi + 1 - (j + 1)) / 2) ∧ (j + 1) % 2 = (j + 1) % 2) by omega), if_neg (show ¬ (0 + 1 ≤ j + 1 ∧ j + 1 < 0 + 1 + 2 * ((S.1 + 1 - (0 + 1)) / 2) ∧ (j + 1) % 2 = (0 + 1) % 2) by omega), e1 j ja jb, e2 j ja jb]
    · rw [if_pos (show j + 1 ≤ j + 1 ∧ j + 1 < j + 1 + 2 * ((hi + 1 - (j + 1)) / 2) ∧ (j + 1) % 2 = (j + 1) % 2 by omega), if_pos (show 0 + 1 ≤ j + 1 ∧ j + 1 < 0 + 1 + 2 * ((S.1 + 1 - (0 + 1)) / 2) ∧ (j + 1) % 2 = (0 + 1) % 2 by omega), e1 j ja jb, e2 j ja jb, e1 (j + 1) (by omega) (by omega), e2 (j + 1) (by omega) (by omega)]
  · have c2 : j = lo + 1 := by omega
    rw [if_pos (by omega), if_pos (by omega), e1 j ja jb, e2 j ja jb]
theorem sw_pair {S1 S2 : SP} {st1 st2 : Nat → Bool} {lo hi s n : Nat} {r1 r2 : (Nat → Int32) × Int32} (h : inP n lo hi) (hs : s < 2) (hk : ∀ j x, tK S1 j x = tK S2 j x) (hst : ∀ j, st1 j = st2 j) (hr : ∀ j, lo ≤ j → j < hi → r1.1 j = r2.1 j) : ∀ j, lo ≤ j → j < hi → (swL S1 st1 (hf hi (lo + s)) (lo + s) r1).1 j = (swL S2 st2 (hf n s) s r2).1 j := by
  obtain ⟨h1, h2, h3⟩ := inP_c h
  intro j ja jb
  have q1 : hf hi (lo + s) = (hi + 1 - (lo + s)) / 2 := rfl
  have q2 : hf n s = (n + 1 - s) / 2 := rfl
  rw [swL_pt, swL_pt, q1, q2, hst j, hr j ja jb, hk]
  by_cases c : j % 2 = s % 2 ∧ st2 j = false
  · rw [if_pos ⟨by omega, by omega, by omega, c.2⟩, if_pos ⟨by omega, by omega, c.1, c.2⟩]
  · rw [if_neg (fun q => c ⟨by omega, q.2.2.2⟩), if_neg (fun q => c ⟨q.2.2.1, q.2.2.2⟩)]
theorem dy_pair {F0 : LF} {S : SP} {lo hi : Nat} {f f' : Nat → Int32} {p p' t : Int32} {a b : Bool} (h : inP S.1 lo hi) (hf : ∀ j, lo ≤ j → j < hi → f j = f' j) : ∀ j, lo ≤ j → j < hi → (dyR F0 a b (wS S f p t) lo hi).1 j = (dyR F0 a b (wS S f' p' t) 0 S.1).1 j := by
  have k0 := dyF_pair (F0 := F0) (p := p) (p' := p') (t := t) h hf
  have k1 : ∀ j, lo ≤ j → j < hi → (dyA a b (wS S f p t) lo hi (dyF F0 (wS S f p t) lo hi, p)).1 j = (dyA a b (wS S f' p' t) 0 S.1 (dyF F0 (wS S f' p' t) 0 S.1, p')).1 j := by
    unfold dyA
    cases a
    · rw [if_neg fnt, if_neg fnt]; exact k0
    · rw [if_pos tt, if_pos tt]
      refine sw_pair (s := 0) (n := S.1) h (by decide) (fun _ _ => rfl) (fun j => ?_) k0
      rw [stN_w, stN_w, plN_w, plN_w]
  show ∀ j, lo ≤ j → j < hi → (dyB a b (wS S f p t) lo hi (dyA a b (wS S f p t) lo hi (dyF F0 (wS S f p t) lo hi, p))).1 j = (dyB a b (wS S f' p' t) 0 S.1 (dyA a b (wS S f' p' t) 0 S.1 (dyF F0 (wS S f' p' t) 0 S.1, p'))).1 j
  generalize dyA a b (wS S f p t) lo hi (dyF F0 (wS S f p t) lo hi, p) = ra1 at *
  generalize dyA a b (wS S f' p' t) 0 S.1 (dyF F0 (wS S f' p' t) 0 S.1, p') = ra2 at *
  unfold dyB
  cases b
  · rw [if_neg fnt, if_neg fnt]; exact k1
  · rw [if_pos tt, if_pos tt]
    refine sw_pair (s := 1) (n := S.1) h (by decide) (fun _ _ => rfl) (fun j => ?_) k1
    rw [stN_w, stN_w, plN_w, plN_w]
def itP (F0 F1 : LF) (lo hi : Nat) : Nat → SP → SP
  | 0, S => S
  | m + 1, S => itP F0 F1 lo hi m (dyS F0 (sgb F1 (S.2.2 0) 0) (sgb F1 (S.2.2 0) 1) S lo hi)
theorem it_pair {F0 F1 : LF} {S : SP} {lo hi : Nat} (h : inP S.1 lo hi) : ∀ (N : Nat) (f f' : Nat → Int32) (p p' t : Int32), (∀ j, lo ≤ j → j < hi → f j = f' j) → ∀ j, lo ≤ j → j < hi → (itP F0 F1 lo hi N (wS S f p t)).2.1 2 j = (itD F0 F1 N (wS S f' p' t)).2.1 2 j := by
  intro N
  induction N with
  | zero =>
    intro f f' p p' t hf j ja jb
    exact hf j ja jb
  | succ N ih =>
    intro f f' p p' t hf j ja jb
    have e1 : itP F0 F1 lo hi (N + 1) (wS S f p t) = itP F0 F1 lo hi N (wS S (dyR F0 (sgb F1 t 0) (sgb F1 t 1) (wS S f p t) lo hi).1 (dyR F0 (sgb F1 t 0) (sgb F1 t 1) (wS S f p t) lo hi).2 (t + 1)) := by
      show itP F0 F1 lo hi N (dyS F0 (sgb F1 t 0) (sgb F1 t 1) (wS S f p t) lo hi) = _
      unfold dyS
      rw [wS_2]; rfl
    have e2 : itD F0 F1 (N + 1) (wS S f' p' t) = itD F0 F1 N (wS S (dyR F0 (sgb F1 t 0) (sgb F1 t 1) (wS S f' p' t) 0 S.1).1 (dyR F0 (sgb F1 t 0) (sgb F1 t 1) (wS S f' p' t) 0 S.1).2 (t + 1)) := by
      show itD F0 F1 N (dyS F0 (sgb F1 t 0) (sgb F1 t 1) (wS S f' p' t) 0 S.1) = _
      unfold dyS
      rw [wS_2]; rfl
    rw [e1, e2]
    exact ih _ _ _ _ _ (dy_pair h hf) j ja jb
theorem dbC {τ0 : CS} {d N y lo hi : Nat} {F0 F1 : LF} (hL : CL τ0 d F0 F1) (hF : FR0 F0) (hF1 : FR1 F1) (hN : N < 1000) : ∀ (m n i : Nat) (S : SP) (D : Int) (τ : CS), i + m = N → m < n → inP S.1 lo hi → y < S.1 → SPok S D → D + m < 1000000 → CW τ0 d S τ → ∃ τ', N_S_dirtBehind_b21 d n (nI N) (nI y) (nI lo) (nI hi) (nI i) τ = some ((itP F0 F1 lo hi m S).2.1 2 y, τ') ∧ fr d τ0 τ' := by
  have hd : d < 8 := by have := hL.1; omega
  intro m
  induction m with
  | zero =>
    intro n i S D τ hm hn hp hy hS hD w
    obtain ⟨n, rfl⟩ : ∃ q, n = q + 1 := ⟨n - 1, by omega⟩
    have h12 := hS.1
    have c1 : nI N ≤ nI i := nI_le (by omega) (by omega)
    have b1 : inb (nI y) 12 = true := inb_nI (by omega) (by decide)
    have x1 : ix (nI y) = y := ix_nI (by omega)
    rw [N_S_dirtBehind_b21, if_pos c1, gd_t b1, x1, (w.1.2.1 y hy).2.2.1]
    exact ⟨τ, rfl, w.2⟩
  | succ m ih =>
    intro n i S D τ hm hn hp hy hS hD w
    obtain ⟨n, rfl⟩ : ∃ q, n = q + 1 := ⟨n - 1, by omega⟩
    have h12 := hS.1
    have c1 : ¬ nI N ≤ nI i := nI_ge (by omega) (by omega)
    obtain ⟨p1, p2, p3⟩ := inP_c hp
    obtain ⟨τ1, e1, q1⟩ := sgC hd hF1 w.1 (CW_L hL w).2
    have w1 := w.ceq hd q1
    obtain ⟨τ2, e2, w2, s2⟩ := ppC (a := sgb F1 (S.2.2 0) 0) (b := sgb F1 (S.2.2 0) 1) (lo := lo) (hi := hi) hL hF hS (by omega) p1 (by omega) (by omega) w1
    rw [N_S_dirtBehind_b21, if_neg c1, e1, ob_s, e2, ob_s, nI_1]
    exact ih n (i + 1) _ (D + 1) τ2 (by omega) (by omega) hp hy s2 (by omega) w2
/-- dirt of a yard behind n days, worked out by its pair alone -/
theorem behindC {τ0 τ : CS} {d N y : Nat} {F0 F1 : LF} {S : SP} {D : Int} (hL : CL τ0 d F0 F1) (hF : FR0 F0) (hF1 : FR1 F1) (hN : N < 1000) (hy : y < S.1) (hS : SPok S D) (hD : D + N < 1000000) (w : CW τ0 d S τ) : ∃ τ', N_S_dirtBehind d (nI N) (nI y) τ = some ((itD F0 F1 N S).2.1 2 y, τ') ∧ fr d τ0 τ' := by
  have h12 := hS.1
  have hF' : FU = 1000 := rfl
  have hp : inP S.1 (y - y % 2) (if S.1 < y - y % 2 + 2 then S.1 else y - y % 2 + 2) := ⟨by omega, by omega, rfl⟩
  obtain ⟨τ', e, f⟩ := dbC (y := y) hL hF hF1 hN N FU 0 S D τ (by omega) (by omega) hp hy hS hD w
  refine ⟨τ', ?_, f⟩
  have em : irm (nI y) 2 = nI (y % 2) := irm_e (by omega) (by decide) (by decide)
  have es : nI y - nI (y % 2) = nI (y - y % 2) := pk_sub (by omega)
  have hn1 : τ.1 d 5 = nI S.1 := w.1.1
  have eh : (if nI S.1 < nI (y - y % 2) + 2 then nI S.1 else nI (y - y % 2) + 2) = nI (if S.1 < y - y % 2 + 2 then S.1 else y - y % 2 + 2) := by
    rw [nI_2]
    by_cases c : S.1 < y - y % 2 + 2
    · rw [if_pos c, if_pos (nI_lt c (by omega))]
    · rw [if_neg c, if_neg (nI_nlt (by omega) (by omega))]
  have ev : (itP F0 F1 (y - y % 2) (if S.1 < y - y % 2 + 2 then S.1 else y - y % 2 + 2) N S).2.1 2 y = (itD F0 F1 N S).2.1 2 y := by
    have := it_pair (F0 := F0) (F1 := F1) hp N (S.2.1 2) (S.2.1 2) (S.2.2 3) (S.2.2 3) (S.2.2 0) (fun _ _ _ => rfl) y (by omega) (by split <;> omega)
    rw [wS_0] at this
    exact this
  rw [ev] at e
  have e' : N_S_dirtBehind_b21 d FU (nI N) (nI y) (nI (y - y % 2)) (nI (if S.1 < y - y % 2 + 2 then S.1 else y - y % 2 + 2)) 0 τ = some ((itD F0 F1 N S).2.1 2 y, τ') := e
  unfold N_S_dirtBehind
  rw [em, es, lt_e, hn1, eh, lt_e, e']
theorem ag_then (x z : Int32) : Agree Inv (N_T_then x z) (M_then x z) := by
  intro k τ σ hk h
  show AgP k _ _
  unfold N_T_then M_then
  refine chk E1 h (fun c1 c2 => chkY E1 h (fun S0 y hy hx hS0 hr0 hc0 => ?_))
  subst hx
  obtain ⟨N, -, hN, rfl⟩ := in_lit 0 60 (by decide) (by decide) c1 c2
  obtain ⟨S, F0, F1, hS, w, r, hL, hR, hF0, hF1, h15⟩ := Inv_day h
  have hn : S0.1 = S.1 := RRow_n hr0 r.1 hS0.1 hS.1
  rw [hn] at hy
  have h12 := hS.1
  obtain ⟨τT, e1, t, wT, hLT⟩ := think1 h12 (t1.rf (Inv_l h)) w.1 hL
  obtain ⟨σS, e2, b⟩ := save_e σ
  obtain ⟨τ2, e3, f3⟩ := behindC (N := N) (y := y) hLT hF0 hF1 (by omega) hy hS (by omega) wT
  obtain ⟨σ2, e4, r4⟩ := passR (N := N) (rB_L b hR) hF0 hF1 (rB_15 b h15) (by omega) hS (by omega) (rB_W h12 b r.1)
  have i2 : M_its (nI y) 2 σ2 = some ((itD F0 F1 N S).2.1 2 y, σ2) := its_S (S := itD F0 F1 N S) (w := 2) (by rw [itD_n]; exact h12) r4.1 (by rw [itD_n]; exact hy) (by decide)
  obtain ⟨σB, e5, bB⟩ := back_e (b.1.frr r4.2)
  rw [e1, e2, ob_s, ob_s, e3, e4, ob_s, ob_s, i2, ob_s, e5, ob_s]
  exact ⟨_, _, _, rfl, rfl, Inv_tB h (t.fr f3) bB⟩
