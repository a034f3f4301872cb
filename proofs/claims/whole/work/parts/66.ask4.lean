/-! seldom -/
def evb (e : Nat) (S : SP) : Bool := decide (irm (S.2.2 0) (nI e) = 0)
def dE (F0 : LF) (e : Nat) (S : SP) : SP := dyS F0 (evb e S) (evb e S) S 0 S.1
def sbL (F0 : LF) (v : Int32) (e : Nat) : Nat → SP → Bool
  | 0, _ => true
  | m + 1, S => decide (dfL (dE F0 e S) v S.1 0 = S.1) && sbL F0 v e m (dE F0 e S)
theorem sg33 (a : Bool) : (if a = true then (3 : Int32) else 0) = nI (sgN a a) := by cases a <;> decide
theorem sbC {τT : CS} {F0 F1 : LF} {v : Int32} {e : Nat} (he1 : 0 < e) (he : e < 100) (hL : CL τT 1 F0 F1) (hF : FR0 F0) : ∀ (m n i : Nat) (S : SP) (D : Int) (τ : CS), i + m = 29 → m < n → SPok S D → D + m < 900000 → CW τT 1 S τ → ∃ τ', N_T_staysBelow_b13 n v (nI e) (nI i) τ = some (b01 (sbL F0 v e m S), τ') ∧ fr 1 τT τ' := by
  intro m
  induction m with
  | zero =>
    intro n i S D τ hm hn hS hD w
    obtain ⟨n, rfl⟩ : ∃ q, n = q + 1 := ⟨n - 1, by omega⟩
    have hi : i = 29 := by omega
    subst hi
    rw [N_T_staysBelow_b13, if_pos (by decide : (28 : Int32) < nI 29)]
    exact ⟨τ, rfl, w.2⟩
  | succ m ih =>
    intro n i S D τ hm hn hS hD w
    obtain ⟨n, rfl⟩ : ∃ q, n = q + 1 := ⟨n - 1, by omega⟩
    have c : ¬ (28 : Int32) < nI i := nI_nlt (a := 28) (b := i) (by omega) (by decide)
    have ht : τ.1 1 7 = S.2.2 0 := w.1.2.2.2.1
    have hn1 : τ.1 1 5 = nI S.1 := w.1.1
    have ez : nz (nI e) = true := nz_t (nI_ne0 he1 (by omega))
    have es : (if irm (S.2.2 0) (nI e) = 0 then (3 : Int32) else 0) = nI (sgN (evb e S) (evb e S)) := by
      rw [← sg33]
      unfold evb
      by_cases q : irm (S.2.2 0) (nI e) = 0
      · rw [if_pos q, decide_eq_true q, if_pos tt]
      · rw [if_neg q, decide_eq_false q, if_neg fnt]
    obtain ⟨τ2, e2, w2, s2⟩ := ppC (a := evb e S) (b := evb e S) (lo := 0) (hi := S.1) hL hF hS (by omega) rfl (by omega) (Nat.le_refl _) w
    have e2' : N_S_passPart 1 0 (nI S.1) (nI (sgN (evb e S) (evb e S))) τ = some (0, τ2) := e2
    have hdf := dfL_le (dE F0 e S) v S.1 0
    have h12 := hS.1
    have ef : N_S_firstWith 1 v τ2 = some ((if dfL (dE F0 e S) v S.1 0 = S.1 then -1 else nI (dfL (dE F0 e S) v S.1 0)), τ2) := firstC (S := dE F0 e S) s2.1 w2.1
    have el : sbL F0 v e (m + 1) S = (decide (dfL (dE F0 e S) v S.1 0 = S.1) && sbL F0 v e m (dE F0 e S)) := rfl
    rw [N_T_staysBelow_b13, if_neg c, gd_t ez, ht, es, lt_e, hn1, e2', ob_s, ef, ob_s, el]
    by_cases q : dfL (dE F0 e S) v S.1 0 = S.1
    · rw [if_pos q, if_pos (by decide : (-1 : Int32) < 0), decide_eq_true q, nI_1, Bool.true_and]
      exact ih n (i + 1) (dE F0 e S) (D + 1) τ2 (by omega) (by omega) s2 (by omega) w2
    · rw [if_neg q, if_neg (nI_pos (by omega)), decide_eq_false q, Bool.false_and]
      exact ⟨τ2, rfl, w2.2⟩
theorem sgH_e {σ0 : RS} {t : Int32} {e : Nat} (he1 : 0 < e) (he : e < 100) (h15 : σ0.1 15 = nI e) : sgH σ0 t (decide (irm t (nI e) = 0)) (decide (irm t (nI e) = 0)) := by
  intro σ hfr
  have h15' : σ.1 15 = nI e := (hfr.1 15 (by omega)).trans h15
  have ez : nz (nI e) = true := nz_t (nI_ne0 he1 (by omega))
  have e1 : (if irm t (nI e) = 0 then (1 : Int32) else 0) = b01 (decide (irm t (nI e) = 0)) := by
    by_cases q : irm t (nI e) = 0
    · rw [if_pos q, decide_eq_true q]; rfl
    · rw [if_neg q, decide_eq_false q]; rfl
  unfold M_isSigned
  rw [h15', if_neg (nI_nle he1 (by omega)), if_neg (nI_nle he1 (by omega)), gd_t ez, e1]
  exact ⟨⟨σ, rfl, req.rf σ⟩, ⟨σ, rfl, req.rf σ⟩⟩
theorem sbR {σS : RS} {F0 F1 : LF} {v be : Int32} {e : Nat} {ag : Int32 → Int32 → RS → Option (Int32 × RS)} (he1 : 0 < e) (he : e < 100) (hL : RLw σS F0 F1) (hF : FR0 F0) (h15 : σS.1 15 = nI e) : ∀ (m n i : Nat) (a : Bool) (S : SP) (D : Int) (σ : RS), i + m = 28 → m < n → SPok S D → D + m < 900000 → RW σS S σ → ∃ σ', M_seldom_b51 ag n v be (b01 a) (nI i) σ = M_seldom_b92 ag v be (b01 (a && sbL F0 v e m S)) σ' ∧ frr σS σ' := by
  intro m
  induction m with
  | zero =>
    intro n i a S D σ hm hn hS hD w
    obtain ⟨n, rfl⟩ : ∃ q, n = q + 1 := ⟨n - 1, by omega⟩
    have hi : i = 28 := by omega
    subst hi
    have el : sbL F0 v e 0 S = true := rfl
    rw [M_seldom_b51, if_pos (by decide : (28 : Int32) ≤ nI 28), el, Bool.and_true]
    exact ⟨σ, rfl, w.2⟩
  | succ m ih =>
    intro n i a S D σ hm hn hS hD w
    obtain ⟨n, rfl⟩ : ∃ q, n = q + 1 := ⟨n - 1, by omega⟩
    have c : ¬ (28 : Int32) ≤ nI i := nI_ge (a := i) (b := 28) (by omega) (by decide)
    rw [M_seldom_b51, if_neg c]
    cases a
    · rw [if_pos b0z, Bool.false_and]
      exact ⟨σ, rfl, w.2⟩
    · rw [if_neg b1z]
      obtain ⟨σ2, e2, w2, s2⟩ := dayR hL hF hS (by omega) (sgH_e (t := S.2.2 0) he1 he h15) w
      have hdf := dfL_le (dE F0 e S) v S.1 0
      have h12 := hS.1
      have ed : M_dirtyFrom v σ2 = some (nI (dfL (dE F0 e S) v S.1 0), σ2) := dirtyR (S := dE F0 e S) s2.1 w2.1
      have hn1 : σ2.2 0 2 = nI S.1 := w2.1.1
      have el : sbL F0 v e (m + 1) S = (decide (dfL (dE F0 e S) v S.1 0 = S.1) && sbL F0 v e m (dE F0 e S)) := rfl
      rw [e2, ob_s, ed, ob_s, lt_e, hn1, nI_1, el, Bool.true_and]
      have eb : (if nI (dfL (dE F0 e S) v S.1 0) = nI S.1 then (1 : Int32) else 0) = b01 (decide (dfL (dE F0 e S) v S.1 0 = S.1)) := by
        by_cases q : dfL (dE F0 e S) v S.1 0 = S.1
        · rw [q, if_pos rfl, decide_eq_true rfl]; rfl
        · rw [if_neg (fun z => q ((nI_eq (by omega) (by omega)).mp z)), decide_eq_false q]; rfl
      rw [eb]
      exact ih n (i + 1) _ (dE F0 e S) (D + 1) σ2 (by omega) (by omega) s2 (by omega) w2
def gh (P : Nat → Bool) : Nat → Option Nat
  | 0 => none
  | m + 1 => if P (m + 1) = true then some (m + 1) else gh P m
theorem gh_le (P : Nat → Bool) : ∀ m a, gh P m = some a → a ≤ m := by
  intro m
  induction m with
  | zero => intro a h; cases h
  | succ m ih =>
    intro a h
    have h' : (if P (m + 1) = true then some (m + 1) else gh P m) = some a := h
    by_cases c : P (m + 1) = true
    · rw [if_pos c] at h'
      cases h'
      omega
    · rw [if_neg c] at h'
      have := ih a h'
      omega
theorem ag_seldom (x : Int32) : Agree Inv (N_T_seldom x) (M_seldom x) := by
  intro k τ σ hk h
  show AgP k _ _
  unfold N_T_seldom M_seldom
  refine chk E1 h (fun c1 c2 => ?_)
  obtain ⟨S, F0, F1, hS, w, r, hL, hR, hF0, hF1, h15⟩ := Inv_day h
  have h12 := hS.1
  obtain ⟨σS, e2, b⟩ := save_e σ
  rw [e2, ob_s, lt_e]
  have hF' : FU = 1000 := rfl
  obtain ⟨P, hP⟩ : ∃ P : Nat → Bool, P = fun e => sbL F0 x e 28 S := ⟨_, rfl⟩
  have lC : ∀ (m f : Nat) (τ1 : CS), m ≤ 14 → m < f → t1 τ τ1 → ∃ τ2, t1 τ τ2 ∧ N_T_seldom_b21 f x (nI m) τ1 = (match gh P m with
      | some a => some (nI a, τ2)
      | none => ob (N_T_fail (-1000000002) τ2) fun v s => some (v, s)) := by
    intro m
    induction m with
    | zero =>
      intro f τ1 hm hf t
      obtain ⟨f, rfl⟩ : ∃ q, f = q + 1 := ⟨f - 1, by omega⟩
      rw [N_T_seldom_b21, if_pos (by decide : nI 0 < (1 : Int32))]
      exact ⟨τ1, t, rfl⟩
    | succ m ih =>
      intro f τ1 hm hf t
      obtain ⟨f, rfl⟩ : ∃ q, f = q + 1 := ⟨f - 1, by omega⟩
      have c : ¬ nI (m + 1) < (1 : Int32) := nI_nlt (a := m + 1) (b := 1) (by omega) (by omega)
      obtain ⟨τT, e1, t2, wT, hLT⟩ := think1 h12 t w.1 hL
      obtain ⟨τ3, e3, q3⟩ := sbC (v := x) (e := m + 1) (by omega) (by omega) hLT hF0 28 FU 1 S 9999 τT rfl (by omega) hS (by omega) wT
      have e3' : N_T_staysBelow_b13 FU x (nI (m + 1)) 1 τT = some (b01 (P (m + 1)), τ3) := by
        have hPe : sbL F0 x (m + 1) 28 S = P (m + 1) := by rw [hP]
        rw [hPe] at e3
        exact e3
      have t3 := t2.fr q3
      have eg : gh P (m + 1) = if P (m + 1) = true then some (m + 1) else gh P m := rfl
      rw [N_T_seldom_b21, if_neg c]
      unfold N_T_staysBelow
      rw [e1, ob_s, e3', ob_s, eg]
      cases P (m + 1)
      · rw [if_pos b0z, if_neg fnt, pk_m1]
        exact ih f τ3 (by omega) (by omega) t3
      · rw [if_neg b1z, if_pos tt]
        exact ⟨τ3, t3, rfl⟩
  have lR : ∀ (m f e : Nat) (σ1 : RS), e + m = 15 → 0 < e → m < f → rB (ri σ 15 (nI e)) σ1 → ∃ σ2, rB σ σ2 ∧ M_seldom_b37 f x (oI (-1) (gh P (e - 1))) σ1 = (if 0 ≤ oI (-1) (gh P 14) then some (oI (-1) (gh P 14), σ2) else ob (M_errs (-1000000002) σ2) fun v s => some (v, s)) := by
    intro m
    induction m with
    | zero =>
      intro f e σ1 hm he hf bb
      obtain ⟨f, rfl⟩ : ∃ q, f = q + 1 := ⟨f - 1, by omega⟩
      have he : e = 15 := by omega
      subst he
      have q15 : σ1.1 15 = nI 15 := (bb.1.1.1 15 (by omega)).trans (ri_eq _ _ _)
      rw [M_seldom_b37, q15, if_pos (by decide : (14 : Int32) < nI 15), lt_e]
      refine ⟨ri σ1 15 0, ⟨⟨⟨fun f q => ?_, fun f a b => bb.1.1.2 f a b⟩, bb.1.2⟩, bb.2⟩, rfl⟩
      by_cases c : f = 15
      · subst c; rw [ri_eq, h15]
      · rw [ri_ne _ _ c, bb.1.1.1 f q, ri_ne _ _ c]
    | succ m ih =>
      intro f e σ1 hm he hf bb
      obtain ⟨f, rfl⟩ : ∃ q, f = q + 1 := ⟨f - 1, by omega⟩
      have q15 : σ1.1 15 = nI e := (bb.1.1.1 15 (by omega)).trans (ri_eq _ _ _)
      have c : ¬ (14 : Int32) < nI e := nI_nlt (a := 14) (b := e) (by omega) (by decide)
      have hRe : RLw (ri σ 15 (nI e)) F0 F1 := hR
      obtain ⟨σ2, e2, f2⟩ := sbR (v := x) (be := oI (-1) (gh P (e - 1))) (ag := M_seldom_b37 f) he (by omega) (rB_L bb hRe) hF0 q15 28 FU 0 true S 9999 σ1 rfl (by omega) hS (by omega) (rB_W (σ0 := ri σ 15 (nI e)) h12 bb r.1)
      have e2' : M_seldom_b51 (M_seldom_b37 f) FU x (oI (-1) (gh P (e - 1))) 1 0 σ1 = M_seldom_b92 (M_seldom_b37 f) x (oI (-1) (gh P (e - 1))) (b01 (P e)) σ2 := by
        have hPe : sbL F0 x e 28 S = P e := by rw [hP]
        rw [Bool.true_and, hPe] at e2
        exact e2
      have b2 : rT (ri σ 15 (nI e)) σ2 := bb.1.frr f2
      obtain ⟨σ3, e3, b3⟩ := back_e b2
      have q15' : σ3.1 15 = nI e := (b3.1.1.1 15 (by omega)).trans (ri_eq _ _ _)
      have q15'' : σ2.1 15 = nI e := (b2.1.1 15 (by omega)).trans (ri_eq _ _ _)
      have bn : rB (ri σ 15 (nI (e + 1))) (ri σ3 15 (nI (e + 1))) := by
        refine ⟨⟨⟨fun f q => ?_, fun f a b => b3.1.1.2 f a b⟩, b3.1.2⟩, b3.2⟩
        by_cases c : f = 15
        · subst c; rw [ri_eq, ri_eq]
        · rw [ri_ne _ _ c, ri_ne _ _ c, b3.1.1.1 f q, ri_ne _ _ c]
      obtain ⟨σ4, b4, e4⟩ := ih f (e + 1) (ri σ3 15 (nI (e + 1))) (by omega) (by omega) (by omega) bn
      refine ⟨σ4, b4, ?_⟩
      rw [M_seldom_b37, q15, if_neg c, e2']
      have eg : gh P (e + 1 - 1) = if P e = true then some e else gh P (e - 1) := by
        obtain ⟨d, rfl⟩ : ∃ d, e = d + 1 := ⟨e - 1, by omega⟩
        rfl
      rw [eg] at e4
      unfold M_seldom_b92 M_seldom_b104
      cases hp : P e
      · rw [hp, if_neg fnt] at e4
        rw [if_pos b0z, e3, ob_s, lt_e, q15', nI_1]
        exact e4
      · rw [hp, if_pos tt] at e4
        rw [if_neg b1z, e3, ob_s, lt_e, q15', nI_1, q15'']
        exact e4
  obtain ⟨τ2, t2, eC⟩ := lC 14 FU τ (by omega) (by omega) (t1.rf (Inv_l h))
  obtain ⟨σ2, b2, eR⟩ := lR 14 FU 1 (ri σS 15 1) rfl (by omega) (by omega) (by
    refine ⟨⟨⟨fun f q => ?_, fun f a b' => b.1.1.2 f a b'⟩, b.1.2⟩, b.2⟩
    by_cases c : f = 15
    · subst c; rw [ri_eq, ri_eq]; rfl
    · rw [ri_ne _ _ c, ri_ne _ _ c, b.1.1.1 f q])
  have eC' : N_T_seldom_b21 FU x 14 τ = _ := eC
  have eR' : M_seldom_b37 FU x (-1) (ri σS 15 1) = _ := eR
  rw [eC', eR']
  cases hq : gh P 14 with
  | none =>
    have z : ¬ (0 : Int32) ≤ oI (-1) none := by decide
    rw [if_neg z]
    exact errT E2 h t2 b2
  | some a =>
    have ha := gh_le P 14 a hq
    have z : (0 : Int32) ≤ oI (-1) (some a) := nI_pos' (n := a) (by omega)
    rw [if_pos z]
    exact ⟨_, _, _, rfl, rfl, Inv_tB h t2 b2⟩
