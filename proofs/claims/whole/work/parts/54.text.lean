/-! text, law, sign -/
def AgP (k : Nat) (o1 : Option (Int32 × CS)) (o2 : Option (Int32 × RS)) : Prop := ∃ (v : Int32) (τ' : CS) (σ' : RS), o1 = some (v, τ') ∧ o2 = some (v, σ') ∧ Inv (k + 1) τ' σ'
theorem chk {k j : Nat} {τ : CS} {σ : RS} {x lo hi e : Int32} {A : CS → Option (Int32 × CS)} {B : RS → Option (Int32 × RS)} (he : isE e j) (h : Inv k τ σ) (K : ¬ x < lo → ¬ hi < x → AgP k (A τ) (B σ)) : AgP k (ob (N_T_within x lo hi τ) fun v1 s => (if v1 = 0 then (ob (N_T_fail e s) fun v5 s6 => (some (v5, s6))) else A s)) (ob (M_in x lo hi σ) fun v1 s => (if v1 = 0 then (ob (M_errs e s) fun v5 s6 => (some (v5, s6))) else B s)) := by
  unfold N_T_within M_in
  rw [ob_s, ob_s]
  by_cases c : (if x < lo then (0 : Int32) else if hi < x then 0 else 1) = 0
  · rw [if_pos c, if_pos c]; exact err2 he h
  · rw [if_neg c, if_neg c]
    obtain ⟨c1, c2⟩ := in_ne c
    exact K c1 c2
theorem chkY {k j : Nat} {τ : CS} {σ : RS} {x e : Int32} {A : CS → Option (Int32 × CS)} {B : RS → Option (Int32 × RS)} (he : isE e j) (h : Inv k τ σ) (K : ∀ (S : SP) (y : Nat), y < S.1 → x = nI y → SPok S 9999 → RRow (σ.2 0) S → CStr τ 0 S → AgP k (A τ) (B σ)) : AgP k (ob (N_S_has 0 x τ) fun v1 s => (if v1 = 0 then (ob (N_T_fail e s) fun v5 s6 => (some (v5, s6))) else A s)) (ob (M_isYard x σ) fun v1 s => (if v1 = 0 then (ob (M_errs e s) fun v5 s6 => (some (v5, s6))) else B s)) := by
  obtain ⟨S, hS, hr, hc, hok, n1, n2⟩ := Inv_n h
  rw [has_e, isYard_e, ob_s, ob_s, n1, n2]
  by_cases c : (if x < 0 then (0 : Int32) else if nI S.1 - 1 < x then 0 else 1) = 0
  · rw [if_pos c, if_pos c]; exact err2 he h
  · rw [if_neg c, if_neg c]
    obtain ⟨c1, c2⟩ := in_ne c
    obtain ⟨y, hy, e⟩ := in_cnt (by omega) c1 c2
    exact K S y hy e hok hr hc
theorem lawOf_t {u t : Nat} {a b c x : Int32} {σ σ' : RS} (hu : u < 2) (ht : t < 2 ^ 31) (h : σ.2 0 (5 + u) = nI t) (hw : M_walks (nI u) a b c σ = some (x, σ')) : M_lawOf (nI u) a b c σ = some (clp (if nI u = 0 then 99 else 1) x, σ') := by
  unfold M_lawOf
  rw [lt_e, n5u, gd_t (inb_nI (show 5 + u < 240 by omega) (by decide)), ix_nI (show 5 + u < 2 ^ 31 by omega), h, if_neg (nI_pos ht), hw, ob_s]
  rfl
def GFl (j : Nat) (τF : CS) (a b c : Int32) : Int32 := ((N_L_give j a b c τF).getD (0, τF)).1
theorem text_law {τR τF : CS} {u t W j : Nat} {f row : Nat → Int32} (hu : u < 2) (ht : t ≤ 50) (hW0 : 0 < W) (hW : W ≤ 50) (P : ∀ (σ : RS) (a b c : Int32), txR σ u t f → ∃ (x : Int32) (σ' : RS) (cd : List Int32), M_walks (nI u) a b c σ = some (x, σ') ∧ req σ σ' ∧ cd.length = W ∧ (∀ k, k < W → τR.2.1 3 1 k = cd.getD k 0) ∧ EvC a b c cd x) (hj : j < τF.2.2 7 0) (h1 : τF.2.2 (j + 8) 0 = W) (h2 : τF.1 (j + 8) 0 = nI u) (h3 : ∀ k, k < W → τF.2.1 (j + 8) 1 k = τR.2.1 3 1 k) (hr1 : row (5 + u) = nI t) (hr2 : ∀ i, i < t → row (140 + 50 * u + i) = f i) : ∃ F : LF, LawC τF j F ∧ LawR row u F ∧ (u = 0 → FR0 F) ∧ (u = 1 → FR1 F) := by
  have hm0 : (0 : Int32) < (if nI u = 0 then 99 else 1) := by
    by_cases c : nI u = 0
    · rw [if_pos c]; decide
    · rw [if_neg c]; decide
  have key : ∀ (τ2 : CS), (τ2.1 (j + 8) 0 = τF.1 (j + 8) 0 ∧ τ2.2.1 (j + 8) 1 = τF.2.1 (j + 8) 1 ∧ τ2.2.2 (j + 8) 0 = τF.2.2 (j + 8) 0 ∧ j < τ2.2.2 7 0) → ∀ (a b c x : Int32) (cd : List Int32), cd.length = W → (∀ k, k < W → τR.2.1 3 1 k = cd.getD k 0) → EvC a b c cd x → ∃ τ3, N_L_give j a b c τ2 = some (clp (if nI u = 0 then 99 else 1) x, τ3) ∧ ceq τ2 τ3 := by
    intro τ2 ⟨q1, q2, q3, q4⟩ a b c x cd hl hs hE
    exact give_e q4 (q3.trans h1) hW0 hW hl (fun k hk => by rw [q2, h3 k hk]; exact hs k hk) hE (by rw [q1, h2]) hm0
  have kF : ∀ (a b c x : Int32) (cd : List Int32), cd.length = W → (∀ k, k < W → τR.2.1 3 1 k = cd.getD k 0) → EvC a b c cd x → GFl j τF a b c = clp (if nI u = 0 then 99 else 1) x := by
    intro a b c x cd hl hs hE
    obtain ⟨τ3, e, -⟩ := key τF ⟨rfl, rfl, rfl, hj⟩ a b c x cd hl hs hE
    unfold GFl
    rw [e]; rfl
  have hR0 : txR ((fun _ => 0, fun _ => row) : RS) u t f := ⟨hr1, hr2⟩
  refine ⟨GFl j τF, ⟨hj, fun τ2 q a b c => ?_⟩, fun σ q a b c => ?_, fun hu0 a b c => ?_, fun hu1 a b c => ?_⟩
  · obtain ⟨x, σ', cd, -, -, hl, hs, hE⟩ := P _ a b c hR0
    obtain ⟨τ3, e, hc⟩ := key τ2 q a b c x cd hl hs hE
    exact ⟨τ3, by rw [e, kF a b c x cd hl hs hE], hc⟩
  · have hR : txR σ u t f := ⟨q.1.trans hr1, fun i hi => (q.2 i (by omega)).trans (hr2 i hi)⟩
    obtain ⟨x, σ', cd, e, hq, hl, hs, hE⟩ := P σ a b c hR
    exact ⟨σ', by rw [lawOf_t hu (by omega) hR.1 e, kF a b c x cd hl hs hE], hq⟩
  · obtain ⟨x, σ', cd, -, -, hl, hs, hE⟩ := P _ a b c hR0
    rw [kF a b c x cd hl hs hE]
    subst hu0
    exact clp_r (m := 99) (by decide)
  · obtain ⟨x, σ', cd, -, -, hl, hs, hE⟩ := P _ a b c hR0
    rw [kF a b c x cd hl hs hE]
    subst hu1
    obtain ⟨r1, r2⟩ := clp_r (m := 1) (x := x) (by decide)
    rw [show (1 : Int32).toInt = 1 by decide] at r2
    show clp 1 x = 0 ∨ clp 1 x = 1
    rcases (show (clp 1 x).toInt = 0 ∨ (clp 1 x).toInt = 1 by omega) with e | e
    · exact Or.inl (Int32.toInt_inj.mp e)
    · exact Or.inr (Int32.toInt_inj.mp e)
def lsame2 (τ τ' : CS) : Prop := (∀ j, j < τ.2.2 7 0 → τ'.1 (j + 8) 0 = τ.1 (j + 8) 0 ∧ τ'.2.1 (j + 8) 1 = τ.2.1 (j + 8) 1 ∧ τ'.2.2 (j + 8) 0 = τ.2.2 (j + 8) 0) ∧ τ.2.2 7 0 ≤ τ'.2.2 7 0
theorem LawC.same2 {τ τ' : CS} {j : Nat} {F : LF} (hs : lsame2 τ τ') (h : LawC τ j F) : LawC τ' j F := by
  have hj := h.1
  refine ⟨by have := hs.2; omega, fun τ2 h2 => h.2 τ2 ?_⟩
  obtain ⟨a1, a2, a3⟩ := hs.1 j hj
  exact ⟨h2.1.trans a1, h2.2.1.trans a2, h2.2.2.1.trans a3, h2.2.2.2⟩
theorem Kept.same2 {row : Nat → Int32} {τ τ' : CS} {d : Nat} (hs : dsame d τ τ') (hl : lsame2 τ τ') (h : Kept row τ d) : Kept row τ' d := by
  obtain ⟨S, F0, F1, h1, h2, h3, h4, h5, h6, h7, h8, h9, h10⟩ := h
  exact ⟨S, F0, F1, h1, h2, h3.same hs, h4.same hs, h5, h6, by rw [hs.2.2]; exact h7.same2 hl, h8, by rw [hs.2.2]; exact h9.same2 hl, h10⟩
theorem RRow.cg {row row' : Nat → Int32} {S : SP} (hS : S.1 ≤ 12) (h : RRow row S) (e : ∀ i, i < 70 → i = 2 ∨ i = 0 ∨ 7 ≤ i → row' i = row i) : RRow row' S := by
  obtain ⟨a, b, c1, c2, c3, c4⟩ := h
  refine ⟨by rw [e _ (by omega) (by omega)]; exact a, fun k hk f hf => by rw [e _ (by omega) (by omega)]; exact b k hk f hf, ?_, ?_, ?_, ?_⟩
  · rw [e _ (by omega) (by omega)]; exact c1
  · rw [e _ (by omega) (by omega)]; exact c2
  · rw [e _ (by omega) (by omega)]; exact c3
  · rw [e _ (by omega) (by omega)]; exact c4
theorem Kept.rcg {row row' : Nat → Int32} {τ : CS} {d : Nat} (e : ∀ i, i < 240 → row' i = row i) (h : Kept row τ d) : Kept row' τ d := by
  obtain ⟨S, F0, F1, h1, h2, h3, ⟨⟨t, q1, q2, q3, q4⟩, ⟨w, w1, w2, w3, w4⟩, t3⟩, h5, h6, h7, h8, h9, h10⟩ := h
  refine ⟨S, F0, F1, h1, h2.cg h1.1 (fun i hi _ => e i (by omega)), h3, ⟨⟨t, q1, by rw [e _ (by omega)]; exact q2, q3, fun i hi => by rw [e _ (by omega)]; exact q4 i hi⟩, ⟨w, w1, by rw [e _ (by omega)]; exact w2, w3, fun i hi => by rw [e _ (by omega)]; exact w4 i hi⟩, by rw [e _ (by omega)]; exact t3⟩, h5, h6, h7, h8.cg (e _ (by omega)) (fun i hi => e _ (by omega)), h9, h10.cg (e _ (by omega)) (fun i hi => e _ (by omega))⟩
theorem Kept_tp0 {row : Nat → Int32} {τ : CS} (h : Kept row τ 0) : Kept (upd row 3 0) (si τ 0 14 0) 0 := by
  obtain ⟨S, F0, F1, a1, a2, a3, ⟨t1, t2, t3⟩, a5, a6, a7, a8, a9, a10⟩ := h
  have hs : ∀ f, f ≠ 14 → (si τ 0 14 0).1 0 f = τ.1 0 f := fun f hf => si_ne _ _ hf
  refine ⟨S, F0, F1, a1, a2.up a1.1 (by omega), ?_, ⟨⟨0, by omega, by rw [upd_eq]; rfl, by rw [si_eq]; rfl, fun i hi => absurd hi (Nat.not_lt_zero _)⟩, ?_, ?_⟩, a5, a6, a7.same (lsame_si (by decide)), a8.up (by decide) (by omega), a9.same (lsame_si (by decide)), a10.up (by decide) (by omega)⟩
  · obtain ⟨s1, s2, s3, s4⟩ := a3
    refine ⟨by rw [hs _ (by decide)]; exact s1, s2, by rw [hs _ (by decide)]; exact s3, ?_⟩
    rw [hs _ (by decide), hs _ (by decide), hs _ (by decide), hs _ (by decide)]; exact s4
  · obtain ⟨w, w1, w2, w3, w4⟩ := t2
    exact ⟨w, w1, by rw [upd_ne _ _ (by omega)]; exact w2, by rw [hs _ (by decide)]; exact w3, fun i hi => by rw [upd_ne _ _ (by omega)]; exact w4 i hi⟩
  · rw [upd_ne _ _ (by omega), hs _ (by decide)]; exact t3
theorem ra_ra (σ : RS) (f : Nat) (a b : Nat → Int32) : ra (ra σ f a) f b = ra σ f b := by
  unfold ra
  congr 1
  funext j
  unfold va_up
  by_cases c : j = f <;> simp [c]
theorem ra_id (σ : RS) (f : Nat) : ra σ f (σ.2 f) = σ := by
  obtain ⟨a, b⟩ := σ
  unfold ra
  congr 1
  funext j
  unfold va_up
  by_cases c : j = f <;> simp [c]
/-- the tape from byte k on comes to use u's text -/
def cpT (row : Nat → Int32) (u k : Nat) : Nat → Int32 := fun i => if 140 + 50 * u + k ≤ i ∧ i < 190 + 50 * u then row (i - (140 + 50 * u) + 70) else row i
theorem text_cp {u : Nat} (hu : u < 2) : ∀ (m k n : Nat) (σ : RS), k + m = 50 → M_text_b30 (n + m) (nI u) (nI k) σ = M_text_b30 n (nI u) (nI 50) (ra σ 0 (cpT (σ.2 0) u k)) := by
  intro m
  induction m with
  | zero =>
    intro k n σ h
    have hk : k = 50 := by omega
    subst hk
    have e : cpT (σ.2 0) u 50 = σ.2 0 := by
      funext i
      unfold cpT
      rw [if_neg (by omega)]
    rw [e, ra_id]; rfl
  | succ m ih =>
    intro k n σ h
    have c1 : ¬ (50 : Int32) ≤ nI k := nI_ge (a := k) (b := 50) (by omega) (by decide)
    have e1 : (70 : Int32) + nI k = nI (70 + k) := nI_add 70 k
    have e2 : ((140 : Int32) + (50 : Int32) * nI u) + nI k = nI (140 + 50 * u + k) := by
      rw [show (140 : Int32) = nI 140 from rfl, show (50 : Int32) = nI 50 from rfl, pk_mul, nI_add, nI_add]
    have b1 : inb (nI (70 + k)) 240 = true := inb_nI (by omega) (by decide)
    have b2 : inb (nI (140 + 50 * u + k)) 240 = true := inb_nI (by omega) (by decide)
    have x1 : ix (nI (70 + k)) = 70 + k := ix_nI (by omega)
    have x2 : ix (nI (140 + 50 * u + k)) = 140 + 50 * u + k := ix_nI (by omega)
    rw [show n + (m + 1) = (n + m) + 1 by omega]
    simp only [M_text_b30, if_neg c1, e1, e2, gd_t b1, gd_t b2, x1, x2, lt_e, nI_1]
    rw [ih (k + 1) n _ (by omega), ra_eq, ra_ra]
    congr 2
    funext i
    unfold cpT upd
    by_cases c : i = 140 + 50 * u + k
    · rw [if_neg (by omega), if_pos c, if_pos (by omega), show i - (140 + 50 * u) + 70 = 70 + k by omega]
    · by_cases c2 : 140 + 50 * u + (k + 1) ≤ i ∧ i < 190 + 50 * u
      · rw [if_pos c2, if_neg (by omega), if_pos (by omega)]
      · rw [if_neg c2, if_neg c, if_neg (by omega)]
theorem cpok_t {t : Nat} (ht : t ≤ 50) : cpok 0 0 (nI t) 50 50 = true := by
  have h1 : (nI t).toNatClampNeg = t := nI_clamp (by omega)
  have h2 : ¬ nI t < 0 := nI_pos (by omega)
  have h3 : (0 : Int32).toNatClampNeg = 0 := by decide
  have h4 : ¬ (0 : Int32) < 0 := by decide
  unfold cpok
  simp only [h1, h2, h3, h4, decide_false, Bool.not_false, Bool.true_and, Nat.zero_add, ht, decide_true]
def q3 (τ τ' : CS) : Prop := τ'.2.2 = τ.2.2 ∧ (∀ o f, o ≠ 3 → τ'.1 o f = τ.1 o f) ∧ ∀ o f, o ≠ 3 → τ'.2.1 o f = τ.2.1 o f
theorem q3.tr {a b c : CS} (h : q3 a b) (h2 : q3 b c) : q3 a c := ⟨h2.1.trans h.1, fun o f q => (h2.2.1 o f q).trans (h.2.1 o f q), fun o f q => (h2.2.2 o f q).trans (h.2.2 o f q)⟩
theorem q3_si {τ : CS} {f : Nat} {v : Int32} : q3 τ (si τ 3 f v) := ⟨rfl, fun o g q => by simp [si, up2, q], fun _ _ _ => rfl⟩
theorem q3_sa {τ : CS} {f : Nat} {v : Nat → Int32} : q3 τ (sa τ 3 f v) := ⟨rfl, fun _ _ _ => rfl, fun o g q => by simp [sa, up2, q]⟩
theorem pzC_q3 {τ τ' : CS} (h : pzC τ τ') : q3 τ τ' := ⟨h.1, fun o f q => h.2.1 o f (by omega), fun o f q => h.2.2 o f (by omega)⟩
theorem q3_d {τ τ' : CS} {d : Nat} (hd : d ≠ 3) (h : q3 τ τ') : dsame d τ τ' := ⟨fun f => h.2.1 d f hd, fun f => h.2.2 d f hd, fun f => by rw [h.1]⟩
theorem q3_l {τ τ' : CS} (h : q3 τ τ') : lsame τ τ' := ⟨fun j => ⟨h.2.1 _ _ (by omega), h.2.2 _ _ (by omega), by rw [h.1]⟩, by rw [h.1]⟩
theorem q3_c {τ τ' : CS} (h : q3 τ τ') : csame τ τ' := ⟨fun o f _ q => h.2.1 o f q, fun o f _ q _ => h.2.2 o f q, fun o f _ => by rw [h.1]⟩
theorem mcp_lt {f h : Nat → Int32} {n i : Nat} (hi : i < n) : mcp f h n i = f i := by unfold mcp; rw [if_pos hi]
