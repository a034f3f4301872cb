/-! what is only thought: street 1 of the class, the row put back in the reference -/
theorem si_o (τ : CS) {o d f g : Nat} (v : Int32) (h : o ≠ d) : (si τ d f v).1 o g = τ.1 o g := by simp [si, up2, h]
theorem sa_o (τ : CS) {o d f g : Nat} (v : Nat → Int32) (h : o ≠ d) : (sa τ d f v).2.1 o g = τ.2.1 o g := by simp [sa, up2, h]
theorem slw_o (τ : CS) {o d f g : Nat} (v : Nat) (h : o ≠ d) : (slw τ d f v).2.2 o g = τ.2.2 o g := by simp [slw, up2, h]
theorem slw_ne (τ : CS) {o f g : Nat} (v : Nat) (h : g ≠ f) : (slw τ o f v).2.2 o g = τ.2.2 o g := by simp [slw, up2, h]
theorem slw_eq (τ : CS) (o f : Nat) (v : Nat) : (slw τ o f v).2.2 o f = v := by simp [slw, up2]
theorem ix12 : ix (12 : Int32) = 12 ∧ ix (0 : Int32) = 0 := by decide
theorem thinkG {d e : Nat} (hne : e ≠ d) (τ : CS) : ∃ τT, N_S_thinkOf d e τ = some (0, τT) ∧ (∀ o f, ¬ (o = d ∧ 5 ≤ f ∧ f ≤ 10) → τT.1 o f = τ.1 o f) ∧ (∀ f, 5 ≤ f → f ≤ 10 → τT.1 d f = τ.1 e f) ∧ (∀ o f, ¬ (o = d ∧ 1 ≤ f ∧ f ≤ 4) → τT.2.1 o f = τ.2.1 o f) ∧ (∀ f k, 1 ≤ f → f ≤ 4 → k < 12 → τT.2.1 d f k = τ.2.1 e f k) ∧ (∀ o f, ¬ (o = d ∧ (f = 11 ∨ f = 12)) → τT.2.2 o f = τ.2.2 o f) ∧ τT.2.2 d 11 = τ.2.2 e 11 ∧ τT.2.2 d 12 = τ.2.2 e 12 := by
  unfold N_S_thinkOf
  simp only [lt_e]
  refine ⟨_, rfl, fun o f h => ?_, fun f h1 h2 => ?_, fun o f h => ?_, fun f k h1 h2 h3 => ?_, fun o f h => ?_, ?_, ?_⟩
  · by_cases ho : o = d
    · subst ho
      have a5 : f ≠ 5 := by omega
      have a6 : f ≠ 6 := by omega
      have a7 : f ≠ 7 := by omega
      have a8 : f ≠ 8 := by omega
      have a9 : f ≠ 9 := by omega
      have a10 : f ≠ 10 := by omega
      simp [si, sa, slw, up2, a5, a6, a7, a8, a9, a10]
    · simp [si, sa, slw, up2, ho]
  · rcases (show f = 5 ∨ f = 6 ∨ f = 7 ∨ f = 8 ∨ f = 9 ∨ f = 10 by omega) with rfl | rfl | rfl | rfl | rfl | rfl <;> simp [si, sa, slw, up2, hne]
  · by_cases ho : o = d
    · subst ho
      have a1 : f ≠ 1 := by omega
      have a2 : f ≠ 2 := by omega
      have a3 : f ≠ 3 := by omega
      have a4 : f ≠ 4 := by omega
      simp [si, sa, slw, up2, a1, a2, a3, a4]
    · simp [si, sa, slw, up2, ho]
  · have c : 0 ≤ k ∧ k < 0 + 12 := by omega
    rcases (show f = 1 ∨ f = 2 ∨ f = 3 ∨ f = 4 by omega) with rfl | rfl | rfl | rfl <;> simp [si, sa, slw, up2, hne, va_cpy, ix12, h3]
  · by_cases ho : o = d
    · subst ho
      have a1 : f ≠ 11 := by omega
      have a2 : f ≠ 12 := by omega
      simp [si, sa, slw, up2, a1, a2]
    · simp [si, sa, slw, up2, ho]
  · simp [si, sa, slw, up2, hne]
  · simp [si, sa, slw, up2, hne]
theorem thinkG_C {d e : Nat} {τ τT : CS} {S : SP} (h12 : S.1 ≤ 12) (h : CStr τ e S) (k1 : ∀ f, 5 ≤ f → f ≤ 10 → τT.1 d f = τ.1 e f) (k2 : ∀ f k, 1 ≤ f → f ≤ 4 → k < 12 → τT.2.1 d f k = τ.2.1 e f k) : CStr τT d S := by
  obtain ⟨a1, a2, a3, a4, a5, a6, a7⟩ := h
  refine ⟨(k1 5 (by omega) (by omega)).trans a1, fun k hk => ?_, ?_, (k1 7 (by omega) (by omega)).trans a4, (k1 8 (by omega) (by omega)).trans a5, (k1 9 (by omega) (by omega)).trans a6, (k1 10 (by omega) (by omega)).trans a7⟩
  · rw [k2 1 k (by omega) (by omega) (by omega), k2 2 k (by omega) (by omega) (by omega), k2 3 k (by omega) (by omega) (by omega), k2 4 k (by omega) (by omega) (by omega)]
    exact a2 k hk
  · rw [k1 6 (by omega) (by omega)]; exact a3
/-- only street 1, and stacks, differ -/
def t1 (τ τ' : CS) : Prop := (∀ o f, o ≠ 1 → τ'.1 o f = τ.1 o f) ∧ (∀ o f, o ≠ 1 → ¬ (8 ≤ o ∧ f = 2) → τ'.2.1 o f = τ.2.1 o f) ∧ (∀ o f, o ≠ 1 → τ'.2.2 o f = τ.2.2 o f) ∧ lawsok τ' = true
theorem t1.rf {τ : CS} (h : lawsok τ = true) : t1 τ τ := ⟨fun _ _ _ => rfl, fun _ _ _ _ => rfl, fun _ _ _ => rfl, h⟩
theorem t1.fr {τ τ1 τ2 : CS} (h : t1 τ τ1) (q : fr 1 τ1 τ2) : t1 τ τ2 := ⟨fun o f a => (q.2.1 o f (by omega)).trans (h.1 o f a), fun o f a b => (q.2.2 o f (by omega) b).trans (h.2.1 o f a b), fun o f a => by rw [q.1]; exact h.2.2.1 o f a, lawsok_eq q.1 h.2.2.2⟩
theorem t1.si {τ τ1 : CS} {f : Nat} {v : Int32} (h : t1 τ τ1) : t1 τ (si τ1 1 f v) := ⟨fun o g a => (si_o _ _ a).trans (h.1 o g a), h.2.1, h.2.2.1, lawsok_eq (τ := τ1) rfl h.2.2.2⟩
theorem t1.sa {τ τ1 : CS} {f : Nat} {v : Nat → Int32} (h : t1 τ τ1) : t1 τ (sa τ1 1 f v) := ⟨h.1, fun o g a b => (sa_o _ _ a).trans (h.2.1 o g a b), h.2.2.1, lawsok_eq (τ := τ1) rfl h.2.2.2⟩
theorem t1_l {τ τ' : CS} (h : t1 τ τ') : lsame τ τ' := ⟨fun j => ⟨h.1 _ _ (by omega), h.2.1 _ _ (by omega) (by omega), h.2.2.1 _ _ (by omega)⟩, h.2.2.1 _ _ (by omega)⟩
theorem t1_d {τ τ' : CS} {d : Nat} (hd : d ≠ 1) (hd8 : d < 8) (h : t1 τ τ') : dsame d τ τ' := ⟨fun f => h.1 _ _ hd, fun f => h.2.1 _ _ hd (by omega), fun f => h.2.2.1 _ _ hd⟩
theorem think1 {τ0 τ : CS} {S : SP} {F0 F1 : LF} (h12 : S.1 ≤ 12) (t : t1 τ0 τ) (w : CStr τ0 0 S) (hL : CL τ0 0 F0 F1) : ∃ τT, N_S_thinkOf 1 0 τ = some (0, τT) ∧ t1 τ0 τT ∧ CW τT 1 S τT ∧ CL τT 1 F0 F1 := by
  obtain ⟨τT, e, k1, k2, k3, k4, k5, k6, k7⟩ := thinkG (d := 1) (e := 0) (by decide) τ
  have w' : CStr τ 0 S := w.same (t1_d (by decide) (by decide) t)
  have hl : lsame τ τT := ⟨fun j => ⟨k1 _ _ (by omega), k3 _ _ (by omega), k5 _ _ (by omega)⟩, k5 _ _ (by omega)⟩
  have hl2 := (t1_l t).tr hl
  refine ⟨τT, e, ⟨fun o f a => (k1 o f (by omega)).trans (t.1 o f a), fun o f a b => (k3 o f (by omega)).trans (t.2.1 o f a b), fun o f a => (k5 o f (by omega)).trans (t.2.2.1 o f a), ?_⟩, ⟨thinkG_C h12 w' k2 k4, fr.rf 1 τT⟩, ⟨by decide, ?_, ?_⟩⟩
  · have hok := lawsok_iff.mp t.2.2.2
    refine lawsok_iff.mpr (fun d hd => ?_)
    rw [k5 7 0 (by omega)]
    by_cases c : d = 1
    · subst c
      rw [k6, k7]; exact hok 0 (by omega)
    · rw [k5 d 11 (by omega), k5 d 12 (by omega)]; exact hok d hd
  · rw [k6, t.2.2.1 0 11 (by decide)]; exact hL.2.1.same hl2
  · rw [k7, t.2.2.1 0 12 (by decide)]; exact hL.2.2.same hl2
def r2 (σ0 σ : RS) : Prop := (∀ f, ¬ (7 ≤ f ∧ f ≤ 14) → σ.1 f = σ0.1 f) ∧ ∀ f, f ≠ 0 → f ≠ 2 → σ.2 f = σ0.2 f
def rT (σ0 σ : RS) : Prop := r2 σ0 σ ∧ ∀ i, i < 240 → σ.2 2 i = σ0.2 0 i
def rB (σ0 σ : RS) : Prop := rT σ0 σ ∧ ∀ i, i < 240 → σ.2 0 i = σ0.2 0 i
theorem rT.frr {σ0 σ σ' : RS} (h : rT σ0 σ) (q : frr σ σ') : rT σ0 σ' := ⟨⟨fun f a => (q.1 f a).trans (h.1.1 f a), fun f a b => (q.2.1 f a).trans (h.1.2 f a b)⟩, fun i hi => by rw [q.2.1 2 (by decide)]; exact h.2 i hi⟩
theorem rT.ra0 {σ0 σ : RS} {v : Nat → Int32} (h : rT σ0 σ) : rT σ0 (ra σ 0 v) := ⟨⟨h.1.1, fun f a b => (ra_ne _ _ a).trans (h.1.2 f a b)⟩, fun i hi => by rw [ra_ne _ _ (by decide : 2 ≠ 0)]; exact h.2 i hi⟩
theorem save_e (σ0 : RS) : ∃ σS, M_moveAll 0 2 σ0 = some (0, σS) ∧ rB σ0 σS := by
  refine ⟨_, rfl, ⟨⟨fun _ _ => rfl, fun f a b => ra_ne _ _ b⟩, fun i hi => ?_⟩, fun i hi => ?_⟩
  · rw [ra_eq, mcp_lt hi]
  · rw [ra_ne _ _ (by decide)]
theorem back_e {σ0 σ : RS} (h : rT σ0 σ) : ∃ σB, M_moveAll 2 0 σ = some (0, σB) ∧ rB σ0 σB := by
  refine ⟨_, rfl, h.ra0, fun i hi => ?_⟩
  rw [ra_eq, mcp_lt hi]; exact h.2 i hi
theorem rB_W {σ0 σ : RS} {S : SP} (h12 : S.1 ≤ 12) (h : rB σ0 σ) (w : RRow (σ0.2 0) S) : RW σ S σ := ⟨w.cg h12 (fun i hi _ => h.2 i (by omega)), frr.rf σ⟩
theorem rB_L {σ0 σ : RS} {F0 F1 : LF} (h : rB σ0 σ) (hL : RLw σ0 F0 F1) : RLw σ F0 F1 := ⟨hL.1.cg (h.2 _ (by omega)) (fun i hi => h.2 _ (by omega)), hL.2.cg (h.2 _ (by omega)) (fun i hi => h.2 _ (by omega))⟩
theorem rB_15 {σ0 σ : RS} (h : rB σ0 σ) (h15 : σ0.1 15 = 0) : σ.1 15 = 0 := (h.1.1.1 15 (by omega)).trans h15
theorem Inv_th {k : Nat} {τ τ' : CS} {σ σ' : RS} (h : Inv k τ σ) (t : t1 τ τ') (r : r2 σ σ') (e : ∀ i, i < 240 → σ'.2 0 i = σ.2 0 i) : Inv (k + 1) τ' σ' := by
  refine Inv_of h ⟨fun o f a b => t.1 o f (by omega), fun o f a b c => t.2.1 o f (by omega) c, fun o f a => t.2.2.1 o f (by omega)⟩ ⟨fun f q => r.1 f q, fun f a b c d => r.2 f a b⟩ t.2.2.2 ?_
  exact Kept.rcg e (h.1.same (t1_d (by decide) (by decide) t) (t1_l t))
theorem Inv_tB {k : Nat} {τ τ' : CS} {σ σ' : RS} (h : Inv k τ σ) (t : t1 τ τ') (r : rB σ σ') : Inv (k + 1) τ' σ' := Inv_th h t r.1.1 r.2
theorem Inv_of0 {k : Nat} {τ τ' : CS} {σ σ' : RS} (h : Inv k τ σ) (hc : csame τ τ') (hr : rsame σ σ') (hl : lawsok τ' = true) (hK : Kept (σ'.2 0) τ' 0) : Inv k τ' σ' := by
  obtain ⟨-, ⟨i, hi, b1, b2, b3, b4⟩, h3, h4, h5, h6, h7, n, hn, hn2⟩ := h
  refine ⟨hK, ⟨i, by omega, ?_, ?_, ?_, fun q => ?_⟩, ?_, ?_, ?_, ?_, hl, n, by omega, ?_⟩
  · rw [hc.1 _ _ (by omega) (by omega)]; exact b1
  · rw [hr.1 _ (by omega)]; exact b2
  · rw [hr.1 _ (by omega)]; exact b3
  · rw [hr.2 1 (by omega) (by omega) (by omega) (by omega)]
    exact (b4 q).same (csame_2 hc) (csame_l hc)
  · unfold Shts at h3 ⊢
    have e1 : ∀ f, f ≠ 2 → τ'.2.1 5 f = τ.2.1 5 f := fun f hf => hc.2.1 _ _ (by omega) (by omega) (by omega)
    have e2 : ∀ f, τ'.2.1 6 f = τ.2.1 6 f := fun f => hc.2.1 _ _ (by omega) (by omega) (by omega)
    rw [e1 6 (by omega), e1 7 (by omega), hr.2 16 (by omega) (by omega) (by omega) (by omega), hr.2 17 (by omega) (by omega) (by omega) (by omega), hr.2 18 (by omega) (by omega) (by omega) (by omega)]
    refine ⟨h3.1, fun s hs i hi => ?_⟩
    rw [e2]; exact h3.2 s hs i hi
  · unfold Trc at h4 ⊢
    rw [hc.1 _ _ (by omega) (by omega), hr.1 21 (by omega), hr.2 20 (by omega) (by omega) (by omega) (by omega), hc.2.1 4 0 (by omega) (by omega) (by omega)]
    exact h4
  · intro j hj
    rw [hr.2 6 (by omega) (by omega) (by omega) (by omega), hc.2.1 5 8 (by omega) (by omega) (by omega)]
    exact h5 j hj
  · rw [hr.1 _ (by omega)]; exact h6
  · rw [hc.2.2 _ _ (by omega)]; exact hn2
theorem Inv_t0 {k : Nat} {τ τ' : CS} {σ σ' : RS} (h : Inv k τ σ) (t : t1 τ τ') (r : rB σ σ') : Inv k τ' σ' := by
  refine Inv_of0 h ⟨fun o f a b => t.1 o f (by omega), fun o f a b c => t.2.1 o f (by omega) c, fun o f a => t.2.2.1 o f (by omega)⟩ ⟨fun f q => r.1.1.1 f q, fun f a b c d => r.1.1.2 f a b⟩ t.2.2.2 ?_
  exact Kept.rcg r.2 (h.1.same (t1_d (by decide) (by decide) t) (t1_l t))
/-- an error behind thinking -/
theorem errT {e : Int32} {j k : Nat} {τ τ' : CS} {σ σ' : RS} (he : isE e j) (h : Inv k τ σ) (t : t1 τ τ') (r : rB σ σ') : AgP k (ob (N_T_fail e τ') fun v s => some (v, s)) (ob (M_errs e σ') fun v s => some (v, s)) := err2 he (Inv_t0 h t r)
theorem ag_paid (x : Int32) : Agree Inv (N_T_paid x) (M_paid x) := by
  intro k τ σ hk h
  show AgP k _ _
  unfold N_T_paid M_paid
  refine chk E1 h (fun c1 c2 => ?_)
  obtain ⟨n, -, hn2, rfl⟩ := in_lit 0 60 (by decide) (by decide) c1 c2
  obtain ⟨S, F0, F1, hS, w, r, hL, hR, hF0, hF1, h15⟩ := Inv_day h
  obtain ⟨τT, e1, t, wT, hLT⟩ := think1 hS.1 (t1.rf (Inv_l h)) w.1 hL
  obtain ⟨σS, e2, b⟩ := save_e σ
  obtain ⟨τ', e3, w', s'⟩ := passC (N := n) hLT hF0 hF1 (by omega) hS (by omega) wT
  obtain ⟨σ', e4, r'⟩ := passR (N := n) (rB_L b hR) hF0 hF1 (rB_15 b h15) (by omega) hS (by omega) (rB_W hS.1 b r.1)
  have t' := t.fr w'.2
  have b' := b.1.frr r'.2
  obtain ⟨σB, e5, bB⟩ := back_e b'
  have p1 : τ'.1 1 10 = (itD F0 F1 n S).2.2 3 := w'.1.2.2.2.2.2.2
  have p2 : τ'.1 0 10 = S.2.2 3 := (t'.1 0 10 (by decide)).trans w.1.2.2.2.2.2.2
  have p3 : σ'.2 0 9 = (itD F0 F1 n S).2.2 3 := r'.1.2.2.2.2.2
  have p4 : σ'.2 2 9 = S.2.2 3 := (b'.2 9 (by omega)).trans r.1.2.2.2.2.2
  rw [e1, e2, ob_s, ob_s, e3, e4, ob_s, ob_s, lt_e, e5, ob_s, p1, p2, p3, p4]
  exact ⟨_, _, _, rfl, rfl, Inv_tB h t' bB⟩
theorem ag_stay : Agree Inv (N_T_stay) (M_stay) := by
  intro k τ σ hk h
  show AgP k _ _
  obtain ⟨S, F0, F1, hS, w, r, hL, hR, hF0, hF1, h15⟩ := Inv_day h
  have h12 := hS.1
  have hp0 := plN_lt (S := S) (s := 0) h12
  have hp1 := plN_lt (S := S) (s := 1) h12
  have a0 : N_S_stayers 0 0 τ = some (nI (stN S 0 (plN S 1)), τ) := stayC (s := 0) hS w.1 (by decide)
  have a1 : N_S_stayers 0 1 τ = some (nI (stN S 1 (plN S 0)), τ) := stayC (s := 1) hS w.1 (by decide)
  have b0 : M_placesOn 0 σ = some (nI (plN S 0), σ) := placesR (s := 0) hS r.1 (by decide)
  have b1 : M_placesOn 1 σ = some (nI (plN S 1), σ) := placesR (s := 1) hS r.1 (by decide)
  have d0 : M_stayers 0 (nI (plN S 1)) σ = some (nI (stN S 0 (plN S 1)), σ) := stayR (s := 0) hS r.1 (by decide) (by omega)
  have d1 : M_stayers 1 (nI (plN S 0)) σ = some (nI (stN S 1 (plN S 0)), σ) := stayR (s := 1) hS r.1 (by decide) (by omega)
  unfold N_T_stay M_stay
  rw [a0, b1, ob_s, ob_s, a1, d0, ob_s, ob_s, b0, ob_s, d1, ob_s]
  exact ⟨_, _, _, rfl, rfl, Inv_mono _ _ _ h⟩
theorem ag_ofYard (x z : Int32) : Agree Inv (N_T_ofYard x z) (M_ofYard x z) := by
  intro k τ σ hk h
  show AgP k _ _
  unfold N_T_ofYard M_ofYard
  refine chkY E1 h (fun S0 y hy hx hS0 hr0 hc0 => ?_)
  subst hx
  obtain ⟨S, F0, F1, hS, w, r, hL, hR, hF0, hF1, h15⟩ := Inv_day h
  have hn : S0.1 = S.1 := RRow_n hr0 r.1 hS0.1 hS.1
  rw [hn] at hy
  have h12 := hS.1
  have b1 : inb (nI y) 12 = true := inb_nI (by omega) (by decide)
  have x1 : ix (nI y) = y := ix_nI (by omega)
  obtain ⟨c1, c2, c3, c4⟩ := w.1.2.1 y hy
  have i : ∀ f, f < 5 → M_its (nI y) (nI f) σ = some (S.2.1 f y, σ) := fun f hf => its_S h12 r.1 hy hf
  have I := Inv_mono _ _ _ h
  by_cases z0 : z = 0
  · subst z0
    rw [if_pos rfl, gd_t b1, x1, c1]
    unfold M_in
    rw [ob_s, if_neg (by decide), if_neg (by decide), show (0 : Int32) = nI 0 from rfl, i 0 (by decide), ob_s]
    exact ⟨_, _, _, rfl, rfl, I⟩
  rw [if_neg z0]
  by_cases z1 : z = 1
  · subst z1
    rw [if_pos rfl, gd_t b1, x1, c2]
    unfold M_in
    rw [ob_s, if_neg (by decide), if_neg (by decide), show (1 : Int32) = nI 1 from rfl, i 1 (by decide), ob_s]
    exact ⟨_, _, _, rfl, rfl, I⟩
  rw [if_neg z1]
  by_cases z2 : z = 2
  · subst z2
    rw [if_pos rfl, gd_t b1, x1, c3]
    unfold M_in
    rw [ob_s, if_neg (by decide), if_neg (by decide), show (2 : Int32) = nI 2 from rfl, i 2 (by decide), ob_s]
    exact ⟨_, _, _, rfl, rfl, I⟩
  rw [if_neg z2]
  by_cases z3 : z = 3
  · subst z3
    rw [if_pos rfl, carOf_e h12 w.1 hy, ob_s]
    unfold M_in
    rw [ob_s, if_neg (by decide), if_neg (by decide), show (3 : Int32) = nI 3 from rfl, i 3 (by decide), ob_s]
    exact ⟨_, _, _, rfl, rfl, I⟩
  rw [if_neg z3]
  by_cases z4 : z = 4
  · subst z4
    rw [if_pos rfl, gd_t b1, x1, c4]
    unfold M_in
    rw [ob_s, if_neg (by decide), if_neg (by decide), show (4 : Int32) = nI 4 from rfl, i 4 (by decide), ob_s]
    exact ⟨_, _, _, rfl, rfl, I⟩
  rw [if_neg z4]
  by_cases z5 : z = 5
  · subst z5
    obtain ⟨τ', e1, q1⟩ := fallsC (by decide) hS w.1 (CW_L hL w).1 hy
    obtain ⟨σ', e2, q2⟩ := fallsR hS r.1 hR.1 hy
    rw [if_pos rfl, e1, ob_s]
    unfold M_in
    rw [ob_s, if_neg (by decide), if_pos (by decide), if_pos rfl, e2, ob_s]
    exact ⟨_, _, _, rfl, rfl, Inv_q h q1 q2⟩
  rw [if_neg z5]
  by_cases z6 : z = 6
  · subst z6
    rw [if_pos rfl, takesC hS w.1 hy, ob_s]
    unfold M_in
    rw [ob_s, if_neg (by decide), if_pos (by decide), if_neg (by decide), takenR hS r.1 hy, ob_s]
    exact ⟨_, _, _, rfl, rfl, I⟩
  rw [if_neg z6]
  unfold M_in
  rw [ob_s]
  have e : (if z < 0 then (0 : Int32) else if 6 < z then 0 else 1) = 0 := by
    by_cases a : z < 0
    · rw [if_pos a]
    · rw [if_neg a]
      by_cases b : 6 < z
      · rw [if_pos b]
      · exfalso
        obtain ⟨j, -, hj, rfl⟩ := in_lit 0 6 (by decide) (by decide) a b
        rcases (show j = 0 ∨ j = 1 ∨ j = 2 ∨ j = 3 ∨ j = 4 ∨ j = 5 ∨ j = 6 by omega) with rfl | rfl | rfl | rfl | rfl | rfl | rfl
        · exact z0 rfl
        · exact z1 rfl
        · exact z2 rfl
        · exact z3 rfl
        · exact z4 rfl
        · exact z5 rfl
        · exact z6 rfl
  rw [if_pos e]
  exact err2 E1 h
/-! side -/
theorem ag_side (x : Int32) : Agree Inv (N_T_side x) (M_side x) := by
  intro k τ σ hk h
  show AgP k _ _
  unfold N_T_side M_side
  refine chk E1 h (fun c1 c2 => ?_)
  obtain ⟨u, -, hu, rfl⟩ := in_lit 0 1 (by decide) (by decide) c1 c2
  obtain ⟨S, F0, F1, hS, w, r, hL, hR, hF0, hF1, h15⟩ := Inv_day h
  have h12 := hS.1
  have ht := hS.2.2.1
  have hp := hS.2.2.2.2.2
  have hf' : ∀ j, j < S.1 → rng (S.2.1 2 j) 0 999 := fun j hj => (hS.2.1 j hj).2.2.1
  have one : ∀ (s : Nat) (τ1 : CS) (σ1 : RS), s < 2 → t1 τ τ1 → rB σ σ1 ∨ σ1 = σ → ∃ (v : Int32) (τ2 : CS) (σ2 : RS), N_T_dirtOnceSwept (nI s) τ1 = some (v, τ2) ∧ M_dirtSwept (nI s) σ1 = some (v, σ2) ∧ t1 τ τ2 ∧ rB σ σ2 := by
    intro s τ1 σ1 hs t b
    obtain ⟨τT, e1, t2, wT, hLT⟩ := think1 h12 t w.1 hL
    obtain ⟨σS, e2, b2⟩ := save_e σ1
    have b3 : rB σ σS := by
      rcases b with b | b
      · refine ⟨⟨⟨fun f q => (b2.1.1.1 f q).trans (b.1.1.1 f q), fun f p q => (b2.1.1.2 f p q).trans (b.1.1.2 f p q)⟩, fun i hi => (b2.1.2 i hi).trans (b.2 i hi)⟩, fun i hi => (b2.2 i hi).trans (b.2 i hi)⟩
      · rw [← b]; exact b2
    have wS0 := rB_W h12 b3 r.1
    have wT' : CW τT 1 (wS S (S.2.1 2) (S.2.2 3) (S.2.2 0)) τT := by rw [wS_0]; exact wT
    have wS' : RW σS (wS S (S.2.1 2) (S.2.2 3) (S.2.2 0)) σS := by rw [wS_0]; exact wS0
    have hpl := plN_lt (S := S) (s := 1 - s) h12
    obtain ⟨σ3, r3, er3, e3, w3, f3, p3⟩ := sdR (l := plN S (1 - s)) hS ht hs (by omega) (S.2.1 2, S.2.2 3) σS hf' hp wS'
    have ep : M_placesOn ((1 : Int32) - nI s) σS = some (nI (plN S (1 - s)), σS) := by
      have e : (1 : Int32) - nI s = nI (1 - s) := pk_sub (a := 1) (by omega)
      rw [e]
      exact placesR hS wS0.1 (by omega)
    have b4 : rT σ σ3 := b3.1.frr w3.2
    obtain ⟨σB, e5, bB⟩ := back_e b4
    obtain ⟨τ3, q3, eq3, e6, w6, f6, p6⟩ := swpC (a := decide (s = 0)) (b := decide (s = 1)) (lo := 0) (hi := S.1) hS ht rfl (by omega) (Nat.le_refl _) (S.2.1 2, S.2.2 3) τT hf' hp wT'
    have eqr : q3 = r3 := by
      rw [eq3, er3]
      rcases (show s = 0 ∨ s = 1 by omega) with rfl | rfl <;> rfl
    have esg : (1 : Int32) <<< (nI s &&& 31) = nI (sgN (decide (s = 0)) (decide (s = 1))) := by
      rcases (show s = 0 ∨ s = 1 by omega) with rfl | rfl <;> decide
    have hn1 : τT.1 1 5 = nI S.1 := wT.1.1
    have e6' : N_S_sweep 1 0 (nI S.1) (nI (sgN (decide (s = 0)) (decide (s = 1)))) τT = some (0, τ3) := e6
    rw [eqr] at w6
    unfold N_T_dirtOnceSwept M_dirtSwept
    rw [e1, e2, ob_s, ob_s, hn1, esg, e6', ep, ob_s, ob_s, e3, ob_s, sumC (S := wS S r3.1 r3.2 (S.2.2 0)) h12 w6.1, sumR (S := wS S r3.1 r3.2 (S.2.2 0)) h12 w3.1, ob_s, ob_s, e5, ob_s]
    exact ⟨_, _, _, rfl, rfl, t2.fr w6.2, bB⟩
  obtain ⟨v0, τ1, σ1, e1, e2, t1', b1⟩ := one 0 τ σ (by decide) (t1.rf (Inv_l h)) (Or.inr rfl)
  obtain ⟨v1, τ2, σ2, e3, e4, t2', b2⟩ := one 1 τ1 σ1 (by decide) t1' (Or.inl b1)
  have e1' : N_T_dirtOnceSwept 0 τ = some (v0, τ1) := e1
  have e2' : M_dirtSwept 0 σ = some (v0, σ1) := e2
  have e3' : N_T_dirtOnceSwept 1 τ1 = some (v1, τ2) := e3
  have e4' : M_dirtSwept 1 σ1 = some (v1, σ2) := e4
  rw [e1', e2', ob_s, ob_s, e3', e4', ob_s, ob_s]
  rcases (show u = 0 ∨ u = 1 by omega) with rfl | rfl
  · rw [if_neg (by decide : ¬ nI 0 = (1 : Int32)), if_pos (by decide : nI 0 = (0 : Int32))]
    exact ⟨_, _, _, rfl, rfl, Inv_tB h t2' b2⟩
  · rw [if_pos (by decide : nI 1 = (1 : Int32)), if_neg (by decide : ¬ nI 1 = (0 : Int32))]
    refine ⟨_, _, _, rfl, ?_, Inv_tB h t2' b2⟩
    by_cases c : v1 < v0
    · rw [if_pos c, if_neg (show ¬ v0 ≤ v1 by rw [Int32.lt_iff_toInt_lt] at c; rw [Int32.le_iff_toInt_le]; omega)]
    · rw [if_neg c, if_pos (show v0 ≤ v1 by rw [Int32.lt_iff_toInt_lt] at c; rw [Int32.le_iff_toInt_le]; omega)]
