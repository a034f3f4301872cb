/-! move, dirts, judge -/
theorem mvR2 {o b c : Nat} (ho : o < 4) (hb : b + c ≤ 40) : ∀ (m f i : Nat) (σ : RS), i + m = c → m < f → ∃ g : Nat → Int32, M_move_b156 f (nI o) (nI b) (nI c) (nI i) σ = some (nI c, ra σ 18 g) ∧ ∀ j, g j = if 40 * o + b + i ≤ j ∧ j < 40 * o + b + c then σ.2 19 (j - (40 * o + b)) else σ.2 18 j := by
  intro m
  induction m with
  | zero =>
    intro f i σ hm hf
    obtain ⟨f, rfl⟩ : ∃ q, f = q + 1 := ⟨f - 1, by omega⟩
    refine ⟨σ.2 18, ?_, fun j => by rw [if_neg (by omega)]⟩
    rw [M_move_b156, if_pos (nI_le (by omega) (by omega)), ra_id]
  | succ m ih =>
    intro f i σ hm hf
    obtain ⟨f, rfl⟩ : ∃ q, f = q + 1 := ⟨f - 1, by omega⟩
    have c1 : ¬ nI c ≤ nI i := nI_ge (by omega) (by omega)
    have e1 : ((40 : Int32) * nI o + nI b) + nI i = nI (40 * o + b + i) := by rw [show (40 : Int32) = nI 40 from rfl, pk_mul, nI_add, nI_add]
    have b1 : inb (nI (40 * o + b + i)) 160 = true := inb_nI (by omega) (by decide)
    have x1 : ix (nI (40 * o + b + i)) = 40 * o + b + i := ix_nI (by omega)
    have b2 : inb (nI i) 40 = true := inb_nI (by omega) (by decide)
    have x2 : ix (nI i) = i := ix_nI (by omega)
    obtain ⟨g, e, hg⟩ := ih f (i + 1) (ra σ 18 (upd (σ.2 18) (40 * o + b + i) (σ.2 19 i))) (by omega) (by omega)
    refine ⟨g, ?_, fun j => ?_⟩
    · rw [M_move_b156, if_neg c1, gd_t b2, e1, gd_t b1, lt_e, x1, x2, nI_1, e, ra_ra]
    · rw [hg j, ra_eq, ra_ne _ _ (by decide)]
      by_cases q : j = 40 * o + b + i
      · subst q
        rw [if_neg (by omega), if_pos (by omega), upd_eq, show 40 * o + b + i - (40 * o + b) = i by omega]
      · rw [upd_ne _ _ q]
        by_cases q2 : 40 * o + b + (i + 1) ≤ j ∧ j < 40 * o + b + c
        · rw [if_pos q2, if_pos (by omega)]
        · rw [if_neg q2, if_neg (by omega)]
theorem mvR1 {s a o b c : Nat} (hs : s < 4) (ha : a + c ≤ 40) : ∀ (m f i : Nat) (σ : RS), i + m = c → m < f → ∃ g : Nat → Int32, M_move_b119 f (nI s) (nI a) (nI o) (nI b) (nI c) (nI i) σ = M_move_b156 FU (nI o) (nI b) (nI c) 0 (ra σ 19 g) ∧ ∀ j, g j = if i ≤ j ∧ j < c then σ.2 18 (40 * s + a + j) else σ.2 19 j := by
  intro m
  induction m with
  | zero =>
    intro f i σ hm hf
    obtain ⟨f, rfl⟩ : ∃ q, f = q + 1 := ⟨f - 1, by omega⟩
    refine ⟨σ.2 19, ?_, fun j => by rw [if_neg (by omega)]⟩
    rw [M_move_b119, if_pos (nI_le (by omega) (by omega)), ra_id]
  | succ m ih =>
    intro f i σ hm hf
    obtain ⟨f, rfl⟩ : ∃ q, f = q + 1 := ⟨f - 1, by omega⟩
    have c1 : ¬ nI c ≤ nI i := nI_ge (by omega) (by omega)
    have e1 : ((40 : Int32) * nI s + nI a) + nI i = nI (40 * s + a + i) := by rw [show (40 : Int32) = nI 40 from rfl, pk_mul, nI_add, nI_add]
    have b1 : inb (nI (40 * s + a + i)) 160 = true := inb_nI (by omega) (by decide)
    have x1 : ix (nI (40 * s + a + i)) = 40 * s + a + i := ix_nI (by omega)
    have b2 : inb (nI i) 40 = true := inb_nI (by omega) (by decide)
    have x2 : ix (nI i) = i := ix_nI (by omega)
    obtain ⟨g, e, hg⟩ := ih f (i + 1) (ra σ 19 (upd (σ.2 19) i (σ.2 18 (40 * s + a + i)))) (by omega) (by omega)
    refine ⟨g, ?_, fun j => ?_⟩
    · rw [M_move_b119, if_neg c1, e1, gd_t b1, gd_t b2, lt_e, x1, x2, nI_1, e, ra_ra]
    · rw [hg j, ra_eq, ra_ne _ _ (by decide)]
      by_cases q : j = i
      · subst q
        rw [if_neg (by omega), if_pos (by omega), upd_eq]
      · rw [upd_ne _ _ q]
        by_cases q2 : i + 1 ≤ j ∧ j < c
        · rw [if_pos q2, if_pos (by omega)]
        · rw [if_neg q2, if_neg (by omega)]
theorem cpok_n {a b c : Nat} (ha : a + c ≤ 40) (hb : b + c ≤ 40) : cpok (nI a) (nI b) (nI c) 40 40 = true := by
  have h1 : (nI a).toNatClampNeg = a := nI_clamp (by omega)
  have h2 : (nI b).toNatClampNeg = b := nI_clamp (by omega)
  have h3 : (nI c).toNatClampNeg = c := nI_clamp (by omega)
  have k1 : ¬ nI a < 0 := nI_pos (by omega)
  have k2 : ¬ nI b < 0 := nI_pos (by omega)
  have k3 : ¬ nI c < 0 := nI_pos (by omega)
  unfold cpok
  simp only [h1, h2, h3, k1, k2, k3, decide_false, Bool.not_false, Bool.true_and, ha, hb, decide_true]
/-- n numbers stand from i on -/
theorem stand_e {q : Nat} {i n : Int32} (hq : q ≤ 40) (hn : ¬ n < 0) (hi : ¬ i < 0) : (nI q - i < n ↔ nI q - n < i) ∧ (¬ nI q - i < n → ∃ a c : Nat, i = nI a ∧ n = nI c ∧ a + c ≤ q) := by
  obtain ⟨a, ha, rfl⟩ := nI_of hi
  obtain ⟨c, hc, rfl⟩ := nI_of hn
  have t1 : (nI q - nI a).toInt = (q : Int) - a := by
    rw [Int32.toInt_sub, nI_toInt (by omega), nI_toInt ha]
    exact Int.bmod_eq_of_le (by omega) (by omega)
  have t2 : (nI q - nI c).toInt = (q : Int) - c := by
    rw [Int32.toInt_sub, nI_toInt (by omega), nI_toInt hc]
    exact Int.bmod_eq_of_le (by omega) (by omega)
  rw [Int32.lt_iff_toInt_lt, Int32.lt_iff_toInt_lt, t1, t2, nI_toInt ha, nI_toInt hc]
  exact ⟨by omega, fun z => ⟨a, c, rfl, rfl, by omega⟩⟩
theorem ag_move (x y z u v : Int32) : Agree Inv (N_T_move x y z u v) (M_move x y z u v) := by
  intro k τ σ hk h
  show AgP k _ _
  unfold N_T_move M_move
  refine chkS E1 h (fun s hs hx => chkS E1 h (fun o ho hz => ?_))
  subst hx
  subst hz
  obtain ⟨s1, s2⟩ := Inv_s h
  obtain ⟨-, e16, n, hn, e7, e17, -⟩ := s1 s hs
  obtain ⟨-, f16, n', hn', f7, f17, -⟩ := s1 o ho
  have b1 : inb (nI s) 4 = true := inb_nI hs (by decide)
  have x1 : ix (nI s) = s := ix_nI (by omega)
  have b2 : inb (nI o) 4 = true := inb_nI ho (by decide)
  have x2 : ix (nI o) = o := ix_nI (by omega)
  have hF' : FU = 1000 := rfl
  unfold N_T_stand
  simp only [gd_t b1, gd_t b2, x1, x2, e16, f16, e17, f17]
  by_cases c0 : τ.2.1 5 6 s = 0
  · rw [if_pos c0, if_pos c0]; exact err2 E2 h
  rw [if_neg c0, if_neg c0]
  by_cases c1 : τ.2.1 5 6 o = 0
  · rw [if_pos c1, if_pos c1]; exact err2 E2 h
  rw [if_neg c1, if_neg c1]
  by_cases c2 : τ.2.1 5 6 s = τ.2.1 5 6 o
  · rw [if_pos c2, if_pos c2]
    by_cases d1 : v < 0
    · rw [if_pos d1, if_pos d1, ob_s, if_pos rfl]; exact err2 E1 h
    rw [if_neg d1, if_neg d1]
    by_cases d2 : y < 0
    · rw [if_pos d2, if_pos d2, ob_s, if_pos rfl]; exact err2 E1 h
    rw [if_neg d2, if_neg d2, ob_s, e7]
    obtain ⟨g1, g2⟩ := stand_e hn d1 d2
    by_cases d3 : nI n - y < v
    · rw [if_pos d3, if_pos rfl]
      by_cases d4 : u < 0
      · rw [if_pos d4]; exact err2 E1 h
      · rw [if_neg d4, if_pos (g1.mp d3)]; exact err2 E1 h
    rw [if_neg d3, if_neg i10, if_neg d1]
    by_cases d4 : u < 0
    · rw [if_pos d4, if_pos d4, ob_s, if_pos rfl]; exact err2 E1 h
    rw [if_neg d4, if_neg d4, ob_s, f7, if_neg (fun q => d3 (g1.mpr q))]
    obtain ⟨g3, g4⟩ := stand_e hn' d1 d4
    by_cases d5 : nI n' - u < v
    · rw [if_pos d5, if_pos rfl, if_neg (i32_lt_nle (g3.mp d5))]; exact err2 E1 h
    rw [if_neg d5, if_neg i10, if_pos (i32_nlt (fun q => d5 (g3.mpr q)))]
    obtain ⟨a, c, rfl, rfl, hac⟩ := g2 d3
    obtain ⟨b, c', rfl, ec, hbc⟩ := g4 d5
    have hc' : c = c' := (nI_eq (by omega) (by omega)).mp ec
    subst hc'
    have x3 : ix (nI a) = a := ix_nI (by omega)
    have x4 : ix (nI b) = b := ix_nI (by omega)
    have x5 : ix (nI c) = c := ix_nI (by omega)
    rw [gd_t (cpok_n (by omega) (by omega)), lt_e, x3, x4, x5]
    obtain ⟨p, e1, hp⟩ := mvR1 (s := s) (a := a) (o := o) (b := b) (c := c) hs (by omega) c FU 0 σ (by omega) (by omega)
    obtain ⟨p2, e2, hp2⟩ := mvR2 (o := o) (b := b) (c := c) ho (by omega) c FU 0 (ra σ 19 p) (by omega) (by omega)
    have e1' : M_move_b119 FU (nI s) (nI a) (nI o) (nI b) (nI c) 0 σ = _ := e1
    have e2' : M_move_b156 FU (nI o) (nI b) (nI c) 0 (ra σ 19 p) = _ := e2
    rw [e1', e2']
    refine ⟨_, _, _, rfl, rfl, Inv_mono _ _ _ (Inv_sh h rfl (fun o' f a c => sa_o _ _ c) rfl rfl (fun f a b c d => by rw [ra_ne _ _ c, ra_ne _ _ d]) ⟨fun w hw => ?_, fun w hw j hj => ?_⟩)⟩
    · rw [sa_o _ _ (by decide), sa_o _ _ (by decide), ra_ne _ _ (by decide), ra_ne _ _ (by decide), ra_ne _ _ (by decide), ra_ne _ _ (by decide)]
      exact s1 w hw
    · rw [ra_eq, hp2, ra_eq, ra_ne _ _ (by decide)]
      by_cases q : w = o
      · subst q
        rw [sa_eq]
        by_cases q2 : b ≤ j ∧ j < b + c
        · rw [pk_cpy_in q2.1 q2.2, if_pos (by omega), hp, if_pos (by omega), ← s2 s hs _ (by omega)]
          exact congrArg (σ.2 18) (by omega)
        · rw [pk_cpy_out (by omega), if_neg (by omega)]
          exact s2 w hw j hj
      · rw [sa_ne _ _ q, if_neg (by omega)]
        exact s2 w hw j hj
  · rw [if_neg c2, if_neg c2]
    exact err2 E5 h
theorem i32_min {a b : Nat} (ha : a < 2 ^ 31) (hb : b < 2 ^ 31) : (if nI a < nI b then nI a else nI b) = nI (if a < b then a else b) := by
  by_cases c : a < b
  · rw [if_pos c, if_pos (nI_lt c hb)]
  · rw [if_neg c, if_neg (nI_nlt (by omega) ha)]
theorem ag_dirts (x : Int32) : Agree Inv (N_T_dirts x) (M_dirts x) := by
  intro k τ σ hk h
  show AgP k _ _
  unfold N_T_dirts M_dirts
  refine chkS E1 h (fun s hs hx => ?_)
  subst hx
  obtain ⟨s1, s2⟩ := Inv_s h
  obtain ⟨-, e16, n, hn, e7, e17, -⟩ := s1 s hs
  obtain ⟨S, hS12, hr, hc, hok, n1, n2⟩ := Inv_n h
  have b1 : inb (nI s) 4 = true := inb_nI hs (by decide)
  have x1 : ix (nI s) = s := ix_nI (by omega)
  have hF' : FU = 1000 := rfl
  simp only [gd_t b1, x1, e16, e7, n2, i32_min (show S.1 < 2 ^ 31 by omega) (show n < 2 ^ 31 by omega), lt_e]
  by_cases c0 : τ.2.1 5 6 s = 0
  · rw [if_pos c0, if_pos c0]; exact err2 E2 h
  rw [if_neg c0, if_neg c0]
  obtain ⟨E, hE⟩ : ∃ E, E = if S.1 < n then S.1 else n := ⟨_, rfl⟩
  rw [← hE]
  have hE1 : E ≤ S.1 ∧ E ≤ n ∧ (E = S.1 ∨ E = n) := by
    by_cases q : S.1 < n
    · rw [if_pos q] at hE; omega
    · rw [if_neg q] at hE; omega
  have loop : ∀ (m f1 f2 i : Nat) (τ1 : CS) (σ1 : RS), i + m = E → m < f1 → m < f2 → Inv k τ1 σ1 → (∀ j, τ1.2.1 6 s j = τ.2.1 6 s j) → σ1.2 17 s = nI n → (∀ j, j < 40 → σ1.2 18 (40 * s + j) = τ.2.1 6 s j) → σ1.2 0 2 = nI S.1 → AgP k (N_T_dirts_b49 f1 (nI s) (nI E) (nI i) τ1) (M_dirts_b32 f2 (nI s) (nI i) σ1) := by
    intro m
    induction m with
    | zero =>
      intro f1 f2 i τ1 σ1 hm h1 h2 hI g1 g2 g3 g4
      obtain ⟨f1, rfl⟩ : ∃ q, f1 = q + 1 := ⟨f1 - 1, by omega⟩
      obtain ⟨f2, rfl⟩ : ∃ q, f2 = q + 1 := ⟨f2 - 1, by omega⟩
      have hi : i = E := by omega
      subst hi
      rw [N_T_dirts_b49, M_dirts_b32, if_pos (nI_le (Nat.le_refl _) (by omega)), gd_t b1, x1, g2]
      by_cases q : nI n ≤ nI i
      · rw [if_pos q]
        exact ⟨_, _, _, rfl, rfl, Inv_mono _ _ _ hI⟩
      · have hiS : i = S.1 := by
          rcases hE1.2.2 with z | z
          · exact z
          · exact absurd (nI_le (by omega) (by omega)) q
        have ey : (if nI i < 0 then (0 : Int32) else if nI S.1 - 1 < nI i then 0 else 1) = 0 := by
          rw [if_neg (nI_pos (by omega)), if_pos]
          rw [Int32.lt_iff_toInt_lt, nI_toInt (by omega)]
          have e : (nI S.1 - nI 1).toInt = (S.1 : Int) - 1 := pk_sub_toInt (by omega) (by omega)
          have e' : (nI S.1 - 1).toInt = (S.1 : Int) - 1 := e
          rw [e']; omega
        rw [if_neg q, isYard_e, ob_s, g4, if_pos ey]
        exact ⟨_, _, _, rfl, rfl, Inv_mono _ _ _ hI⟩
    | succ m ih =>
      intro f1 f2 i τ1 σ1 hm h1 h2 hI g1 g2 g3 g4
      obtain ⟨f1, rfl⟩ : ∃ q, f1 = q + 1 := ⟨f1 - 1, by omega⟩
      obtain ⟨f2, rfl⟩ : ∃ q, f2 = q + 1 := ⟨f2 - 1, by omega⟩
      have b2 : inb (nI i) 40 = true := inb_nI (by omega) (by decide)
      have b3 : inb (nI i) 12 = true := inb_nI (by omega) (by decide)
      have x2 : ix (nI i) = i := ix_nI (by omega)
      have e40 : (40 : Int32) * nI s + nI i = nI (40 * s + i) := by rw [show (40 : Int32) = nI 40 from rfl, pk_mul, nI_add]
      have b4 : inb (nI (40 * s + i)) 160 = true := inb_nI (by omega) (by decide)
      have x4 : ix (nI (40 * s + i)) = 40 * s + i := ix_nI (by omega)
      have ey : ¬ (if nI i < 0 then (0 : Int32) else if nI S.1 - 1 < nI i then 0 else 1) = 0 := by
        rw [if_neg (nI_pos (by omega)), if_neg]
        · decide
        · rw [Int32.lt_iff_toInt_lt, nI_toInt (by omega)]
          have e : (nI S.1 - nI 1).toInt = (S.1 : Int) - 1 := pk_sub_toInt (by omega) (by omega)
          have e' : (nI S.1 - 1).toInt = (S.1 : Int) - 1 := e
          rw [e']; omega
      rw [N_T_dirts_b49, M_dirts_b32, if_neg (nI_ge (by omega) (by omega)), gd_t b1, gd_t b2, lt_e, x1, x2, g1, gd_t b1, g2, if_neg (nI_ge (by omega) (by omega)), isYard_e, ob_s, g4, if_neg ey, e40, gd_t b4, x4, g3 i (by omega)]
      unfold N_T_within M_in
      rw [ob_s, ob_s]
      by_cases cd : (if τ.2.1 6 s i < 0 then (0 : Int32) else if 999 < τ.2.1 6 s i then 0 else 1) = 0
      · rw [if_pos cd, if_pos cd]
        exact ⟨_, _, _, rfl, rfl, Inv_mono _ _ _ hI⟩
      rw [if_neg cd, if_neg cd, gd_t b3, lt_e, gd_t b4, g3 i (by omega), nI_1]
      obtain ⟨v1, v2⟩ := in_ne cd
      have gg : M_gets (nI i) 2 (τ.2.1 6 s i) σ1 = some (0, ra σ1 0 (upd (σ1.2 0) (10 + 5 * i + 2) (τ.2.1 6 s i))) := gets_e (k := i) (w := 2) (by omega) (by decide) _ _
      rw [gg, ob_s]
      obtain ⟨S', hS12', hr', hc', hok', n1', n2'⟩ := Inv_n hI
      have hiS' : i < S'.1 := by
        have : S'.1 = S.1 := (nI_eq (by omega) (by omega)).mp (n1'.symm.trans g4)
        omega
      refine ih f1 f2 (i + 1) _ _ (by omega) (by omega) (by omega) ?_ (fun j => ?_) ?_ (fun j hj => ?_) ?_
      · refine Inv_of0 hI (cs_sa (by omega)) (rs_ra (by omega)) (lawsok_eq (τ := τ1) rfl (Inv_l hI)) ?_
        rw [ra_eq]
        exact Kept_y (f := 2) hS12' hr' hiS' (Or.inr (Or.inr (Or.inl rfl))) (yr2 (rng_in (a := 0) (b := 999) (by decide) (by decide) v1 v2)) hI.1
      · rw [sa_o _ _ (by decide)]; exact g1 j
      · rw [ra_ne _ _ (by decide)]; exact g2
      · rw [ra_ne _ _ (by decide)]; exact g3 j hj
      · rw [ra_eq, upd_ne _ _ (by omega)]; exact g4
  exact loop E FU FU 0 τ σ (by omega) (by omega) (by omega) h (fun _ => rfl) e17 (fun j hj => s2 s hs j hj) n1
theorem ag_judge (x : Int32) : Agree Inv (N_T_judge x) (M_judge x) := by
  intro k τ σ hk h
  show AgP k _ _
  unfold N_T_judge M_judge
  refine chkS E1 h (fun s hs hx => ?_)
  subst hx
  obtain ⟨s1, s2⟩ := Inv_s h
  obtain ⟨-, e16, n, hn, e7, e17, -⟩ := s1 s hs
  obtain ⟨S, hS12, hr, hc, hok, n1, n2⟩ := Inv_n h
  have b1 : inb (nI s) 4 = true := inb_nI hs (by decide)
  have x1 : ix (nI s) = s := ix_nI (by omega)
  have hF' : FU = 1000 := rfl
  simp only [gd_t b1, x1, e16, e7, n2, i32_min (show S.1 < 2 ^ 31 by omega) (show n < 2 ^ 31 by omega), lt_e]
  by_cases c0 : τ.2.1 5 6 s = 0
  · rw [if_pos c0, if_pos c0]; exact err2 E2 h
  rw [if_neg c0, if_neg c0]
  obtain ⟨E, hE⟩ : ∃ E, E = if S.1 < n then S.1 else n := ⟨_, rfl⟩
  rw [← hE]
  have hE1 : E ≤ S.1 ∧ E ≤ n ∧ (E = S.1 ∨ E = n) := by
    by_cases q : S.1 < n
    · rw [if_pos q] at hE; omega
    · rw [if_neg q] at hE; omega
  have I := Inv_mono _ _ _ h
  have fin : ∀ i : Nat, i ≤ E → i = E ∨ i < E → M_judge_b78 (nI s) (nI i) σ = some ((if i = S.1 ∧ i = n then -1 else nI i), σ) := by
    intro i hi _
    unfold M_judge_b78
    rw [n1, gd_t b1, x1, e17]
    by_cases q1 : i = S.1
    · rw [if_pos (by rw [q1])]
      by_cases q2 : i = n
      · rw [if_pos (by rw [q2]), if_pos ⟨q1, q2⟩]
      · rw [if_neg (fun z => q2 ((nI_eq (by omega) (by omega)).mp z)), if_neg (fun z => q2 z.2)]
    · rw [if_neg (fun z => q1 ((nI_eq (by omega) (by omega)).mp z)), if_neg (fun z => q1 z.1)]
  have loop : ∀ (m f1 f2 i : Nat), i + m = E → m < f1 → m < f2 → AgP k (N_T_judge_b49 f1 (nI s) (nI E) (nI i) τ) (M_judge_b32 f2 (nI s) (nI i) σ) := by
    intro m
    induction m with
    | zero =>
      intro f1 f2 i hm h1 h2
      obtain ⟨f1, rfl⟩ : ∃ q, f1 = q + 1 := ⟨f1 - 1, by omega⟩
      obtain ⟨f2, rfl⟩ : ∃ q, f2 = q + 1 := ⟨f2 - 1, by omega⟩
      have hi : i = E := by omega
      subst hi
      have eR : M_judge_b32 (f2 + 1) (nI s) (nI i) σ = M_judge_b78 (nI s) (nI i) σ := by
        rw [M_judge_b32, n1]
        by_cases q : nI S.1 ≤ nI i
        · rw [if_pos q]
        · rw [if_neg q, gd_t b1, x1, e17]
          rcases hE1.2.2 with z | z
          · exact absurd (nI_le (by omega) (by omega)) q
          · rw [if_pos (nI_le (by omega) (by omega))]
      rw [eR, fin i (Nat.le_refl _) (Or.inl rfl), N_T_judge_b49, if_pos (nI_le (Nat.le_refl _) (by omega)), gd_t b1, x1, e7, n2]
      refine ⟨_, _, _, rfl, ?_, I⟩
      by_cases q : n = S.1
      · rw [if_pos (show i = S.1 ∧ i = n by omega), if_pos (show nI n = nI S.1 by rw [q])]
      · rw [if_neg (show ¬ (i = S.1 ∧ i = n) by omega), if_neg (show ¬ nI n = nI S.1 from fun z => q ((nI_eq (by omega) (by omega)).mp z))]
    | succ m ih =>
      intro f1 f2 i hm h1 h2
      obtain ⟨f1, rfl⟩ : ∃ q, f1 = q + 1 := ⟨f1 - 1, by omega⟩
      obtain ⟨f2, rfl⟩ : ∃ q, f2 = q + 1 := ⟨f2 - 1, by omega⟩
      have b2 : inb (nI i) 40 = true := inb_nI (by omega) (by decide)
      have x2 : ix (nI i) = i := ix_nI (by omega)
      have e40 : (40 : Int32) * nI s + nI i = nI (40 * s + i) := by rw [show (40 : Int32) = nI 40 from rfl, pk_mul, nI_add]
      have b4 : inb (nI (40 * s + i)) 160 = true := inb_nI (by omega) (by decide)
      have x4 : ix (nI (40 * s + i)) = 40 * s + i := ix_nI (by omega)
      have i3 : M_its (nI i) 3 σ = some (S.2.1 3 i, σ) := its_S (w := 3) hS12 hr (by omega) (by decide)
      rw [N_T_judge_b49, M_judge_b32, if_neg (nI_ge (by omega) (by omega)), gd_t b1, gd_t b2, carOf_e hS12 hc (by omega), ob_s, x1, x2, n1, if_neg (nI_ge (by omega) (by omega)), gd_t b1, e17, if_neg (nI_ge (by omega) (by omega)), e40, gd_t b4, i3, ob_s, x4, s2 s hs i (by omega), nI_1]
      by_cases q : τ.2.1 6 s i = S.2.1 3 i
      · rw [if_pos q, if_pos q]
        exact ih f1 f2 (i + 1) (by omega) (by omega) (by omega)
      · rw [if_neg q, if_neg q, fin i (by omega) (Or.inr (by omega)), if_neg (by omega)]
        exact ⟨_, _, _, rfl, rfl, I⟩
  exact loop E FU FU 0 (by omega) (by omega) (by omega)
