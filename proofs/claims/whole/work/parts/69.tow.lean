/-! tow -/
def gTw (c T j : Nat) : Int32 := b01 ((nand c T).testBit j)
theorem b01_n (a k : Nat) : b01 (a.testBit k) = nI (a / 2 ^ k % 2) := by
  rw [nb2]
  cases a.testBit k <;> rfl
theorem car_uniq {n c c' : Nat} (h1 : c < 2 ^ n) (h2 : c' < 2 ^ n) (h : ∀ j, j < n → nI (c / 2 ^ j % 2) = nI (c' / 2 ^ j % 2)) : c = c' := by
  apply Nat.eq_of_testBit_eq
  intro j
  by_cases q : j < n
  · have e := h j q
    rw [← b01_n, ← b01_n] at e
    cases ha : c.testBit j <;> cases hb : c'.testBit j <;> rw [ha, hb] at e <;> first | rfl | exact absurd e (by decide)
  · rw [lt_bit h1 (by omega), lt_bit h2 (by omega)]
theorem pr_bit (h l j : Nat) : (2 ^ h ||| 2 ^ l).testBit j = (decide (j = h) || decide (j = l)) := by
  rw [Nat.testBit_or, Nat.testBit_two_pow, Nat.testBit_two_pow]
  congr 1
  · exact decide_eq_decide.mpr eq_comm
  · exact decide_eq_decide.mpr eq_comm
theorem and_pr {c h l : Nat} : (c &&& (2 ^ h ||| 2 ^ l) = 2 ^ h ||| 2 ^ l) ↔ (c.testBit h = true ∧ c.testBit l = true) := by
  constructor
  · intro e
    constructor
    · have := congrArg (fun x => x.testBit h) e
      simp only [Nat.testBit_and, pr_bit] at this
      simpa using this
    · have := congrArg (fun x => x.testBit l) e
      simp only [Nat.testBit_and, pr_bit] at this
      simpa using this
  · intro ⟨e1, e2⟩
    apply Nat.eq_of_testBit_eq
    intro j
    rw [Nat.testBit_and, pr_bit]
    by_cases c1 : j = h
    · subst c1; simp [e1]
    · by_cases c2 : j = l
      · subst c2; simp [e2]
      · simp [c1, c2]
theorem pr_lt {h l m : Nat} (h1 : h < m) (h2 : l < m) : 2 ^ h ||| 2 ^ l < 2 ^ m := Nat.or_lt_two_pow (Nat.pow_lt_pow_right (by decide) h1) (Nat.pow_lt_pow_right (by decide) h2)
theorem pr_pos (h l : Nat) : 0 < 2 ^ h ||| 2 ^ l := by
  rcases Nat.eq_zero_or_pos (2 ^ h ||| 2 ^ l) with q | q
  · exfalso
    have := pr_bit h l h
    rw [q] at this
    simp at this
  · exact q
theorem sh_or {h l : Nat} (h1 : h < 31) (h2 : l < 31) : ((1 : Int32) <<< (nI h &&& 31)) ||| ((1 : Int32) <<< (nI l &&& 31)) = nI (2 ^ h ||| 2 ^ l) := by
  rw [shl31 h h1, shl31 l h2, ofn_or (Nat.pow_lt_pow_right (by decide) h1) (Nat.pow_lt_pow_right (by decide) h2)]
theorem fh_1 {P : Nat → Bool} {m : Nat} (h : fh P m = none) (q : P m = true) : fh P (m + 1) = some m := by
  show (match fh P m with
    | some a => some a
    | none => if P m = true then some m else none) = some m
  rw [h]
  exact if_pos q
theorem fh_0 {P : Nat → Bool} {m : Nat} (h : fh P m = none) (q : P m = false) : fh P (m + 1) = none := by
  show (match fh P m with
    | some a => some a
    | none => if P m = true then some m else none) = none
  rw [h]
  show (if P m = true then some m else none) = none
  rw [q]; rfl
theorem fh_up {P : Nat → Bool} {m a : Nat} (h : fh P m = some a) : ∀ d, fh P (m + d) = some a := by
  intro d
  induction d with
  | zero => exact h
  | succ d ih =>
    show (match fh P (m + d) with
      | some a => some a
      | none => if P (m + d) = true then some (m + d) else none) = some a
    rw [ih]
def pf (P2 : Nat → Nat → Bool) : Nat → Option Nat
  | 0 => none
  | m + 1 => match pf P2 m with
    | some x => some x
    | none => (fh (P2 m) m).map (fun l => 2 ^ m ||| 2 ^ l)
theorem pf_n {P2 : Nat → Nat → Bool} {m : Nat} (h : pf P2 m = none) : pf P2 (m + 1) = (fh (P2 m) m).map (fun l => 2 ^ m ||| 2 ^ l) := by
  show (match pf P2 m with
    | some x => some x
    | none => (fh (P2 m) m).map (fun l => 2 ^ m ||| 2 ^ l)) = _
  rw [h]
theorem pf_up {P2 : Nat → Nat → Bool} {m a : Nat} (h : pf P2 m = some a) : ∀ d, pf P2 (m + d) = some a := by
  intro d
  induction d with
  | zero => exact h
  | succ d ih =>
    show (match pf P2 (m + d) with
      | some x => some x
      | none => (fh (P2 (m + d)) (m + d)).map (fun l => 2 ^ (m + d) ||| 2 ^ l)) = some a
    rw [ih]
theorem pf_b {P2 : Nat → Nat → Bool} : ∀ (m T : Nat), pf P2 m = some T → 0 < T ∧ T < 2 ^ m := by
  intro m
  induction m with
  | zero => intro T h; cases h
  | succ m ih =>
    intro T h
    cases q : pf P2 m with
    | some x =>
      have := pf_up q 1
      rw [this] at h
      cases h
      obtain ⟨a, b⟩ := ih _ q
      exact ⟨a, Nat.lt_of_lt_of_le b (Nat.pow_le_pow_right (by decide) (by omega))⟩
    | none =>
      rw [pf_n q] at h
      cases q2 : fh (P2 m) m with
      | none => rw [q2] at h; cases h
      | some l =>
        rw [q2] at h
        cases h
        have := fh_lt (P2 m) m l q2
        exact ⟨pr_pos m l, pr_lt (by omega) (by omega)⟩
def orr (a b : Option Nat) : Option Nat := match a with
  | some x => some x
  | none => b
theorem orr_fh (P : Nat → Bool) (g : Nat → Nat) (m : Nat) (t : Option Nat) : orr ((fh P (m + 1)).map g) t = orr ((fh P m).map g) (if P m = true then some (g m) else t) := by
  show orr (Option.map g (match fh P m with
    | some a => some a
    | none => if P m = true then some m else none)) t = _
  cases fh P m with
  | some a => rfl
  | none =>
    show orr (Option.map g (if P m = true then some m else none)) t = (if P m = true then some (g m) else t)
    cases P m <;> rfl
theorem orr_pf (P2 : Nat → Nat → Bool) (m : Nat) (t : Option Nat) : orr (pf P2 (m + 1)) t = orr (pf P2 m) (orr ((fh (P2 m) m).map (fun l => 2 ^ m ||| 2 ^ l)) t) := by
  show orr (match pf P2 m with
    | some x => some x
    | none => (fh (P2 m) m).map (fun l => 2 ^ m ||| 2 ^ l)) t = _
  cases pf P2 m with
  | some x => rfl
  | none => rfl
def rR (σ σ1 : RS) : Prop := r2 σ σ1 ∧ ∀ i, i < 240 → σ1.2 0 i = σ.2 0 i
theorem rR.rf (σ : RS) : rR σ σ := ⟨⟨fun _ _ => rfl, fun _ _ _ => rfl⟩, fun _ _ => rfl⟩
theorem rB_R {σ σ1 : RS} (h : rB σ σ1) : rR σ σ1 := ⟨h.1.1, h.2⟩
theorem saveR {σ σ1 : RS} (b : rR σ σ1) : ∃ σS, M_moveAll 0 2 σ1 = some (0, σS) ∧ rB σ σS := by
  obtain ⟨σS, e2, b2⟩ := save_e σ1
  exact ⟨σS, e2, ⟨⟨fun f q => (b2.1.1.1 f q).trans (b.1.1 f q), fun f p q => (b2.1.1.2 f p q).trans (b.1.2 f p q)⟩, fun i hi => (b2.1.2 i hi).trans (b.2 i hi)⟩, fun i hi => (b2.2 i hi).trans (b.2 i hi)⟩
theorem Inv_R0 {k : Nat} {τ τ' : CS} {σ σ' : RS} (h : Inv k τ σ) (t : t1 τ τ') (r : rR σ σ') : Inv k τ' σ' := by
  refine Inv_of0 h ⟨fun o f a b => t.1 o f (by omega), fun o f a b c => t.2.1 o f (by omega) c, fun o f a => t.2.2.1 o f (by omega)⟩ ⟨fun f q => r.1.1 f q, fun f a b c d => r.1.2 f a b⟩ t.2.2.2 ?_
  exact Kept.rcg r.2 (h.1.same (t1_d (by decide) (by decide) t) (t1_l t))
def towE (x5 x6 : Int32) (σ : RS) : Option (Int32 × RS) := if x5 < 0 then (if x6 < 0 then (ob (M_errs (-1000000002) σ) fun v34 σ35 => (some (v34, σ35))) else some (x6, σ)) else some (x5, σ)
def sml (o : Option Nat) : Prop := ∀ T, o = some T → T < 2 ^ 31
theorem sml_ge {o : Option Nat} (h : sml o) : (0 ≤ oI (-1) o ↔ o ≠ none) ∧ (oI (-1) o < 0 ↔ o = none) := by
  cases o with
  | none => exact ⟨⟨fun q => absurd q (by decide), fun q => absurd rfl q⟩, ⟨fun _ => rfl, fun _ => by decide⟩⟩
  | some T =>
    have hT := h T rfl
    refine ⟨⟨fun _ q => (by cases q), fun _ => nI_pos' hT⟩, ⟨fun q => absurd q (nI_pos hT), fun q => by cases q⟩⟩
section TW
variable {σ : RS} {c a n : Nat} {Cl : Nat → Bool} {x v N : Int32}
theorem towR_in (ag : Int32 → Int32 → Int32 → Int32 → Int32 → Int32 → Int32 → RS → Option (Int32 × RS)) (hn : n ≤ 12) (hc : c < 2 ^ 31) (ha : a < n) (hcl : ∀ (a b : Nat) (σ1 : RS), a < n → b < n → rR σ σ1 → ∃ σ2, M_isClean x v N (nI a) (nI b) σ1 = some (b01 (Cl (2 ^ a ||| 2 ^ b)), σ2) ∧ rR σ σ2) : ∀ (b f : Nat) (one two : Option Nat) (σ1 : RS), b ≤ a → b < f → sml one → rR σ σ1 → ∃ (σ2 : RS) (two' : Option Nat), rR σ σ2 ∧ M_tow_b81 ag f x v N (nI c) (oI (-1) one) (oI (-1) two) (nI a) (nI b + (-1)) σ1 = ag x v N (nI c) (oI (-1) one) (oI (-1) two') (nI a + (-1)) σ2 ∧ (one = none → two' = orr ((fh (fun l => c.testBit a && (c.testBit l && Cl (2 ^ a ||| 2 ^ l))) b).map (fun l => 2 ^ a ||| 2 ^ l)) two) := by
  intro b
  induction b with
  | zero =>
    intro f one two σ1 hb hf hs hR
    obtain ⟨f, rfl⟩ : ∃ q, f = q + 1 := ⟨f - 1, by omega⟩
    rw [M_tow_b81, if_pos (by decide : nI 0 + (-1) < 0)]
    exact ⟨σ1, two, hR, rfl, fun _ => rfl⟩
  | succ b ih =>
    intro f one two σ1 hb hf hs hR
    obtain ⟨f, rfl⟩ : ∃ q, f = q + 1 := ⟨f - 1, by omega⟩
    have hne : ¬ nI a = nI b := fun q => by
      have := (nI_eq (by omega) (by omega)).mp q
      omega
    have hd : ∀ q : Bool, one = none → (c.testBit a && (c.testBit b && Cl (2 ^ a ||| 2 ^ b))) = q → orr ((fh (fun l => c.testBit a && (c.testBit l && Cl (2 ^ a ||| 2 ^ l))) (b + 1)).map (fun l => 2 ^ a ||| 2 ^ l)) two = orr ((fh (fun l => c.testBit a && (c.testBit l && Cl (2 ^ a ||| 2 ^ l))) b).map (fun l => 2 ^ a ||| 2 ^ l)) (if q = true then some (2 ^ a ||| 2 ^ b) else two) := fun q _ e => by
      rw [orr_fh, e]
    have skip : (one = none → (c.testBit a && (c.testBit b && Cl (2 ^ a ||| 2 ^ b))) = false) → ∀ σ3, rR σ σ3 → ∃ (σ2 : RS) (two' : Option Nat), rR σ σ2 ∧ M_tow_b81 ag f x v N (nI c) (oI (-1) one) (oI (-1) two) (nI a) (nI b + (-1)) σ3 = ag x v N (nI c) (oI (-1) one) (oI (-1) two') (nI a + (-1)) σ2 ∧ (one = none → two' = orr ((fh (fun l => c.testBit a && (c.testBit l && Cl (2 ^ a ||| 2 ^ l))) (b + 1)).map (fun l => 2 ^ a ||| 2 ^ l)) two) := by
      intro hfa σ3 hR3
      obtain ⟨σ2, two', g1, g2, g3⟩ := ih f one two σ3 (by omega) (by omega) hs hR3
      refine ⟨σ2, two', g1, g2, fun q => ?_⟩
      rw [g3 q, hd false q (hfa q), if_neg fnt]
    rw [M_tow_b81, pk_m1, if_neg (nI_pos (by omega)), bit_b hc (by omega), bit_b hc (by omega)]
    unfold M_tow_b138 M_tow_b120 M_tow_b139
    rw [lt_e, lt_e, if_pos rfl, if_pos rfl, if_neg hne]
    cases h1 : c.testBit a
    · rw [h1] at skip
      rw [if_neg (by decide : ¬ b01 false = 1)]
      exact skip (fun _ => rfl) σ1 hR
    · rw [if_pos (by decide : b01 true = 1)]
      cases h2 : c.testBit b
      · rw [h1, h2] at skip
        rw [if_neg (by decide : ¬ b01 false = 1)]
        exact skip (fun _ => rfl) σ1 hR
      · rw [if_pos (by decide : b01 true = 1)]
        by_cases h3 : one = none
        · have h4 : ¬ 0 ≤ oI (-1) one := fun q => ((sml_ge hs).1.mp q) h3
          rw [if_neg h4]
          obtain ⟨σ3, e3, hR3⟩ := hcl a b σ1 ha (by omega) hR
          rw [e3, ob_s, lt_e, lt_e, if_neg hne, if_neg hne, sh_or (by omega) (by omega)]
          cases h5 : Cl (2 ^ a ||| 2 ^ b)
          · rw [h1, h2, h5] at skip
            rw [if_pos b0z, if_pos rfl, if_pos rfl]
            exact skip (fun _ => rfl) σ3 hR3
          · rw [if_neg b1z, if_neg i10, if_neg i10]
            obtain ⟨σ2, two', g1, g2, g3⟩ := ih f one (some (2 ^ a ||| 2 ^ b)) σ3 (by omega) (by omega) hs hR3
            refine ⟨σ2, two', g1, g2, fun q => ?_⟩
            have := hd true q (by rw [h1, h2, h5]; rfl)
            rw [if_pos tt] at this
            rw [h1] at g3 this
            rw [g3 q, this]
        · rw [if_pos ((sml_ge hs).1.mpr h3)]
          rw [h1] at skip
          exact skip (fun q => absurd q h3) σ1 hR
theorem towR_out (hn : n ≤ 12) (hc : c < 2 ^ 31) (hcl : ∀ (a b : Nat) (σ1 : RS), a < n → b < n → rR σ σ1 → ∃ σ2, M_isClean x v N (nI a) (nI b) σ1 = some (b01 (Cl (2 ^ a ||| 2 ^ b)), σ2) ∧ rR σ σ2) : ∀ (m f : Nat) (one two : Option Nat) (σ1 : RS), m ≤ n → m < f → sml one → rR σ σ1 → ∃ (σ2 : RS) (one' two' : Option Nat), rR σ σ2 ∧ M_tow_b72 f x v N (nI c) (oI (-1) one) (oI (-1) two) (nI m + (-1)) σ1 = towE (oI (-1) one') (oI (-1) two') σ2 ∧ one' = orr ((fh (fun a => c.testBit a && Cl (2 ^ a)) m).map (fun a => 2 ^ a)) one ∧ (one' = none → two' = orr (pf (fun a l => c.testBit a && (c.testBit l && Cl (2 ^ a ||| 2 ^ l))) m) two) := by
  intro m
  induction m with
  | zero =>
    intro f one two σ1 hm hf hs hR
    obtain ⟨f, rfl⟩ : ∃ q, f = q + 1 := ⟨f - 1, by omega⟩
    rw [M_tow_b72, if_pos (by decide : nI 0 + (-1) < 0)]
    exact ⟨σ1, one, two, hR, rfl, rfl, fun _ => rfl⟩
  | succ m ih =>
    intro f one two σ1 hm hf hs hR
    obtain ⟨f, rfl⟩ : ∃ q, f = q + 1 := ⟨f - 1, by omega⟩
    have hF' : ∃ g, FU = g + 1 ∧ 20 < g := ⟨999, rfl, by decide⟩
    obtain ⟨g, hg, hg2⟩ := hF'
    have tail : ∀ (one1 : Option Nat) (σ3 : RS), sml one1 → rR σ σ3 → one1 = (if (c.testBit m && Cl (2 ^ m)) = true then some (2 ^ m) else one) → ∃ (σ2 : RS) (one' two' : Option Nat), rR σ σ2 ∧ M_tow_b81 (M_tow_b72 f) g x v N (nI c) (oI (-1) one1) (oI (-1) two) (nI m) (nI m + (-1)) σ3 = towE (oI (-1) one') (oI (-1) two') σ2 ∧ one' = orr ((fh (fun a => c.testBit a && Cl (2 ^ a)) (m + 1)).map (fun a => 2 ^ a)) one ∧ (one' = none → two' = orr (pf (fun a l => c.testBit a && (c.testBit l && Cl (2 ^ a ||| 2 ^ l))) (m + 1)) two) := by
      intro one1 σ3 hs1 hR3 e1
      obtain ⟨σ4, two1, r4, e4, k4⟩ := towR_in (a := m) (M_tow_b72 f) hn hc (by omega) hcl m g one1 two σ3 (Nat.le_refl _) (by omega) hs1 hR3
      obtain ⟨σ5, one', two', r5, e5, k5, k6⟩ := ih f one1 two1 σ4 (by omega) (by omega) hs1 r4
      refine ⟨σ5, one', two', r5, e4.trans e5, ?_, fun q => ?_⟩
      · rw [k5, orr_fh, e1]
      · have q1 : one1 = none := by
          rw [k5] at q
          cases hq : (fh (fun a => c.testBit a && Cl (2 ^ a)) m).map (fun a => 2 ^ a) with
          | none => rw [hq] at q; exact q
          | some z => rw [hq] at q; cases q
        rw [k6 q, k4 q1, orr_pf]
    rw [M_tow_b72, pk_m1, if_neg (nI_pos (by omega)), hg, M_tow_b81, if_neg (nI_pos (by omega)), bit_b hc (by omega)]
    unfold M_tow_b138 M_tow_b120 M_tow_b139
    rw [lt_e, lt_e, if_pos rfl, if_pos rfl]
    cases h1 : c.testBit m
    · rw [h1] at tail
      rw [if_neg (by decide : ¬ b01 false = 1)]
      exact tail one σ1 hs hR rfl
    · rw [if_pos (by decide : b01 true = 1), if_pos (by decide : b01 true = 1), if_pos rfl]
      obtain ⟨σ3, e3, hR3⟩ := hcl m m σ1 (by omega) (by omega) hR
      rw [Nat.or_self] at e3
      rw [e3, ob_s, lt_e, lt_e, shl31 m (by omega)]
      cases h5 : Cl (2 ^ m)
      · rw [h1, h5] at tail
        rw [if_pos b0z, if_pos rfl, if_pos rfl]
        exact tail one σ3 hs hR3 rfl
      · rw [h1, h5] at tail
        rw [if_neg b1z, if_neg i10, if_neg i10]
        refine tail (some (2 ^ m)) σ3 (fun T hT => ?_) hR3 rfl
        cases hT
        exact Nat.pow_lt_pow_right (by decide) (by omega)
end TW
