section LW
variable {g : GP} {l : Launch} {y : MethodName} {cc : ByteArray} {nL : Nat} {R : Room} {G : GT} {ce sl pc : Nat} {L : List (Nat × Value)} {st : List Value} {A : Nat → Nat → Nat} {τ σ' : CS} {X : va_W} {j : Nat}
theorem wC_lawset {g : GP} {A : Nat → Nat → Nat} {τ : CS} {X : va_W} {j : Nat} {h : Nat → Int32} (hj : j < τ.2.2 7 0) : (wC g A τ X).set (3 * j + 2 + 43) (A (j + 8) 2, .inl (g.2.1 0, τ.2.2 (j + 8) 0, .inl h)) = wC g A (sa τ (j + 8) 2 h) X := by
  have hf : ∀ Y, fx g A (sa τ (j + 8) 2 h) Y = fx g A τ Y := fun Y => by
    have e : ∀ o f : Nat, o < 8 → (sa τ (j + 8) 2 h).2.1 o f = τ.2.1 o f := fun o f ho => by
      have h1 : ¬ o = j + 8 := by omega
      simp [sa, up2, h1]
    unfold fx wst car
    simp only [e _ _ (show 0 < 8 by decide), e _ _ (show 1 < 8 by decide), e _ _ (show 2 < 8 by decide), e _ _ (show 3 < 8 by decide), e _ _ (show 4 < 8 by decide), e _ _ (show 5 < 8 by decide), e _ _ (show 6 < 8 by decide)]
    rfl
  show (fx g A τ (lpool g A τ (τ.2.2 7 0) ++ X)).set (3 * j + 2 + 43) _ = fx g A (sa τ (j + 8) 2 h) (lpool g A (sa τ (j + 8) 2 h) (τ.2.2 7 0) ++ X)
  rw [hf, ← lpool_set g A τ j h _ hj]
  have hl := lpool_len g A τ (τ.2.2 7 0)
  rw [← List.set_append_left _ _ (by rw [hl]; omega)]
  rfl
theorem l_iald1 (hG : IsG g l y cc nL R G) (hj : j < τ.2.2 7 0) {i : Int32} {q : Nat} (d : decode cc pc = .ok (.iaload, 1)) (hi : inb i (τ.2.2 (j + 8) 0) = true) (hq : i.toNatClampNeg = q) (kk : G ce sl (wC g A τ X) L (pc + 1) (.int (τ.2.1 (j + 8) 1 q) :: st)) : G ce sl (wC g A τ X) L pc (.int i :: .ref (A (j + 8) 1) :: st) := by
  subst hq
  exact g_iald hG d (wC_law g A τ X j hj).2.1 (inb_in hi) kk
theorem l_iald2 (hG : IsG g l y cc nL R G) (hj : j < τ.2.2 7 0) {i : Int32} {q : Nat} (d : decode cc pc = .ok (.iaload, 1)) (hi : inb i (τ.2.2 (j + 8) 0) = true) (hq : i.toNatClampNeg = q) (kk : G ce sl (wC g A τ X) L (pc + 1) (.int (τ.2.1 (j + 8) 2 q) :: st)) : G ce sl (wC g A τ X) L pc (.int i :: .ref (A (j + 8) 2) :: st) := by
  subst hq
  exact g_iald hG d (wC_law g A τ X j hj).2.2 (inb_in hi) kk
theorem l_iast2 (hG : IsG g l y cc nL R G) (hj : j < τ.2.2 7 0) {i x : Int32} {q : Nat} (hσ : σ' = sa τ (j + 8) 2 (upd (τ.2.1 (j + 8) 2) q x)) (d : decode cc pc = .ok (.iastore, 1)) (hi : inb i (τ.2.2 (j + 8) 0) = true) (hq : i.toNatClampNeg = q) (kk : G ce sl (wC g A σ' X) L (pc + 1) st) : G ce sl (wC g A τ X) L pc (.int x :: .int i :: .ref (A (j + 8) 2) :: st) := by
  subst hσ
  subst hq
  rw [← wC_lawset hj] at kk
  exact g_iast hG d (wC_law g A τ X j hj).2.2 (inb_in hi) kk
theorem l_alen1 (hG : IsG g l y cc nL R G) (hj : j < τ.2.2 7 0) (d : decode cc pc = .ok (.arraylength, 1)) (kk : G ce sl (wC g A τ X) L (pc + 1) (.int (Int32.ofNat (τ.2.2 (j + 8) 0)) :: st)) : G ce sl (wC g A τ X) L pc (.ref (A (j + 8) 1) :: st) := g_alen hG d (wC_law g A τ X j hj).2.1 kk
theorem l_alen2 (hG : IsG g l y cc nL R G) (hj : j < τ.2.2 7 0) (d : decode cc pc = .ok (.arraylength, 1)) (kk : G ce sl (wC g A τ X) L (pc + 1) (.int (Int32.ofNat (τ.2.2 (j + 8) 0)) :: st)) : G ce sl (wC g A τ X) L pc (.ref (A (j + 8) 2) :: st) := g_alen hG d (wC_law g A τ X j hj).2.2 kk
end LW
def N_T_within (x0 : Int32) (x1 : Int32) (x2 : Int32) (σ : CS) : Option (Int32 × CS) := (some ((if x0 < x1 then (0 : Int32) else (if x2 < x0 then (0 : Int32) else (1 : Int32))), σ))
set_option maxRecDepth 100000 in
set_option maxHeartbeats 4000000 in
theorem c_N_T_within {g : GP} {l : Launch} {A : Nat → Nat → Nat} {X : va_W} {v9 : Int32} {s9 : CS} {x0 : Int32} {x1 : Int32} {x2 : Int32} {σ : CS} (h : N_T_within x0 x1 x2 σ = some (v9, s9)) : CI g l yX11_within cX11_within 3 (some .boolean) { frames := 0, cells := 0, slots := 0, locals := 0 } [.int x0, .int x1, .int x2] (wC g A σ X) (fun r0 w => r0 = v9 ∧ w = wC g A s9 X) := by
  refine CI.mk (by decide) (Nat.le_of_ble_eq_true rfl) (fun G hG hret => ?_)
  have K : ∀ L pc, decode cX11_within pc = .ok (.ireturn, 1) → isb v9 = true → G 0 0 (wC g A s9 X) L pc [.int v9] := fun L pc d hz => hret _ L pc v9 d (isb_n hz) ⟨rfl, rfl⟩
  unfold N_T_within at h
  refine g_iload_n hG dX11_within_0 rfl ?_
  refine g_iload_n hG dX11_within_1 rfl ?_
  refine g_dia2 (if x0 < x1 then (0 : Int32) else (if x2 < x0 then (0 : Int32) else (1 : Int32))) 15 (fun J1 => ?_) ?_
  · by_cases c2 : x0 < x1
    · refine g_icmp_gt (tgt := 14) hG dX11_within_2 rfl (fun _ => ?_) (fun q => absurd c2 q)
      refine g_iconstv hG dX11_within_14 ki_0 ?_
      rw [if_pos c2] at J1
      exact J1
    · refine g_icmp_gt (tgt := 14) hG dX11_within_2 rfl (fun q => absurd q c2) (fun _ => ?_)
      refine g_iload_n hG dX11_within_5 rfl ?_
      refine g_iload_n hG dX11_within_6 rfl ?_
      by_cases c3 : x2 < x0
      · refine g_icmp_gt (tgt := 14) hG dX11_within_7 rfl (fun _ => ?_) (fun q => absurd c3 q)
        refine g_iconstv hG dX11_within_14 ki_0 ?_
        rw [if_neg c2, if_pos c3] at J1
        exact J1
      · refine g_icmp_gt (tgt := 14) hG dX11_within_7 rfl (fun q => absurd q c3) (fun _ => ?_)
        refine g_iconstv hG dX11_within_10 ki_1 ?_
        refine g_goto (tgt := 15) hG dX11_within_11 rfl ?_
        rw [if_neg c2, if_neg c3] at J1
        exact J1
  cases h
  exact K _ _ dX11_within_15 (isb_ite (by decide) (isb_ite (by decide) (by decide)))
def N_T_mostOfYard (x0 : Int32) (σ : CS) : Option (Int32 × CS) := (if x0 = 0 then (some ((999 : Int32), σ)) else (some ((if x0 = (1 : Int32) then (1 : Int32) else (99 : Int32)), σ)))
set_option maxRecDepth 100000 in
set_option maxHeartbeats 4000000 in
theorem c_N_T_mostOfYard {g : GP} {l : Launch} {A : Nat → Nat → Nat} {X : va_W} {v9 : Int32} {s9 : CS} {x0 : Int32} {σ : CS} (h : N_T_mostOfYard x0 σ = some (v9, s9)) : CI g l yX11_mostOfYard cX11_mostOfYard 1 (some .int) { frames := 0, cells := 0, slots := 0, locals := 0 } [.int x0] (wC g A σ X) (fun r0 w => r0 = v9 ∧ w = wC g A s9 X) := by
  refine CI.mk (by decide) (Nat.le_of_ble_eq_true rfl) (fun G hG hret => ?_)
  have K : ∀ L pc, decode cX11_mostOfYard pc = .ok (.ireturn, 1) → G 0 0 (wC g A s9 X) L pc [.int v9] := fun L pc d => hret _ L pc v9 d rfl ⟨rfl, rfl⟩
  unfold N_T_mostOfYard at h
  refine g_iload_n hG dX11_mostOfYard_0 rfl ?_
  rcases if_some h with ⟨c1, h⟩ | ⟨c1, h⟩
  · refine g_if_ne (tgt := 8) hG dX11_mostOfYard_1 rfl (fun q => absurd c1 q) (fun _ => ?_)
    refine g_sipushv hG dX11_mostOfYard_4 ks_999 ?_
    cases h
    exact K _ _ dX11_mostOfYard_7
  · refine g_if_ne (tgt := 8) hG dX11_mostOfYard_1 rfl (fun _ => ?_) (fun q => absurd q c1)
    refine g_iload_n hG dX11_mostOfYard_8 rfl ?_
    refine g_iconstv hG dX11_mostOfYard_9 ki_1 ?_
    refine g_dia2 (if x0 = (1 : Int32) then (1 : Int32) else (99 : Int32)) 19 (fun J2 => ?_) ?_
    · by_cases c3 : x0 = (1 : Int32)
      · refine g_icmp_ne (tgt := 17) hG dX11_mostOfYard_10 rfl (fun q => absurd c3 q) (fun _ => ?_)
        refine g_iconstv hG dX11_mostOfYard_13 ki_1 ?_
        refine g_goto (tgt := 19) hG dX11_mostOfYard_14 rfl ?_
        rw [if_pos c3] at J2
        exact J2
      · refine g_icmp_ne (tgt := 17) hG dX11_mostOfYard_10 rfl (fun _ => ?_) (fun q => absurd q c3)
        refine g_bipushv hG dX11_mostOfYard_17 kb_99 ?_
        rw [if_neg c3] at J2
        exact J2
    cases h
    exact K _ _ dX11_mostOfYard_19
def N_T_mostOfStreet (x0 : Int32) (σ : CS) : Option (Int32 × CS) := (if x0 = 0 then (some ((9 : Int32), σ)) else (if x0 = (1 : Int32) then (some ((99 : Int32), σ)) else (some ((99999 : Int32), σ))))
set_option maxRecDepth 100000 in
set_option maxHeartbeats 4000000 in
theorem c_N_T_mostOfStreet {g : GP} {l : Launch} {A : Nat → Nat → Nat} {X : va_W} {v9 : Int32} {s9 : CS} {x0 : Int32} {σ : CS} (h : N_T_mostOfStreet x0 σ = some (v9, s9)) : CI g l yX11_mostOfStreet cX11_mostOfStreet 1 (some .int) { frames := 0, cells := 0, slots := 0, locals := 0 } [.int x0] (wC g A σ X) (fun r0 w => r0 = v9 ∧ w = wC g A s9 X) := by
  refine CI.mk (by decide) (Nat.le_of_ble_eq_true rfl) (fun G hG hret => ?_)
  have K : ∀ L pc, decode cX11_mostOfStreet pc = .ok (.ireturn, 1) → G 0 0 (wC g A s9 X) L pc [.int v9] := fun L pc d => hret _ L pc v9 d rfl ⟨rfl, rfl⟩
  unfold N_T_mostOfStreet at h
  refine g_iload_n hG dX11_mostOfStreet_0 rfl ?_
  rcases if_some h with ⟨c1, h⟩ | ⟨c1, h⟩
  · refine g_if_ne (tgt := 7) hG dX11_mostOfStreet_1 rfl (fun q => absurd c1 q) (fun _ => ?_)
    refine g_bipushv hG dX11_mostOfStreet_4 kb_9 ?_
    cases h
    exact K _ _ dX11_mostOfStreet_6
  · refine g_if_ne (tgt := 7) hG dX11_mostOfStreet_1 rfl (fun _ => ?_) (fun q => absurd q c1)
    refine g_iload_n hG dX11_mostOfStreet_7 rfl ?_
    refine g_iconstv hG dX11_mostOfStreet_8 ki_1 ?_
    rcases if_some h with ⟨c2, h⟩ | ⟨c2, h⟩
    · refine g_icmp_ne (tgt := 17) hG dX11_mostOfStreet_9 rfl (fun q => absurd c2 q) (fun _ => ?_)
      refine g_bipushv hG dX11_mostOfStreet_12 kb_99 ?_
      refine g_goto (tgt := 20) hG dX11_mostOfStreet_14 rfl ?_
      cases h
      exact K _ _ dX11_mostOfStreet_20
    · refine g_icmp_ne (tgt := 17) hG dX11_mostOfStreet_9 rfl (fun _ => ?_) (fun q => absurd q c2)
      refine g_ldcw hG dX11_mostOfStreet_17 k_X11_299 ?_
      cases h
      exact K _ _ dX11_mostOfStreet_20
def N_T_commonPart_b21 (ag2 : Int32 → Int32 → Int32 → CS → Option (Int32 × CS)) (x0 : Int32) (x1 : Int32) (x2 : Int32) (σ : CS) : Option (Int32 × CS) := (ag2 x0 x1 (x2 + (-1 : Int32)) σ)
set_option maxRecDepth 100000 in
set_option maxHeartbeats 4000000 in
theorem s_N_T_commonPart_b21 {g : GP} {l : Launch} {A : Nat → Nat → Nat} {X : va_W} {G : GT} {v9 : Int32} {s9 : CS} (hG : IsG g l yX11_commonPart cX11_commonPart 3 { frames := 0, cells := 0, slots := 0, locals := 0 } G) (K : ∀ L pc, decode cX11_commonPart pc = .ok (.ireturn, 1) → G 0 0 (wC g A s9 X) L pc [.int v9]) {ag2 : Int32 → Int32 → Int32 → CS → Option (Int32 × CS)} (hag2 : ∀ (x0 : Int32) (x1 : Int32) (x2 : Int32) (σ : CS), ag2 x0 x1 x2 σ = some (v9, s9) → G 0 0 (wC g A σ X) [(0, .int x0), (1, .int x1), (2, .int x2)] 2 []) {x0 : Int32} {x1 : Int32} {x2 : Int32} {σ : CS} (h : N_T_commonPart_b21 ag2 x0 x1 x2 σ = some (v9, s9)) : G 0 0 (wC g A σ X) [(0, .int x0), (1, .int x1), (2, .int x2)] 21 [] := by
  unfold N_T_commonPart_b21 at h
  refine g_iincv (c := (-1 : Int32)) hG dX11_commonPart_21 rfl (by decide) (by decide) ?_
  refine g_goto (tgt := 2) hG dX11_commonPart_24 rfl ?_
  refine g_loc hG [(0, .int x0), (1, .int x1), (2, .int (x2 + (-1 : Int32)))] ⟨rfl, rfl, rfl, trivial⟩ ?_
  exact hag2 _ _ _ _ h
def N_T_commonPart_b2 : Nat → Int32 → Int32 → Int32 → CS → Option (Int32 × CS)
  | 0, _, _, _, _ => none
  | n + 1, x0, x1, x2, σ => (if x2 ≤ (1 : Int32) then (some ((1 : Int32), σ)) else (gd (nz x2) (if (irm x0 x2) = 0 then (gd (nz x2) (if (irm x1 x2) = 0 then (some (x2, σ)) else (N_T_commonPart_b21 (N_T_commonPart_b2  n) x0 x1 x2 σ))) else (N_T_commonPart_b21 (N_T_commonPart_b2  n) x0 x1 x2 σ))))
set_option maxRecDepth 100000 in
set_option maxHeartbeats 4000000 in
theorem s_N_T_commonPart_b2 {g : GP} {l : Launch} {A : Nat → Nat → Nat} {X : va_W} {G : GT} {v9 : Int32} {s9 : CS} (hG : IsG g l yX11_commonPart cX11_commonPart 3 { frames := 0, cells := 0, slots := 0, locals := 0 } G) (K : ∀ L pc, decode cX11_commonPart pc = .ok (.ireturn, 1) → G 0 0 (wC g A s9 X) L pc [.int v9]) : ∀ (n : Nat) (x0 : Int32) (x1 : Int32) (x2 : Int32) (σ : CS) (h : N_T_commonPart_b2  n x0 x1 x2 σ = some (v9, s9)), G 0 0 (wC g A σ X) [(0, .int x0), (1, .int x1), (2, .int x2)] 2 [] := by
  intro n
  induction n with
  | zero => intro _ _ _ σ h; cases h
  | succ n ih =>
    intro x0 x1 x2 σ h
    unfold N_T_commonPart_b2 at h
    refine g_iload_n hG dX11_commonPart_2 rfl ?_
    refine g_iconstv hG dX11_commonPart_3 ki_1 ?_
    rcases if_some h with ⟨c1, h⟩ | ⟨c1, h⟩
    · refine g_icmp_le (tgt := 27) hG dX11_commonPart_4 rfl (fun _ => ?_) (fun q => absurd c1 q)
      refine g_iconstv hG dX11_commonPart_27 ki_1 ?_
      cases h
      exact K _ _ dX11_commonPart_28
    · refine g_icmp_le (tgt := 27) hG dX11_commonPart_4 rfl (fun q => absurd q c1) (fun _ => ?_)
      refine g_iload_n hG dX11_commonPart_7 rfl ?_
      refine g_iload_n hG dX11_commonPart_8 rfl ?_
      obtain ⟨b2, h⟩ := gd_some h
      refine g_irm hG dX11_commonPart_9 (nz_ne b2) ?_
      rcases if_some h with ⟨c3, h⟩ | ⟨c3, h⟩
      · refine g_if_ne (tgt := 21) hG dX11_commonPart_10 rfl (fun q => absurd c3 q) (fun _ => ?_)
        refine g_iload_n hG dX11_commonPart_13 rfl ?_
        refine g_iload_n hG dX11_commonPart_14 rfl ?_
        obtain ⟨b4, h⟩ := gd_some h
        refine g_irm hG dX11_commonPart_15 (nz_ne b4) ?_
        rcases if_some h with ⟨c5, h⟩ | ⟨c5, h⟩
        · refine g_if_ne (tgt := 21) hG dX11_commonPart_16 rfl (fun q => absurd c5 q) (fun _ => ?_)
          refine g_iload_n hG dX11_commonPart_19 rfl ?_
          cases h
          exact K _ _ dX11_commonPart_20
        · refine g_if_ne (tgt := 21) hG dX11_commonPart_16 rfl (fun _ => ?_) (fun q => absurd q c5)
          refine g_loc hG [(0, .int x0), (1, .int x1), (2, .int x2)] ⟨rfl, rfl, rfl, trivial⟩ ?_
          exact s_N_T_commonPart_b21  hG K ih h
      · refine g_if_ne (tgt := 21) hG dX11_commonPart_10 rfl (fun _ => ?_) (fun q => absurd q c3)
        refine g_loc hG [(0, .int x0), (1, .int x1), (2, .int x2)] ⟨rfl, rfl, rfl, trivial⟩ ?_
        exact s_N_T_commonPart_b21  hG K ih h
def N_T_commonPart (x0 : Int32) (x1 : Int32) (σ : CS) : Option (Int32 × CS) := (N_T_commonPart_b2  FU x0 x1 x1 σ)
set_option maxRecDepth 100000 in
set_option maxHeartbeats 4000000 in
theorem c_N_T_commonPart {g : GP} {l : Launch} {A : Nat → Nat → Nat} {X : va_W} {v9 : Int32} {s9 : CS} {x0 : Int32} {x1 : Int32} {σ : CS} (h : N_T_commonPart x0 x1 σ = some (v9, s9)) : CI g l yX11_commonPart cX11_commonPart 3 (some .int) { frames := 0, cells := 0, slots := 0, locals := 0 } [.int x0, .int x1] (wC g A σ X) (fun r0 w => r0 = v9 ∧ w = wC g A s9 X) := by
  refine CI.mk (by decide) (Nat.le_of_ble_eq_true rfl) (fun G hG hret => ?_)
  have K : ∀ L pc, decode cX11_commonPart pc = .ok (.ireturn, 1) → G 0 0 (wC g A s9 X) L pc [.int v9] := fun L pc d => hret _ L pc v9 d rfl ⟨rfl, rfl⟩
  unfold N_T_commonPart at h
  refine g_iload_n hG dX11_commonPart_0 rfl ?_
  refine g_istore_n hG dX11_commonPart_1 (by decide) ?_
  refine g_loc hG [(0, .int x0), (1, .int x1), (2, .int x1)] ⟨rfl, rfl, rfl, trivial⟩ ?_
  exact s_N_T_commonPart_b2  hG K FU _ _ _ _ h
def N_T_isSheet (x0 : Int32) (σ : CS) : Option (Int32 × CS) := (ob (N_T_within x0 (0 : Int32) (3 : Int32) σ) fun v1 σ2 => (gd (isb v1) (some (v1, σ2))))
set_option maxRecDepth 100000 in
set_option maxHeartbeats 4000000 in
theorem c_N_T_isSheet {g : GP} {l : Launch} {A : Nat → Nat → Nat} {X : va_W} {v9 : Int32} {s9 : CS} {x0 : Int32} {σ : CS} (h : N_T_isSheet x0 σ = some (v9, s9)) : CI g l yX11_isSheet cX11_isSheet 1 (some .boolean) { frames := 1, cells := 0, slots := 0, locals := 22 } [.int x0] (wC g A σ X) (fun r0 w => r0 = v9 ∧ w = wC g A s9 X) := by
  refine CI.mk (by decide) (Nat.le_of_ble_eq_true rfl) (fun G hG hret => ?_)
  have K : ∀ L pc, decode cX11_isSheet pc = .ok (.ireturn, 1) → isb v9 = true → G 0 0 (wC g A s9 X) L pc [.int v9] := fun L pc d hz => hret _ L pc v9 d (isb_n hz) ⟨rfl, rfl⟩
  unfold N_T_isSheet at h
  refine g_iload_n hG dX11_isSheet_0 rfl ?_
  refine g_iconstv hG dX11_isSheet_1 ki_0 ?_
  refine g_iconstv hG dX11_isSheet_2 ki_3 ?_
  obtain ⟨v1, σ2, q3, h⟩ := ob_some h
  refine g_cS hG dX11_isSheet_3 (c_N_T_within q3) b_X11_within v_X11_79 rfl ⟨Nat.le_of_ble_eq_true rfl, Nat.le_of_ble_eq_true rfl⟩ ⟨rfl, rfl⟩ ⟨Nat.zero_le _, Nat.zero_le _⟩ _ rfl (Nat.le_of_ble_eq_true rfl) ?_
  obtain ⟨b4, h⟩ := gd_some h
  cases h
  exact K _ _ dX11_isSheet_6 b4
def N_T_isWidth (x0 : Int32) (σ : CS) : Option (Int32 × CS) := (some ((if x0 = 0 then (1 : Int32) else (if x0 = (8 : Int32) then (1 : Int32) else (if x0 = (16 : Int32) then (1 : Int32) else (if x0 = (32 : Int32) then (1 : Int32) else (0 : Int32))))), σ))
set_option maxRecDepth 100000 in
set_option maxHeartbeats 4000000 in
theorem c_N_T_isWidth {g : GP} {l : Launch} {A : Nat → Nat → Nat} {X : va_W} {v9 : Int32} {s9 : CS} {x0 : Int32} {σ : CS} (h : N_T_isWidth x0 σ = some (v9, s9)) : CI g l yX11_isWidth cX11_isWidth 1 (some .boolean) { frames := 0, cells := 0, slots := 0, locals := 0 } [.int x0] (wC g A σ X) (fun r0 w => r0 = v9 ∧ w = wC g A s9 X) := by
  refine CI.mk (by decide) (Nat.le_of_ble_eq_true rfl) (fun G hG hret => ?_)
  have K : ∀ L pc, decode cX11_isWidth pc = .ok (.ireturn, 1) → isb v9 = true → G 0 0 (wC g A s9 X) L pc [.int v9] := fun L pc d hz => hret _ L pc v9 d (isb_n hz) ⟨rfl, rfl⟩
  unfold N_T_isWidth at h
  refine g_iload_n hG dX11_isWidth_0 rfl ?_
  refine g_dia1 (if x0 = 0 then (1 : Int32) else (if x0 = (8 : Int32) then (1 : Int32) else (if x0 = (16 : Int32) then (1 : Int32) else (if x0 = (32 : Int32) then (1 : Int32) else (0 : Int32))))) 27 (fun J1 => ?_) ?_
  · by_cases c2 : x0 = 0
    · refine g_if_eq (tgt := 22) hG dX11_isWidth_1 rfl (fun _ => ?_) (fun q => absurd c2 q)
      refine g_iconstv hG dX11_isWidth_22 ki_1 ?_
      refine g_goto (tgt := 27) hG dX11_isWidth_23 rfl ?_
      rw [if_pos c2] at J1
      exact J1
    · refine g_if_eq (tgt := 22) hG dX11_isWidth_1 rfl (fun q => absurd q c2) (fun _ => ?_)
      refine g_iload_n hG dX11_isWidth_4 rfl ?_
      refine g_bipushv hG dX11_isWidth_5 kb_8 ?_
      by_cases c3 : x0 = (8 : Int32)
      · refine g_icmp_eq (tgt := 22) hG dX11_isWidth_7 rfl (fun _ => ?_) (fun q => absurd c3 q)
        refine g_iconstv hG dX11_isWidth_22 ki_1 ?_
        refine g_goto (tgt := 27) hG dX11_isWidth_23 rfl ?_
        rw [if_neg c2, if_pos c3] at J1
        exact J1
      · refine g_icmp_eq (tgt := 22) hG dX11_isWidth_7 rfl (fun q => absurd q c3) (fun _ => ?_)
        refine g_iload_n hG dX11_isWidth_10 rfl ?_
        refine g_bipushv hG dX11_isWidth_11 kb_16 ?_
        by_cases c4 : x0 = (16 : Int32)
        · refine g_icmp_eq (tgt := 22) hG dX11_isWidth_13 rfl (fun _ => ?_) (fun q => absurd c4 q)
          refine g_iconstv hG dX11_isWidth_22 ki_1 ?_
          refine g_goto (tgt := 27) hG dX11_isWidth_23 rfl ?_
          rw [if_neg c2, if_neg c3, if_pos c4] at J1
          exact J1
        · refine g_icmp_eq (tgt := 22) hG dX11_isWidth_13 rfl (fun q => absurd q c4) (fun _ => ?_)
          refine g_iload_n hG dX11_isWidth_16 rfl ?_
          refine g_bipushv hG dX11_isWidth_17 kb_32 ?_
          by_cases c5 : x0 = (32 : Int32)
          · refine g_icmp_ne (tgt := 26) hG dX11_isWidth_19 rfl (fun q => absurd c5 q) (fun _ => ?_)
            refine g_iconstv hG dX11_isWidth_22 ki_1 ?_
            refine g_goto (tgt := 27) hG dX11_isWidth_23 rfl ?_
            rw [if_neg c2, if_neg c3, if_neg c4, if_pos c5] at J1
            exact J1
          · refine g_icmp_ne (tgt := 26) hG dX11_isWidth_19 rfl (fun _ => ?_) (fun q => absurd q c5)
            refine g_iconstv hG dX11_isWidth_26 ki_0 ?_
            rw [if_neg c2, if_neg c3, if_neg c4, if_neg c5] at J1
            exact J1
  cases h
  exact K _ _ dX11_isWidth_27 (isb_ite (by decide) (isb_ite (by decide) (isb_ite (by decide) (isb_ite (by decide) (by decide)))))
def N_T_lowestBits (x0 : Int32) (x1 : Int32) (σ : CS) : Option (Int32 × CS) := (if x0 = (8 : Int32) then (some (x1.toInt8.toInt32, σ)) else (if x0 = (16 : Int32) then (some (x1.toInt16.toInt32, σ)) else (some (x1, σ))))
set_option maxRecDepth 100000 in
set_option maxHeartbeats 4000000 in
theorem c_N_T_lowestBits {g : GP} {l : Launch} {A : Nat → Nat → Nat} {X : va_W} {v9 : Int32} {s9 : CS} {x0 : Int32} {x1 : Int32} {σ : CS} (h : N_T_lowestBits x0 x1 σ = some (v9, s9)) : CI g l yX11_lowestBits cX11_lowestBits 2 (some .int) { frames := 0, cells := 0, slots := 0, locals := 0 } [.int x0, .int x1] (wC g A σ X) (fun r0 w => r0 = v9 ∧ w = wC g A s9 X) := by
  refine CI.mk (by decide) (Nat.le_of_ble_eq_true rfl) (fun G hG hret => ?_)
  have K : ∀ L pc, decode cX11_lowestBits pc = .ok (.ireturn, 1) → G 0 0 (wC g A s9 X) L pc [.int v9] := fun L pc d => hret _ L pc v9 d rfl ⟨rfl, rfl⟩
  unfold N_T_lowestBits at h
  refine g_iload_n hG dX11_lowestBits_0 rfl ?_
  refine g_bipushv hG dX11_lowestBits_1 kb_8 ?_
  rcases if_some h with ⟨c1, h⟩ | ⟨c1, h⟩
  · refine g_icmp_ne (tgt := 9) hG dX11_lowestBits_3 rfl (fun q => absurd c1 q) (fun _ => ?_)
    refine g_iload_n hG dX11_lowestBits_6 rfl ?_
    refine g_i2b hG dX11_lowestBits_7 ?_
    cases h
    exact K _ _ dX11_lowestBits_8
  · refine g_icmp_ne (tgt := 9) hG dX11_lowestBits_3 rfl (fun _ => ?_) (fun q => absurd q c1)
    refine g_iload_n hG dX11_lowestBits_9 rfl ?_
    refine g_bipushv hG dX11_lowestBits_10 kb_16 ?_
    rcases if_some h with ⟨c2, h⟩ | ⟨c2, h⟩
    · refine g_icmp_ne (tgt := 20) hG dX11_lowestBits_12 rfl (fun q => absurd c2 q) (fun _ => ?_)
      refine g_iload_n hG dX11_lowestBits_15 rfl ?_
      refine g_i2s hG dX11_lowestBits_16 ?_
      refine g_goto (tgt := 21) hG dX11_lowestBits_17 rfl ?_
      cases h
      exact K _ _ dX11_lowestBits_21
    · refine g_icmp_ne (tgt := 20) hG dX11_lowestBits_12 rfl (fun _ => ?_) (fun q => absurd q c2)
      refine g_iload_n hG dX11_lowestBits_20 rfl ?_
      cases h
      exact K _ _ dX11_lowestBits_21
def N_L_joined_b203 (x1 : Int32) (x2 : Int32) (σ : CS) : Option (Int32 × CS) := (some ((if x1 = 0 then (if x2 = 0 then (0 : Int32) else (1 : Int32)) else (1 : Int32)), σ))
set_option maxRecDepth 100000 in
set_option maxHeartbeats 4000000 in
theorem s_N_L_joined_b203 {g : GP} {l : Launch} {A : Nat → Nat → Nat} {X : va_W} {G : GT} {v9 : Int32} {s9 : CS} (hG : IsG g l yX4_joined cX4_joined 3 { frames := 0, cells := 0, slots := 0, locals := 0 } G) (K : ∀ L pc, decode cX4_joined pc = .ok (.ireturn, 1) → G 0 0 (wC g A s9 X) L pc [.int v9]) {x1 : Int32} {x2 : Int32} {σ : CS} (h : N_L_joined_b203  x1 x2 σ = some (v9, s9)) : G 0 0 (wC g A σ X) [(1, .int x1), (2, .int x2)] 203 [] := by
  unfold N_L_joined_b203 at h
  refine g_iload_n hG dX4_joined_203 rfl ?_
  refine g_dia1 (if x1 = 0 then (if x2 = 0 then (0 : Int32) else (1 : Int32)) else (1 : Int32)) 216 (fun J9 => ?_) ?_
  · by_cases c10 : x1 = 0
    · refine g_if_ne (tgt := 211) hG dX4_joined_204 rfl (fun q => absurd c10 q) (fun _ => ?_)
      refine g_iload_n hG dX4_joined_207 rfl ?_
      by_cases c11 : x2 = 0
      · refine g_if_eq (tgt := 215) hG dX4_joined_208 rfl (fun _ => ?_) (fun q => absurd c11 q)
        refine g_iconstv hG dX4_joined_215 ki_0 ?_
        rw [if_pos c10, if_pos c11] at J9
        exact J9
      · refine g_if_eq (tgt := 215) hG dX4_joined_208 rfl (fun q => absurd q c11) (fun _ => ?_)
        refine g_iconstv hG dX4_joined_211 ki_1 ?_
        refine g_goto (tgt := 216) hG dX4_joined_212 rfl ?_
        rw [if_pos c10, if_neg c11] at J9
        exact J9
    · refine g_if_ne (tgt := 211) hG dX4_joined_204 rfl (fun _ => ?_) (fun q => absurd q c10)
      refine g_iconstv hG dX4_joined_211 ki_1 ?_
      refine g_goto (tgt := 216) hG dX4_joined_212 rfl ?_
      rw [if_neg c10] at J9
      exact J9
  cases h
  exact K _ _ dX4_joined_216
def N_L_joined (x0 : Int32) (x1 : Int32) (x2 : Int32) (σ : CS) : Option (Int32 × CS) := (if x0 = (37 : Int32) then (if x2 = 0 then (some ((0 : Int32), σ)) else (gd (nz x2) (some ((irm x1 x2), σ)))) else (if x0 = (38 : Int32) then (some ((if x1 = 0 then (0 : Int32) else (if x2 = 0 then (0 : Int32) else (1 : Int32))), σ)) else (if x0 = (39 : Int32) then (N_L_joined_b203  x1 x2 σ) else (if x0 = (40 : Int32) then (N_L_joined_b203  x1 x2 σ) else (if x0 = (41 : Int32) then (N_L_joined_b203  x1 x2 σ) else (if x0 = (42 : Int32) then (some ((x1 * x2), σ)) else (if x0 = (43 : Int32) then (some ((x1 + x2), σ)) else (if x0 = (44 : Int32) then (N_L_joined_b203  x1 x2 σ) else (if x0 = (45 : Int32) then (some ((x1 - x2), σ)) else (if x0 = (46 : Int32) then (N_L_joined_b203  x1 x2 σ) else (if x0 = (47 : Int32) then (if x2 = 0 then (some ((0 : Int32), σ)) else (gd (nz x2) (some ((x1 / x2), σ)))) else (if x0 = (48 : Int32) then (N_L_joined_b203  x1 x2 σ) else (if x0 = (49 : Int32) then (N_L_joined_b203  x1 x2 σ) else (if x0 = (50 : Int32) then (N_L_joined_b203  x1 x2 σ) else (if x0 = (51 : Int32) then (N_L_joined_b203  x1 x2 σ) else (if x0 = (52 : Int32) then (N_L_joined_b203  x1 x2 σ) else (if x0 = (53 : Int32) then (N_L_joined_b203  x1 x2 σ) else (if x0 = (54 : Int32) then (N_L_joined_b203  x1 x2 σ) else (if x0 = (55 : Int32) then (N_L_joined_b203  x1 x2 σ) else (if x0 = (56 : Int32) then (N_L_joined_b203  x1 x2 σ) else (if x0 = (57 : Int32) then (N_L_joined_b203  x1 x2 σ) else (if x0 = (58 : Int32) then (N_L_joined_b203  x1 x2 σ) else (if x0 = (59 : Int32) then (N_L_joined_b203  x1 x2 σ) else (if x0 = (60 : Int32) then (some ((if x2 ≤ x1 then (0 : Int32) else (1 : Int32)), σ)) else (if x0 = (61 : Int32) then (some ((if x1 = x2 then (1 : Int32) else (0 : Int32)), σ)) else (if x0 = (62 : Int32) then (some ((if x1 ≤ x2 then (0 : Int32) else (1 : Int32)), σ)) else (N_L_joined_b203  x1 x2 σ)))))))))))))))))))))))))))
set_option maxRecDepth 100000 in
set_option maxHeartbeats 4000000 in
theorem c_N_L_joined {g : GP} {l : Launch} {A : Nat → Nat → Nat} {X : va_W} {v9 : Int32} {s9 : CS} {x0 : Int32} {x1 : Int32} {x2 : Int32} {σ : CS} (h : N_L_joined x0 x1 x2 σ = some (v9, s9)) : CI g l yX4_joined cX4_joined 3 (some .int) { frames := 0, cells := 0, slots := 0, locals := 0 } [.int x0, .int x1, .int x2] (wC g A σ X) (fun r0 w => r0 = v9 ∧ w = wC g A s9 X) := by
  refine CI.mk (by decide) (Nat.le_of_ble_eq_true rfl) (fun G hG hret => ?_)
  have K : ∀ L pc, decode cX4_joined pc = .ok (.ireturn, 1) → G 0 0 (wC g A s9 X) L pc [.int v9] := fun L pc d => hret _ L pc v9 d rfl ⟨rfl, rfl⟩
  unfold N_L_joined at h
  refine g_iload_n hG dX4_joined_0 rfl ?_
  rcases if_some h with ⟨c1, h⟩ | ⟨c1, h⟩
  · refine g_tabC (tgt := 144) (c := (37 : Int32)) hG c1 dX4_joined_1 (by decide) (by decide) rfl rfl ?_
    refine g_iload_n hG dX4_joined_144 rfl ?_
    rcases if_some h with ⟨c2, h⟩ | ⟨c2, h⟩
    · refine g_if_ne (tgt := 152) hG dX4_joined_145 rfl (fun q => absurd c2 q) (fun _ => ?_)
      refine g_iconstv hG dX4_joined_148 ki_0 ?_
      refine g_goto (tgt := 155) hG dX4_joined_149 rfl ?_
      cases h
      exact K _ _ dX4_joined_155
    · refine g_if_ne (tgt := 152) hG dX4_joined_145 rfl (fun _ => ?_) (fun q => absurd q c2)
      refine g_iload_n hG dX4_joined_152 rfl ?_
      refine g_iload_n hG dX4_joined_153 rfl ?_
      obtain ⟨b3, h⟩ := gd_some h
      refine g_irm hG dX4_joined_154 (nz_ne b3) ?_
      cases h
      exact K _ _ dX4_joined_155
  ·
    rcases if_some h with ⟨c4, h⟩ | ⟨c4, h⟩
    · refine g_tabC (tgt := 189) (c := (38 : Int32)) hG c4 dX4_joined_1 (by decide) (by decide) rfl rfl ?_
      refine g_iload_n hG dX4_joined_189 rfl ?_
      refine g_dia1 (if x1 = 0 then (0 : Int32) else (if x2 = 0 then (0 : Int32) else (1 : Int32))) 202 (fun J5 => ?_) ?_
      · by_cases c6 : x1 = 0
        · refine g_if_eq (tgt := 201) hG dX4_joined_190 rfl (fun _ => ?_) (fun q => absurd c6 q)
          refine g_iconstv hG dX4_joined_201 ki_0 ?_
          rw [if_pos c6] at J5
          exact J5
        · refine g_if_eq (tgt := 201) hG dX4_joined_190 rfl (fun q => absurd q c6) (fun _ => ?_)
          refine g_iload_n hG dX4_joined_193 rfl ?_
          by_cases c7 : x2 = 0
          · refine g_if_eq (tgt := 201) hG dX4_joined_194 rfl (fun _ => ?_) (fun q => absurd c7 q)
            refine g_iconstv hG dX4_joined_201 ki_0 ?_
            rw [if_neg c6, if_pos c7] at J5
            exact J5
          · refine g_if_eq (tgt := 201) hG dX4_joined_194 rfl (fun q => absurd q c7) (fun _ => ?_)
            refine g_iconstv hG dX4_joined_197 ki_1 ?_
            refine g_goto (tgt := 202) hG dX4_joined_198 rfl ?_
            rw [if_neg c6, if_neg c7] at J5
            exact J5
      cases h
      exact K _ _ dX4_joined_202
    ·
      rcases if_some h with ⟨c8, h⟩ | ⟨c8, h⟩
      · refine g_tabC (tgt := 203) (c := (39 : Int32)) hG c8 dX4_joined_1 (by decide) (by decide) rfl rfl ?_
        refine g_loc hG [(1, .int x1), (2, .int x2)] ⟨rfl, rfl, trivial⟩ ?_
        exact s_N_L_joined_b203  hG K  h
      ·
        rcases if_some h with ⟨c12, h⟩ | ⟨c12, h⟩
        · refine g_tabC (tgt := 203) (c := (40 : Int32)) hG c12 dX4_joined_1 (by decide) (by decide) rfl rfl ?_
          refine g_loc hG [(1, .int x1), (2, .int x2)] ⟨rfl, rfl, trivial⟩ ?_
          exact s_N_L_joined_b203  hG K  h
        ·
          rcases if_some h with ⟨c13, h⟩ | ⟨c13, h⟩
          · refine g_tabC (tgt := 203) (c := (41 : Int32)) hG c13 dX4_joined_1 (by decide) (by decide) rfl rfl ?_
            refine g_loc hG [(1, .int x1), (2, .int x2)] ⟨rfl, rfl, trivial⟩ ?_
            exact s_N_L_joined_b203  hG K  h
          ·
            rcases if_some h with ⟨c14, h⟩ | ⟨c14, h⟩
            · refine g_tabC (tgt := 128) (c := (42 : Int32)) hG c14 dX4_joined_1 (by decide) (by decide) rfl rfl ?_
              refine g_iload_n hG dX4_joined_128 rfl ?_
              refine g_iload_n hG dX4_joined_129 rfl ?_
              refine g_imul hG dX4_joined_130 ?_
              cases h
              exact K _ _ dX4_joined_131
            ·
              rcases if_some h with ⟨c15, h⟩ | ⟨c15, h⟩
              · refine g_tabC (tgt := 120) (c := (43 : Int32)) hG c15 dX4_joined_1 (by decide) (by decide) rfl rfl ?_
                refine g_iload_n hG dX4_joined_120 rfl ?_
                refine g_iload_n hG dX4_joined_121 rfl ?_
                refine g_iadd hG dX4_joined_122 ?_
                cases h
                exact K _ _ dX4_joined_123
              ·
                rcases if_some h with ⟨c16, h⟩ | ⟨c16, h⟩
                · refine g_tabC (tgt := 203) (c := (44 : Int32)) hG c16 dX4_joined_1 (by decide) (by decide) rfl rfl ?_
                  refine g_loc hG [(1, .int x1), (2, .int x2)] ⟨rfl, rfl, trivial⟩ ?_
                  exact s_N_L_joined_b203  hG K  h
                ·
                  rcases if_some h with ⟨c17, h⟩ | ⟨c17, h⟩
                  · refine g_tabC (tgt := 124) (c := (45 : Int32)) hG c17 dX4_joined_1 (by decide) (by decide) rfl rfl ?_
                    refine g_iload_n hG dX4_joined_124 rfl ?_
                    refine g_iload_n hG dX4_joined_125 rfl ?_
                    refine g_isub hG dX4_joined_126 ?_
                    cases h
                    exact K _ _ dX4_joined_127
                  ·
                    rcases if_some h with ⟨c18, h⟩ | ⟨c18, h⟩
                    · refine g_tabC (tgt := 203) (c := (46 : Int32)) hG c18 dX4_joined_1 (by decide) (by decide) rfl rfl ?_
                      refine g_loc hG [(1, .int x1), (2, .int x2)] ⟨rfl, rfl, trivial⟩ ?_
                      exact s_N_L_joined_b203  hG K  h
                    ·
                      rcases if_some h with ⟨c19, h⟩ | ⟨c19, h⟩
                      · refine g_tabC (tgt := 132) (c := (47 : Int32)) hG c19 dX4_joined_1 (by decide) (by decide) rfl rfl ?_
                        refine g_iload_n hG dX4_joined_132 rfl ?_
                        rcases if_some h with ⟨c20, h⟩ | ⟨c20, h⟩
                        · refine g_if_ne (tgt := 140) hG dX4_joined_133 rfl (fun q => absurd c20 q) (fun _ => ?_)
                          refine g_iconstv hG dX4_joined_136 ki_0 ?_
                          refine g_goto (tgt := 143) hG dX4_joined_137 rfl ?_
                          cases h
                          exact K _ _ dX4_joined_143
                        · refine g_if_ne (tgt := 140) hG dX4_joined_133 rfl (fun _ => ?_) (fun q => absurd q c20)
                          refine g_iload_n hG dX4_joined_140 rfl ?_
                          refine g_iload_n hG dX4_joined_141 rfl ?_
                          obtain ⟨b21, h⟩ := gd_some h
                          refine g_idiv hG dX4_joined_142 (nz_ne b21) ?_
                          cases h
                          exact K _ _ dX4_joined_143
                      ·
                        rcases if_some h with ⟨c22, h⟩ | ⟨c22, h⟩
                        · refine g_tabC (tgt := 203) (c := (48 : Int32)) hG c22 dX4_joined_1 (by decide) (by decide) rfl rfl ?_
                          refine g_loc hG [(1, .int x1), (2, .int x2)] ⟨rfl, rfl, trivial⟩ ?_
                          exact s_N_L_joined_b203  hG K  h
                        ·
                          rcases if_some h with ⟨c23, h⟩ | ⟨c23, h⟩
                          · refine g_tabC (tgt := 203) (c := (49 : Int32)) hG c23 dX4_joined_1 (by decide) (by decide) rfl rfl ?_
                            refine g_loc hG [(1, .int x1), (2, .int x2)] ⟨rfl, rfl, trivial⟩ ?_
                            exact s_N_L_joined_b203  hG K  h
                          ·
                            rcases if_some h with ⟨c24, h⟩ | ⟨c24, h⟩
                            · refine g_tabC (tgt := 203) (c := (50 : Int32)) hG c24 dX4_joined_1 (by decide) (by decide) rfl rfl ?_
                              refine g_loc hG [(1, .int x1), (2, .int x2)] ⟨rfl, rfl, trivial⟩ ?_
                              exact s_N_L_joined_b203  hG K  h
                            ·
                              rcases if_some h with ⟨c25, h⟩ | ⟨c25, h⟩
                              · refine g_tabC (tgt := 203) (c := (51 : Int32)) hG c25 dX4_joined_1 (by decide) (by decide) rfl rfl ?_
                                refine g_loc hG [(1, .int x1), (2, .int x2)] ⟨rfl, rfl, trivial⟩ ?_
                                exact s_N_L_joined_b203  hG K  h
                              ·
                                rcases if_some h with ⟨c26, h⟩ | ⟨c26, h⟩
                                · refine g_tabC (tgt := 203) (c := (52 : Int32)) hG c26 dX4_joined_1 (by decide) (by decide) rfl rfl ?_
                                  refine g_loc hG [(1, .int x1), (2, .int x2)] ⟨rfl, rfl, trivial⟩ ?_
                                  exact s_N_L_joined_b203  hG K  h
                                ·
                                  rcases if_some h with ⟨c27, h⟩ | ⟨c27, h⟩
                                  · refine g_tabC (tgt := 203) (c := (53 : Int32)) hG c27 dX4_joined_1 (by decide) (by decide) rfl rfl ?_
                                    refine g_loc hG [(1, .int x1), (2, .int x2)] ⟨rfl, rfl, trivial⟩ ?_
                                    exact s_N_L_joined_b203  hG K  h
                                  ·
                                    rcases if_some h with ⟨c28, h⟩ | ⟨c28, h⟩
                                    · refine g_tabC (tgt := 203) (c := (54 : Int32)) hG c28 dX4_joined_1 (by decide) (by decide) rfl rfl ?_
                                      refine g_loc hG [(1, .int x1), (2, .int x2)] ⟨rfl, rfl, trivial⟩ ?_
                                      exact s_N_L_joined_b203  hG K  h
                                    ·
                                      rcases if_some h with ⟨c29, h⟩ | ⟨c29, h⟩
                                      · refine g_tabC (tgt := 203) (c := (55 : Int32)) hG c29 dX4_joined_1 (by decide) (by decide) rfl rfl ?_
                                        refine g_loc hG [(1, .int x1), (2, .int x2)] ⟨rfl, rfl, trivial⟩ ?_
                                        exact s_N_L_joined_b203  hG K  h
                                      ·
                                        rcases if_some h with ⟨c30, h⟩ | ⟨c30, h⟩
                                        · refine g_tabC (tgt := 203) (c := (56 : Int32)) hG c30 dX4_joined_1 (by decide) (by decide) rfl rfl ?_
                                          refine g_loc hG [(1, .int x1), (2, .int x2)] ⟨rfl, rfl, trivial⟩ ?_
                                          exact s_N_L_joined_b203  hG K  h
                                        ·
                                          rcases if_some h with ⟨c31, h⟩ | ⟨c31, h⟩
                                          · refine g_tabC (tgt := 203) (c := (57 : Int32)) hG c31 dX4_joined_1 (by decide) (by decide) rfl rfl ?_
                                            refine g_loc hG [(1, .int x1), (2, .int x2)] ⟨rfl, rfl, trivial⟩ ?_
                                            exact s_N_L_joined_b203  hG K  h
                                          ·
                                            rcases if_some h with ⟨c32, h⟩ | ⟨c32, h⟩
                                            · refine g_tabC (tgt := 203) (c := (58 : Int32)) hG c32 dX4_joined_1 (by decide) (by decide) rfl rfl ?_
                                              refine g_loc hG [(1, .int x1), (2, .int x2)] ⟨rfl, rfl, trivial⟩ ?_
                                              exact s_N_L_joined_b203  hG K  h
                                            ·
                                              rcases if_some h with ⟨c33, h⟩ | ⟨c33, h⟩
                                              · refine g_tabC (tgt := 203) (c := (59 : Int32)) hG c33 dX4_joined_1 (by decide) (by decide) rfl rfl ?_
                                                refine g_loc hG [(1, .int x1), (2, .int x2)] ⟨rfl, rfl, trivial⟩ ?_
                                                exact s_N_L_joined_b203  hG K  h
                                              ·
                                                rcases if_some h with ⟨c34, h⟩ | ⟨c34, h⟩
                                                · refine g_tabC (tgt := 156) (c := (60 : Int32)) hG c34 dX4_joined_1 (by decide) (by decide) rfl rfl ?_
                                                  refine g_iload_n hG dX4_joined_156 rfl ?_
                                                  refine g_iload_n hG dX4_joined_157 rfl ?_
                                                  refine g_dia2 (if x2 ≤ x1 then (0 : Int32) else (1 : Int32)) 166 (fun J35 => ?_) ?_
                                                  · by_cases c36 : x2 ≤ x1
                                                    · refine g_icmp_ge (tgt := 165) hG dX4_joined_158 rfl (fun _ => ?_) (fun q => absurd c36 q)
                                                      refine g_iconstv hG dX4_joined_165 ki_0 ?_
                                                      rw [if_pos c36] at J35
                                                      exact J35
                                                    · refine g_icmp_ge (tgt := 165) hG dX4_joined_158 rfl (fun q => absurd q c36) (fun _ => ?_)
                                                      refine g_iconstv hG dX4_joined_161 ki_1 ?_
                                                      refine g_goto (tgt := 166) hG dX4_joined_162 rfl ?_
                                                      rw [if_neg c36] at J35
                                                      exact J35
                                                  cases h
                                                  exact K _ _ dX4_joined_166
                                                ·
                                                  rcases if_some h with ⟨c37, h⟩ | ⟨c37, h⟩
                                                  · refine g_tabC (tgt := 167) (c := (61 : Int32)) hG c37 dX4_joined_1 (by decide) (by decide) rfl rfl ?_
                                                    refine g_iload_n hG dX4_joined_167 rfl ?_
                                                    refine g_iload_n hG dX4_joined_168 rfl ?_
                                                    refine g_dia2 (if x1 = x2 then (1 : Int32) else (0 : Int32)) 177 (fun J38 => ?_) ?_
                                                    · by_cases c39 : x1 = x2
                                                      · refine g_icmp_ne (tgt := 176) hG dX4_joined_169 rfl (fun q => absurd c39 q) (fun _ => ?_)
                                                        refine g_iconstv hG dX4_joined_172 ki_1 ?_
                                                        refine g_goto (tgt := 177) hG dX4_joined_173 rfl ?_
                                                        rw [if_pos c39] at J38
                                                        exact J38
                                                      · refine g_icmp_ne (tgt := 176) hG dX4_joined_169 rfl (fun _ => ?_) (fun q => absurd q c39)
                                                        refine g_iconstv hG dX4_joined_176 ki_0 ?_
                                                        rw [if_neg c39] at J38
                                                        exact J38
                                                    cases h
                                                    exact K _ _ dX4_joined_177
                                                  ·
                                                    rcases if_some h with ⟨c40, h⟩ | ⟨c40, h⟩
                                                    · refine g_tabC (tgt := 178) (c := (62 : Int32)) hG c40 dX4_joined_1 (by decide) (by decide) rfl rfl ?_
                                                      refine g_iload_n hG dX4_joined_178 rfl ?_
                                                      refine g_iload_n hG dX4_joined_179 rfl ?_
                                                      refine g_dia2 (if x1 ≤ x2 then (0 : Int32) else (1 : Int32)) 188 (fun J41 => ?_) ?_
                                                      · by_cases c42 : x1 ≤ x2
                                                        · refine g_icmp_le (tgt := 187) hG dX4_joined_180 rfl (fun _ => ?_) (fun q => absurd c42 q)
                                                          refine g_iconstv hG dX4_joined_187 ki_0 ?_
                                                          rw [if_pos c42] at J41
                                                          exact J41
                                                        · refine g_icmp_le (tgt := 187) hG dX4_joined_180 rfl (fun q => absurd q c42) (fun _ => ?_)
                                                          refine g_iconstv hG dX4_joined_183 ki_1 ?_
                                                          refine g_goto (tgt := 188) hG dX4_joined_184 rfl ?_
                                                          rw [if_neg c42] at J41
                                                          exact J41
                                                      cases h
                                                      exact K _ _ dX4_joined_188
                                                    ·
                                                      refine g_tableOut (tgt := 203) hG dX4_joined_1 (by have n0 := i32ne c1 (n := 37) (by decide); have n1 := i32ne c4 (n := 38) (by decide); have n2 := i32ne c8 (n := 39) (by decide); have n3 := i32ne c12 (n := 40) (by decide); have n4 := i32ne c13 (n := 41) (by decide); have n5 := i32ne c14 (n := 42) (by decide); have n6 := i32ne c15 (n := 43) (by decide); have n7 := i32ne c16 (n := 44) (by decide); have n8 := i32ne c17 (n := 45) (by decide); have n9 := i32ne c18 (n := 46) (by decide); have n10 := i32ne c19 (n := 47) (by decide); have n11 := i32ne c22 (n := 48) (by decide); have n12 := i32ne c23 (n := 49) (by decide); have n13 := i32ne c24 (n := 50) (by decide); have n14 := i32ne c25 (n := 51) (by decide); have n15 := i32ne c26 (n := 52) (by decide); have n16 := i32ne c27 (n := 53) (by decide); have n17 := i32ne c28 (n := 54) (by decide); have n18 := i32ne c29 (n := 55) (by decide); have n19 := i32ne c30 (n := 56) (by decide); have n20 := i32ne c31 (n := 57) (by decide); have n21 := i32ne c32 (n := 58) (by decide); have n22 := i32ne c33 (n := 59) (by decide); have n23 := i32ne c34 (n := 60) (by decide); have n24 := i32ne c37 (n := 61) (by decide); have n25 := i32ne c40 (n := 62) (by decide); omega) rfl ?_
                                                      refine g_loc hG [(1, .int x1), (2, .int x2)] ⟨rfl, rfl, trivial⟩ ?_
                                                      exact s_N_L_joined_b203  hG K  h
def N_L_withoutText (j : Nat) (x1 : Int32) (x2 : Int32) (σ : CS) : Option (Int32 × CS) := (gd (decide (j < σ.2.2 7 0)) (if (σ.1 (j + 8) 0) = 0 then (some ((3 : Int32), σ)) else (some ((if x1 = 0 then (if x2 = (1 : Int32) then (1 : Int32) else (if x1 = (1 : Int32) then (if x2 = (4 : Int32) then (1 : Int32) else (0 : Int32)) else (0 : Int32))) else (if x1 = (1 : Int32) then (if x2 = (4 : Int32) then (1 : Int32) else (0 : Int32)) else (0 : Int32))), σ))))
set_option maxRecDepth 100000 in
set_option maxHeartbeats 4000000 in
theorem c_N_L_withoutText {g : GP} {l : Launch} {A : Nat → Nat → Nat} {X : va_W} {v9 : Int32} {s9 : CS} {j : Nat} {x1 : Int32} {x2 : Int32} {σ : CS} (h : N_L_withoutText j x1 x2 σ = some (v9, s9)) : CI g l yX4_withoutText cX4_withoutText 3 (some .int) { frames := 0, cells := 0, slots := 0, locals := 0 } [.ref (A (j + 8) 99), .int x1, .int x2] (wC g A σ X) (fun r0 w => r0 = v9 ∧ w = wC g A s9 X) := by
  refine CI.mk (by decide) (Nat.le_of_ble_eq_true rfl) (fun G hG hret => ?_)
  have K : ∀ L pc, decode cX4_withoutText pc = .ok (.ireturn, 1) → G 0 0 (wC g A s9 X) L pc [.int v9] := fun L pc d => hret _ L pc v9 d rfl ⟨rfl, rfl⟩
  unfold N_L_withoutText at h
  refine g_aload_n hG dX4_withoutText_0 rfl ?_
  obtain ⟨b1, h⟩ := gd_some h
  refine g_get (f := 0) hG dX4_withoutText_1 (wC_law g A _ X _ (of_decide_eq_true b1)).1 rfl inX4 (by decide) rfl f_X4_9 rfl ?_
  rcases if_some h with ⟨c2, h⟩ | ⟨c2, h⟩
  · refine g_if_ne (tgt := 9) hG dX4_withoutText_4 rfl (fun q => absurd c2 q) (fun _ => ?_)
    refine g_iconstv hG dX4_withoutText_7 ki_3 ?_
    cases h
    exact K _ _ dX4_withoutText_8
  · refine g_if_ne (tgt := 9) hG dX4_withoutText_4 rfl (fun _ => ?_) (fun q => absurd q c2)
    refine g_iload_n hG dX4_withoutText_9 rfl ?_
    refine g_dia1 (if x1 = 0 then (if x2 = (1 : Int32) then (1 : Int32) else (if x1 = (1 : Int32) then (if x2 = (4 : Int32) then (1 : Int32) else (0 : Int32)) else (0 : Int32))) else (if x1 = (1 : Int32) then (if x2 = (4 : Int32) then (1 : Int32) else (0 : Int32)) else (0 : Int32))) 33 (fun J3 => ?_) ?_
    · by_cases c4 : x1 = 0
      · refine g_if_ne (tgt := 18) hG dX4_withoutText_10 rfl (fun q => absurd c4 q) (fun _ => ?_)
        refine g_iload_n hG dX4_withoutText_13 rfl ?_
        refine g_iconstv hG dX4_withoutText_14 ki_1 ?_
        by_cases c5 : x2 = (1 : Int32)
        · refine g_icmp_eq (tgt := 28) hG dX4_withoutText_15 rfl (fun _ => ?_) (fun q => absurd c5 q)
          refine g_iconstv hG dX4_withoutText_28 ki_1 ?_
          refine g_goto (tgt := 33) hG dX4_withoutText_29 rfl ?_
          rw [if_pos c4, if_pos c5] at J3
          exact J3
        · refine g_icmp_eq (tgt := 28) hG dX4_withoutText_15 rfl (fun q => absurd q c5) (fun _ => ?_)
          refine g_iload_n hG dX4_withoutText_18 rfl ?_
          refine g_iconstv hG dX4_withoutText_19 ki_1 ?_
          by_cases c6 : x1 = (1 : Int32)
          · refine g_icmp_ne (tgt := 32) hG dX4_withoutText_20 rfl (fun q => absurd c6 q) (fun _ => ?_)
            refine g_iload_n hG dX4_withoutText_23 rfl ?_
            refine g_iconstv hG dX4_withoutText_24 ki_4 ?_
            by_cases c7 : x2 = (4 : Int32)
            · refine g_icmp_ne (tgt := 32) hG dX4_withoutText_25 rfl (fun q => absurd c7 q) (fun _ => ?_)
              refine g_iconstv hG dX4_withoutText_28 ki_1 ?_
              refine g_goto (tgt := 33) hG dX4_withoutText_29 rfl ?_
              rw [if_pos c4, if_neg c5, if_pos c6, if_pos c7] at J3
              exact J3
            · refine g_icmp_ne (tgt := 32) hG dX4_withoutText_25 rfl (fun _ => ?_) (fun q => absurd q c7)
              refine g_iconstv hG dX4_withoutText_32 ki_0 ?_
              rw [if_pos c4, if_neg c5, if_pos c6, if_neg c7] at J3
              exact J3
          · refine g_icmp_ne (tgt := 32) hG dX4_withoutText_20 rfl (fun _ => ?_) (fun q => absurd q c6)
            refine g_iconstv hG dX4_withoutText_32 ki_0 ?_
            rw [if_pos c4, if_neg c5, if_neg c6] at J3
            exact J3
      · refine g_if_ne (tgt := 18) hG dX4_withoutText_10 rfl (fun _ => ?_) (fun q => absurd q c4)
        refine g_iload_n hG dX4_withoutText_18 rfl ?_
        refine g_iconstv hG dX4_withoutText_19 ki_1 ?_
        by_cases c8 : x1 = (1 : Int32)
        · refine g_icmp_ne (tgt := 32) hG dX4_withoutText_20 rfl (fun q => absurd c8 q) (fun _ => ?_)
          refine g_iload_n hG dX4_withoutText_23 rfl ?_
          refine g_iconstv hG dX4_withoutText_24 ki_4 ?_
          by_cases c9 : x2 = (4 : Int32)
          · refine g_icmp_ne (tgt := 32) hG dX4_withoutText_25 rfl (fun q => absurd c9 q) (fun _ => ?_)
            refine g_iconstv hG dX4_withoutText_28 ki_1 ?_
            refine g_goto (tgt := 33) hG dX4_withoutText_29 rfl ?_
            rw [if_neg c4, if_pos c8, if_pos c9] at J3
            exact J3
          · refine g_icmp_ne (tgt := 32) hG dX4_withoutText_25 rfl (fun _ => ?_) (fun q => absurd q c9)
            refine g_iconstv hG dX4_withoutText_32 ki_0 ?_
            rw [if_neg c4, if_pos c8, if_neg c9] at J3
            exact J3
        · refine g_icmp_ne (tgt := 32) hG dX4_withoutText_20 rfl (fun _ => ?_) (fun q => absurd q c8)
          refine g_iconstv hG dX4_withoutText_32 ki_0 ?_
          rw [if_neg c4, if_neg c8] at J3
          exact J3
    cases h
    exact K _ _ dX4_withoutText_33
def N_L_give_b184 (j : Nat) (ag21 : Int32 → Int32 → Int32 → Int32 → Int32 → CS → Option (Int32 × CS)) (x1 : Int32) (x2 : Int32) (x3 : Int32) (x4 : Int32) (x5 : Int32) (σ : CS) : Option (Int32 × CS) := (ag21 x1 x2 x3 x4 (x5 + (1 : Int32)) σ)
set_option maxRecDepth 100000 in
set_option maxHeartbeats 4000000 in
theorem s_N_L_give_b184 {g : GP} {l : Launch} {A : Nat → Nat → Nat} {X : va_W} {G : GT} {v9 : Int32} {s9 : CS} {j : Nat} (hG : IsG g l yX4_give cX4_give 7 { frames := 1, cells := 0, slots := 0, locals := 64 } G) (K : ∀ L pc, decode cX4_give pc = .ok (.ireturn, 1) → G 0 0 (wC g A s9 X) L pc [.int v9]) {ag21 : Int32 → Int32 → Int32 → Int32 → Int32 → CS → Option (Int32 × CS)} (hag21 : ∀ (x1 : Int32) (x2 : Int32) (x3 : Int32) (x4 : Int32) (x5 : Int32) (σ : CS), ag21 x1 x2 x3 x4 x5 σ = some (v9, s9) → G 0 0 (wC g A σ X) [(0, .ref (A (j + 8) 99)), (1, .int x1), (2, .int x2), (3, .int x3), (4, .int x4), (5, .int x5)] 21 []) {x1 : Int32} {x2 : Int32} {x3 : Int32} {x4 : Int32} {x5 : Int32} {σ : CS} (h : N_L_give_b184 j ag21 x1 x2 x3 x4 x5 σ = some (v9, s9)) : G 0 0 (wC g A σ X) [(0, .ref (A (j + 8) 99)), (1, .int x1), (2, .int x2), (3, .int x3), (4, .int x4), (5, .int x5)] 184 [] := by
  unfold N_L_give_b184 at h
  refine g_iincv (c := (1 : Int32)) hG dX4_give_184 rfl (by decide) (by decide) ?_
  refine g_goto (tgt := 21) hG dX4_give_187 rfl ?_
  refine g_loc hG [(0, .ref (A (j + 8) 99)), (1, .int x1), (2, .int x2), (3, .int x3), (4, .int x4), (5, .int (x5 + (1 : Int32)))] ⟨rfl, rfl, rfl, rfl, rfl, rfl, trivial⟩ ?_
  exact hag21 _ _ _ _ _ _ h
def N_L_give_b144 (j : Nat) (ag21 : Int32 → Int32 → Int32 → Int32 → Int32 → CS → Option (Int32 × CS)) (x1 : Int32) (x2 : Int32) (x3 : Int32) (x4 : Int32) (x5 : Int32) (x6 : Int32) (σ : CS) : Option (Int32 × CS) := (if x4 < (2 : Int32) then (N_L_give_b184 j ag21 x1 x2 x3 x4 x5 σ) else (gd (decide (j < σ.2.2 7 0)) (gd (decide (j < σ.2.2 7 0)) (gd (decide (j < σ.2.2 7 0)) (gd (inb ((x4 + (-1 : Int32)) - (1 : Int32)) (σ.2.2 (j + 8) 0)) (gd (decide (j < σ.2.2 7 0)) (gd (decide (j < σ.2.2 7 0)) (gd (inb (x4 + (-1 : Int32)) (σ.2.2 (j + 8) 0)) (ob (N_L_joined (-x6) (σ.2.1 (j + 8) 2 (ix ((x4 + (-1 : Int32)) - (1 : Int32)))) (σ.2.1 (j + 8) 2 (ix (x4 + (-1 : Int32)))) σ) fun v33 σ34 => (gd (decide (j < σ34.2.2 7 0)) (gd (inb ((x4 + (-1 : Int32)) - (1 : Int32)) (σ34.2.2 (j + 8) 0)) (lt (sa σ34 (j + 8) 2 (upd (σ34.2.1 (j + 8) 2) (ix ((x4 + (-1 : Int32)) - (1 : Int32))) v33)) fun σ36 => (N_L_give_b184 j ag21 x1 x2 x3 (x4 + (-1 : Int32)) x5 σ36)))))))))))))
set_option maxRecDepth 100000 in
set_option maxHeartbeats 4000000 in
theorem s_N_L_give_b144 {g : GP} {l : Launch} {A : Nat → Nat → Nat} {X : va_W} {G : GT} {v9 : Int32} {s9 : CS} {j : Nat} (hG : IsG g l yX4_give cX4_give 7 { frames := 1, cells := 0, slots := 0, locals := 64 } G) (K : ∀ L pc, decode cX4_give pc = .ok (.ireturn, 1) → G 0 0 (wC g A s9 X) L pc [.int v9]) {ag21 : Int32 → Int32 → Int32 → Int32 → Int32 → CS → Option (Int32 × CS)} (hag21 : ∀ (x1 : Int32) (x2 : Int32) (x3 : Int32) (x4 : Int32) (x5 : Int32) (σ : CS), ag21 x1 x2 x3 x4 x5 σ = some (v9, s9) → G 0 0 (wC g A σ X) [(0, .ref (A (j + 8) 99)), (1, .int x1), (2, .int x2), (3, .int x3), (4, .int x4), (5, .int x5)] 21 []) {x1 : Int32} {x2 : Int32} {x3 : Int32} {x4 : Int32} {x5 : Int32} {x6 : Int32} {σ : CS} (h : N_L_give_b144 j ag21 x1 x2 x3 x4 x5 x6 σ = some (v9, s9)) : G 0 0 (wC g A σ X) [(0, .ref (A (j + 8) 99)), (1, .int x1), (2, .int x2), (3, .int x3), (4, .int x4), (5, .int x5), (6, .int x6)] 144 [] := by
  unfold N_L_give_b144 at h
  refine g_iload hG dX4_give_144 rfl ?_
  refine g_iconstv hG dX4_give_146 ki_2 ?_
  rcases if_some h with ⟨c25, h⟩ | ⟨c25, h⟩
  · refine g_icmp_lt (tgt := 184) hG dX4_give_147 rfl (fun _ => ?_) (fun q => absurd c25 q)
    refine g_loc hG [(0, .ref (A (j + 8) 99)), (1, .int x1), (2, .int x2), (3, .int x3), (4, .int x4), (5, .int x5)] ⟨rfl, rfl, rfl, rfl, rfl, rfl, trivial⟩ ?_
    exact s_N_L_give_b184  hG K hag21 h
  · refine g_icmp_lt (tgt := 184) hG dX4_give_147 rfl (fun q => absurd q c25) (fun _ => ?_)
    refine g_iincv (c := (-1 : Int32)) hG dX4_give_150 rfl (by decide) (by decide) ?_
    refine g_aload_n hG dX4_give_153 rfl ?_
    obtain ⟨b26, h⟩ := gd_some h
    refine g_get (f := 2) hG dX4_give_154 (wC_law g A _ X _ (of_decide_eq_true b26)).1 rfl inX4 (by decide) rfl f_X4_19 rfl ?_
    refine g_iload hG dX4_give_157 rfl ?_
    refine g_iconstv hG dX4_give_159 ki_1 ?_
    refine g_isub hG dX4_give_160 ?_
    refine g_iload hG dX4_give_161 rfl ?_
    refine g_ineg hG dX4_give_163 ?_
    refine g_aload_n hG dX4_give_164 rfl ?_
    obtain ⟨b27, h⟩ := gd_some h
    refine g_get (f := 2) hG dX4_give_165 (wC_law g A _ X _ (of_decide_eq_true b27)).1 rfl inX4 (by decide) rfl f_X4_19 rfl ?_
    refine g_iload hG dX4_give_168 rfl ?_
    refine g_iconstv hG dX4_give_170 ki_1 ?_
    refine g_isub hG dX4_give_171 ?_
    obtain ⟨b28, h⟩ := gd_some h
    obtain ⟨b29, h⟩ := gd_some h
    refine l_iald2 hG (of_decide_eq_true b28) dX4_give_172 b29 rfl ?_
    refine g_aload_n hG dX4_give_173 rfl ?_
    obtain ⟨b30, h⟩ := gd_some h
    refine g_get (f := 2) hG dX4_give_174 (wC_law g A _ X _ (of_decide_eq_true b30)).1 rfl inX4 (by decide) rfl f_X4_19 rfl ?_
    refine g_iload hG dX4_give_177 rfl ?_
    obtain ⟨b31, h⟩ := gd_some h
    obtain ⟨b32, h⟩ := gd_some h
    refine l_iald2 hG (of_decide_eq_true b31) dX4_give_179 b32 rfl ?_
    obtain ⟨v33, σ34, q35, h⟩ := ob_some h
    refine g_cS hG dX4_give_180 (c_N_L_joined q35) b_X4_joined v_X4_26 rfl ⟨Nat.le_of_ble_eq_true rfl, Nat.le_of_ble_eq_true rfl⟩ ⟨rfl, rfl⟩ ⟨Nat.zero_le _, Nat.zero_le _⟩ _ rfl (Nat.le_of_ble_eq_true rfl) ?_
    obtain ⟨b38, h⟩ := gd_some h
    obtain ⟨b39, h⟩ := gd_some h
    obtain ⟨σ36, e37, h⟩ := lt_ex h
    refine l_iast2 hG (of_decide_eq_true b38) e37 dX4_give_183 b39 rfl ?_
    refine g_loc hG [(0, .ref (A (j + 8) 99)), (1, .int x1), (2, .int x2), (3, .int x3), (4, .int (x4 + (-1 : Int32))), (5, .int x5)] ⟨rfl, rfl, rfl, rfl, rfl, rfl, trivial⟩ ?_
    exact s_N_L_give_b184  hG K hag21 h
def N_L_give_b102 (j : Nat) (ag21 : Int32 → Int32 → Int32 → Int32 → Int32 → CS → Option (Int32 × CS)) (x1 : Int32) (x2 : Int32) (x3 : Int32) (x4 : Int32) (x5 : Int32) (x6 : Int32) (σ : CS) : Option (Int32 × CS) := (if x6 = (-33 : Int32) then (if x4 < (1 : Int32) then (N_L_give_b144 j ag21 x1 x2 x3 x4 x5 x6 σ) else (gd (decide (j < σ.2.2 7 0)) (gd (decide (j < σ.2.2 7 0)) (gd (decide (j < σ.2.2 7 0)) (gd (inb (x4 - (1 : Int32)) (σ.2.2 (j + 8) 0)) (gd (decide (j < σ.2.2 7 0)) (gd (inb (x4 - (1 : Int32)) (σ.2.2 (j + 8) 0)) (lt (sa σ (j + 8) 2 (upd (σ.2.1 (j + 8) 2) (ix (x4 - (1 : Int32))) (if (σ.2.1 (j + 8) 2 (ix (x4 - (1 : Int32)))) = 0 then (1 : Int32) else (0 : Int32)))) fun σ46 => (N_L_give_b184 j ag21 x1 x2 x3 x4 x5 σ46))))))))) else (N_L_give_b144 j ag21 x1 x2 x3 x4 x5 x6 σ))
set_option maxRecDepth 100000 in
set_option maxHeartbeats 4000000 in
theorem s_N_L_give_b102 {g : GP} {l : Launch} {A : Nat → Nat → Nat} {X : va_W} {G : GT} {v9 : Int32} {s9 : CS} {j : Nat} (hG : IsG g l yX4_give cX4_give 7 { frames := 1, cells := 0, slots := 0, locals := 64 } G) (K : ∀ L pc, decode cX4_give pc = .ok (.ireturn, 1) → G 0 0 (wC g A s9 X) L pc [.int v9]) {ag21 : Int32 → Int32 → Int32 → Int32 → Int32 → CS → Option (Int32 × CS)} (hag21 : ∀ (x1 : Int32) (x2 : Int32) (x3 : Int32) (x4 : Int32) (x5 : Int32) (σ : CS), ag21 x1 x2 x3 x4 x5 σ = some (v9, s9) → G 0 0 (wC g A σ X) [(0, .ref (A (j + 8) 99)), (1, .int x1), (2, .int x2), (3, .int x3), (4, .int x4), (5, .int x5)] 21 []) {x1 : Int32} {x2 : Int32} {x3 : Int32} {x4 : Int32} {x5 : Int32} {x6 : Int32} {σ : CS} (h : N_L_give_b102 j ag21 x1 x2 x3 x4 x5 x6 σ = some (v9, s9)) : G 0 0 (wC g A σ X) [(0, .ref (A (j + 8) 99)), (1, .int x1), (2, .int x2), (3, .int x3), (4, .int x4), (5, .int x5), (6, .int x6)] 102 [] := by
  unfold N_L_give_b102 at h
  refine g_iload hG dX4_give_102 rfl ?_
  refine g_bipushv hG dX4_give_104 kb_m33 ?_
  rcases if_some h with ⟨c23, h⟩ | ⟨c23, h⟩
  · refine g_icmp_ne (tgt := 144) hG dX4_give_106 rfl (fun q => absurd c23 q) (fun _ => ?_)
    refine g_iload hG dX4_give_109 rfl ?_
    refine g_iconstv hG dX4_give_111 ki_1 ?_
    rcases if_some h with ⟨c24, h⟩ | ⟨c24, h⟩
    · refine g_icmp_lt (tgt := 144) hG dX4_give_112 rfl (fun _ => ?_) (fun q => absurd c24 q)
      refine g_loc hG [(0, .ref (A (j + 8) 99)), (1, .int x1), (2, .int x2), (3, .int x3), (4, .int x4), (5, .int x5), (6, .int x6)] ⟨rfl, rfl, rfl, rfl, rfl, rfl, rfl, trivial⟩ ?_
      exact s_N_L_give_b144  hG K hag21 h
    · refine g_icmp_lt (tgt := 144) hG dX4_give_112 rfl (fun q => absurd q c24) (fun _ => ?_)
      refine g_aload_n hG dX4_give_115 rfl ?_
      obtain ⟨b40, h⟩ := gd_some h
      refine g_get (f := 2) hG dX4_give_116 (wC_law g A _ X _ (of_decide_eq_true b40)).1 rfl inX4 (by decide) rfl f_X4_19 rfl ?_
      refine g_iload hG dX4_give_119 rfl ?_
      refine g_iconstv hG dX4_give_121 ki_1 ?_
      refine g_isub hG dX4_give_122 ?_
      refine g_aload_n hG dX4_give_123 rfl ?_
      obtain ⟨b41, h⟩ := gd_some h
      refine g_get (f := 2) hG dX4_give_124 (wC_law g A _ X _ (of_decide_eq_true b41)).1 rfl inX4 (by decide) rfl f_X4_19 rfl ?_
      refine g_iload hG dX4_give_127 rfl ?_
      refine g_iconstv hG dX4_give_129 ki_1 ?_
      refine g_isub hG dX4_give_130 ?_
      obtain ⟨b42, h⟩ := gd_some h
      obtain ⟨b43, h⟩ := gd_some h
      refine l_iald2 hG (of_decide_eq_true b42) dX4_give_131 b43 rfl ?_
      refine g_dia1 (if (σ.2.1 (j + 8) 2 (ix (x4 - (1 : Int32)))) = 0 then (1 : Int32) else (0 : Int32)) 140 (fun J44 => ?_) ?_
      · by_cases c45 : (σ.2.1 (j + 8) 2 (ix (x4 - (1 : Int32)))) = 0
        · refine g_if_ne (tgt := 139) hG dX4_give_132 rfl (fun q => absurd c45 q) (fun _ => ?_)
          refine g_iconstv hG dX4_give_135 ki_1 ?_
          refine g_goto (tgt := 140) hG dX4_give_136 rfl ?_
          rw [if_pos c45] at J44
          exact J44
        · refine g_if_ne (tgt := 139) hG dX4_give_132 rfl (fun _ => ?_) (fun q => absurd q c45)
          refine g_iconstv hG dX4_give_139 ki_0 ?_
          rw [if_neg c45] at J44
          exact J44
      obtain ⟨b48, h⟩ := gd_some h
      obtain ⟨b49, h⟩ := gd_some h
      obtain ⟨σ46, e47, h⟩ := lt_ex h
      refine l_iast2 hG (of_decide_eq_true b48) e47 dX4_give_140 b49 rfl ?_
      refine g_goto (tgt := 184) hG dX4_give_141 rfl ?_
      refine g_loc hG [(0, .ref (A (j + 8) 99)), (1, .int x1), (2, .int x2), (3, .int x3), (4, .int x4), (5, .int x5)] ⟨rfl, rfl, rfl, rfl, rfl, rfl, trivial⟩ ?_
      exact s_N_L_give_b184  hG K hag21 h
  · refine g_icmp_ne (tgt := 144) hG dX4_give_106 rfl (fun _ => ?_) (fun q => absurd q c23)
    refine g_loc hG [(0, .ref (A (j + 8) 99)), (1, .int x1), (2, .int x2), (3, .int x3), (4, .int x4), (5, .int x5), (6, .int x6)] ⟨rfl, rfl, rfl, rfl, rfl, rfl, rfl, trivial⟩ ?_
    exact s_N_L_give_b144  hG K hag21 h
def N_L_give_b21 (j : Nat) : Nat → Int32 → Int32 → Int32 → Int32 → Int32 → CS → Option (Int32 × CS)
  | 0, _, _, _, _, _, _ => none
  | n + 1, x1, x2, x3, x4, x5, σ => (gd (decide (j < σ.2.2 7 0)) (gd (decide (j < σ.2.2 7 0)) (if (Int32.ofNat (σ.2.2 (j + 8) 0)) ≤ x5 then (gd (decide (j < σ.2.2 7 0)) (gd (decide (j < σ.2.2 7 0)) (gd (decide (j < σ.2.2 7 0)) (gd (inb (0 : Int32) (σ.2.2 (j + 8) 0)) (some ((if (0 : Int32) < (if (σ.2.1 (j + 8) 2 0) < (if (σ.1 (j + 8) 0) = 0 then (99 : Int32) else (1 : Int32)) then (σ.2.1 (j + 8) 2 0) else (if (σ.1 (j + 8) 0) = 0 then (99 : Int32) else (1 : Int32))) then (if (σ.2.1 (j + 8) 2 0) < (if (σ.1 (j + 8) 0) = 0 then (99 : Int32) else (1 : Int32)) then (σ.2.1 (j + 8) 2 0) else (if (σ.1 (j + 8) 0) = 0 then (99 : Int32) else (1 : Int32))) else (0 : Int32)), σ)))))) else (gd (decide (j < σ.2.2 7 0)) (gd (decide (j < σ.2.2 7 0)) (gd (inb x5 (σ.2.2 (j + 8) 0)) (lt (σ.2.1 (j + 8) 1 (ix x5)) fun v20 => (if v20 < (-3 : Int32) then (N_L_give_b102 j (N_L_give_b21 j  n) x1 x2 x3 x4 x5 v20 σ) else (gd (decide (j < σ.2.2 7 0)) (gd (decide (j < σ.2.2 7 0)) (if (Int32.ofNat (σ.2.2 (j + 8) 0)) ≤ x4 then (N_L_give_b102 j (N_L_give_b21 j  n) x1 x2 x3 x4 x5 v20 σ) else (gd (decide (j < σ.2.2 7 0)) (gd (decide (j < σ.2.2 7 0)) (gd (inb x4 (σ.2.2 (j + 8) 0)) (lt (sa σ (j + 8) 2 (upd (σ.2.1 (j + 8) 2) (ix x4) (if v20 < 0 then (if v20 = (-1 : Int32) then x1 else (if v20 = (-2 : Int32) then x2 else x3)) else v20))) fun σ58 => (N_L_give_b184 j (N_L_give_b21 j  n) x1 x2 x3 (x4 + (1 : Int32)) x5 σ58))))))))))))))))
set_option maxRecDepth 100000 in
set_option maxHeartbeats 4000000 in
theorem s_N_L_give_b21 {g : GP} {l : Launch} {A : Nat → Nat → Nat} {X : va_W} {G : GT} {v9 : Int32} {s9 : CS} {j : Nat} (hG : IsG g l yX4_give cX4_give 7 { frames := 1, cells := 0, slots := 0, locals := 64 } G) (K : ∀ L pc, decode cX4_give pc = .ok (.ireturn, 1) → G 0 0 (wC g A s9 X) L pc [.int v9]) : ∀ (n : Nat) (x1 : Int32) (x2 : Int32) (x3 : Int32) (x4 : Int32) (x5 : Int32) (σ : CS) (h : N_L_give_b21 j  n x1 x2 x3 x4 x5 σ = some (v9, s9)), G 0 0 (wC g A σ X) [(0, .ref (A (j + 8) 99)), (1, .int x1), (2, .int x2), (3, .int x3), (4, .int x4), (5, .int x5)] 21 [] := by
  intro n
  induction n with
  | zero => intro _ _ _ _ _ σ h; cases h
  | succ n ih =>
    intro x1 x2 x3 x4 x5 σ h
    unfold N_L_give_b21 at h
    refine g_iload hG dX4_give_21 rfl ?_
    refine g_aload_n hG dX4_give_23 rfl ?_
    obtain ⟨b8, h⟩ := gd_some h
    refine g_get (f := 1) hG dX4_give_24 (wC_law g A _ X _ (of_decide_eq_true b8)).1 rfl inX4 (by decide) rfl f_X4_15 rfl ?_
    obtain ⟨b9, h⟩ := gd_some h
    refine l_alen1 hG (of_decide_eq_true b9) dX4_give_27 ?_
    rcases if_some h with ⟨c10, h⟩ | ⟨c10, h⟩
    · refine g_icmp_ge (tgt := 190) hG dX4_give_28 rfl (fun _ => ?_) (fun q => absurd c10 q)
      refine g_iconstv hG dX4_give_190 ki_0 ?_
      refine g_aload_n hG dX4_give_191 rfl ?_
      obtain ⟨b11, h⟩ := gd_some h
      refine g_get (f := 0) hG dX4_give_192 (wC_law g A _ X _ (of_decide_eq_true b11)).1 rfl inX4 (by decide) rfl f_X4_9 rfl ?_
      refine g_dia1 (if (σ.1 (j + 8) 0) = 0 then (99 : Int32) else (1 : Int32)) 204 (fun J12 => ?_) ?_
      · by_cases c13 : (σ.1 (j + 8) 0) = 0
        · refine g_if_ne (tgt := 203) hG dX4_give_195 rfl (fun q => absurd c13 q) (fun _ => ?_)
          refine g_bipushv hG dX4_give_198 kb_99 ?_
          refine g_goto (tgt := 204) hG dX4_give_200 rfl ?_
          rw [if_pos c13] at J12
          exact J12
        · refine g_if_ne (tgt := 203) hG dX4_give_195 rfl (fun _ => ?_) (fun q => absurd q c13)
          refine g_iconstv hG dX4_give_203 ki_1 ?_
          rw [if_neg c13] at J12
          exact J12
      refine g_aload_n hG dX4_give_204 rfl ?_
      obtain ⟨b14, h⟩ := gd_some h
      refine g_get (f := 2) hG dX4_give_205 (wC_law g A _ X _ (of_decide_eq_true b14)).1 rfl inX4 (by decide) rfl f_X4_19 rfl ?_
      refine g_iconstv hG dX4_give_208 ki_0 ?_
      obtain ⟨b15, h⟩ := gd_some h
      obtain ⟨b16, h⟩ := gd_some h
      refine l_iald2 hG (of_decide_eq_true b15) dX4_give_209 b16 (by decide : Int32.toNatClampNeg (0 : Int32) = 0) ?_
      refine g_min hG dX4_give_210 v_X4_30 st_min in_Math co_min (Nat.le_of_ble_eq_true rfl) (Nat.le_of_ble_eq_true rfl) (Nat.zero_le _) (Nat.zero_le _) ?_
      refine g_max hG dX4_give_213 v_X4_35 st_max in_Math co_max (Nat.le_of_ble_eq_true rfl) (Nat.le_of_ble_eq_true rfl) (Nat.zero_le _) (Nat.zero_le _) ?_
      cases h
      exact K _ _ dX4_give_216
    · refine g_icmp_ge (tgt := 190) hG dX4_give_28 rfl (fun q => absurd q c10) (fun _ => ?_)
      refine g_aload_n hG dX4_give_31 rfl ?_
      obtain ⟨b17, h⟩ := gd_some h
      refine g_get (f := 1) hG dX4_give_32 (wC_law g A _ X _ (of_decide_eq_true b17)).1 rfl inX4 (by decide) rfl f_X4_15 rfl ?_
      refine g_iload hG dX4_give_35 rfl ?_
      obtain ⟨b18, h⟩ := gd_some h
      obtain ⟨b19, h⟩ := gd_some h
      refine l_iald1 hG (of_decide_eq_true b18) dX4_give_37 b19 rfl ?_
      obtain ⟨v20, e21, h⟩ := lt_ex h
      refine g_nam e21 ?_
      refine g_istore hG dX4_give_38 (by decide) ?_
      refine g_iload hG dX4_give_40 rfl ?_
      refine g_bipushv hG dX4_give_42 kb_m3 ?_
      rcases if_some h with ⟨c22, h⟩ | ⟨c22, h⟩
      · refine g_icmp_lt (tgt := 102) hG dX4_give_44 rfl (fun _ => ?_) (fun q => absurd c22 q)
        refine g_loc hG [(0, .ref (A (j + 8) 99)), (1, .int x1), (2, .int x2), (3, .int x3), (4, .int x4), (5, .int x5), (6, .int v20)] ⟨rfl, rfl, rfl, rfl, rfl, rfl, rfl, trivial⟩ ?_
        exact s_N_L_give_b102  hG K ih h
      · refine g_icmp_lt (tgt := 102) hG dX4_give_44 rfl (fun q => absurd q c22) (fun _ => ?_)
        refine g_iload hG dX4_give_47 rfl ?_
        refine g_aload_n hG dX4_give_49 rfl ?_
        obtain ⟨b50, h⟩ := gd_some h
        refine g_get (f := 2) hG dX4_give_50 (wC_law g A _ X _ (of_decide_eq_true b50)).1 rfl inX4 (by decide) rfl f_X4_19 rfl ?_
        obtain ⟨b51, h⟩ := gd_some h
        refine l_alen2 hG (of_decide_eq_true b51) dX4_give_53 ?_
        rcases if_some h with ⟨c52, h⟩ | ⟨c52, h⟩
        · refine g_icmp_ge (tgt := 102) hG dX4_give_54 rfl (fun _ => ?_) (fun q => absurd c52 q)
          refine g_loc hG [(0, .ref (A (j + 8) 99)), (1, .int x1), (2, .int x2), (3, .int x3), (4, .int x4), (5, .int x5), (6, .int v20)] ⟨rfl, rfl, rfl, rfl, rfl, rfl, rfl, trivial⟩ ?_
          exact s_N_L_give_b102  hG K ih h
        · refine g_icmp_ge (tgt := 102) hG dX4_give_54 rfl (fun q => absurd q c52) (fun _ => ?_)
          refine g_aload_n hG dX4_give_57 rfl ?_
          obtain ⟨b53, h⟩ := gd_some h
          refine g_get (f := 2) hG dX4_give_58 (wC_law g A _ X _ (of_decide_eq_true b53)).1 rfl inX4 (by decide) rfl f_X4_19 rfl ?_
          refine g_iload hG dX4_give_61 rfl ?_
          refine g_iload hG dX4_give_63 rfl ?_
          refine g_dia1 (if v20 < 0 then (if v20 = (-1 : Int32) then x1 else (if v20 = (-2 : Int32) then x2 else x3)) else v20) 95 (fun J54 => ?_) ?_
          · by_cases c55 : v20 < 0
            · refine g_if_lt (tgt := 73) hG dX4_give_65 rfl (fun _ => ?_) (fun q => absurd c55 q)
              refine g_iload hG dX4_give_73 rfl ?_
              refine g_iconstv hG dX4_give_75 ki_m1 ?_
              by_cases c56 : v20 = (-1 : Int32)
              · refine g_icmp_ne (tgt := 83) hG dX4_give_76 rfl (fun q => absurd c56 q) (fun _ => ?_)
                refine g_iload_n hG dX4_give_79 rfl ?_
                refine g_goto (tgt := 95) hG dX4_give_80 rfl ?_
                rw [if_pos c55, if_pos c56] at J54
                exact J54
              · refine g_icmp_ne (tgt := 83) hG dX4_give_76 rfl (fun _ => ?_) (fun q => absurd q c56)
                refine g_iload hG dX4_give_83 rfl ?_
                refine g_bipushv hG dX4_give_85 kb_m2 ?_
                by_cases c57 : v20 = (-2 : Int32)
                · refine g_icmp_ne (tgt := 94) hG dX4_give_87 rfl (fun q => absurd c57 q) (fun _ => ?_)
                  refine g_iload_n hG dX4_give_90 rfl ?_
                  refine g_goto (tgt := 95) hG dX4_give_91 rfl ?_
                  rw [if_pos c55, if_neg c56, if_pos c57] at J54
                  exact J54
                · refine g_icmp_ne (tgt := 94) hG dX4_give_87 rfl (fun _ => ?_) (fun q => absurd q c57)
                  refine g_iload_n hG dX4_give_94 rfl ?_
                  rw [if_pos c55, if_neg c56, if_neg c57] at J54
                  exact J54
            · refine g_if_lt (tgt := 73) hG dX4_give_65 rfl (fun q => absurd q c55) (fun _ => ?_)
              refine g_iload hG dX4_give_68 rfl ?_
              refine g_goto (tgt := 95) hG dX4_give_70 rfl ?_
              rw [if_neg c55] at J54
              exact J54
          obtain ⟨b60, h⟩ := gd_some h
          obtain ⟨b61, h⟩ := gd_some h
          obtain ⟨σ58, e59, h⟩ := lt_ex h
          refine l_iast2 hG (of_decide_eq_true b60) e59 dX4_give_95 b61 rfl ?_
          refine g_iincv (c := (1 : Int32)) hG dX4_give_96 rfl (by decide) (by decide) ?_
          refine g_goto (tgt := 184) hG dX4_give_99 rfl ?_
          refine g_loc hG [(0, .ref (A (j + 8) 99)), (1, .int x1), (2, .int x2), (3, .int x3), (4, .int (x4 + (1 : Int32))), (5, .int x5)] ⟨rfl, rfl, rfl, rfl, rfl, rfl, trivial⟩ ?_
          exact s_N_L_give_b184  hG K ih h
def N_L_give (j : Nat) (x1 : Int32) (x2 : Int32) (x3 : Int32) (σ : CS) : Option (Int32 × CS) := (gd (decide (j < σ.2.2 7 0)) (gd (decide (j < σ.2.2 7 0)) (if (Int32.ofNat (σ.2.2 (j + 8) 0)) = 0 then (gd (decide (j < σ.2.2 7 0)) (ob (N_L_withoutText j x1 x2 σ) fun v4 σ5 => (some (v4, σ5)))) else (N_L_give_b21 j  FU x1 x2 x3 (0 : Int32) (0 : Int32) σ))))
set_option maxRecDepth 100000 in
set_option maxHeartbeats 4000000 in
theorem c_N_L_give {g : GP} {l : Launch} {A : Nat → Nat → Nat} {X : va_W} {v9 : Int32} {s9 : CS} {j : Nat} {x1 : Int32} {x2 : Int32} {x3 : Int32} {σ : CS} (h : N_L_give j x1 x2 x3 σ = some (v9, s9)) : CI g l yX4_give cX4_give 7 (some .int) { frames := 1, cells := 0, slots := 0, locals := 64 } [.ref (A (j + 8) 99), .int x1, .int x2, .int x3] (wC g A σ X) (fun r0 w => r0 = v9 ∧ w = wC g A s9 X) := by
  refine CI.mk (by decide) (Nat.le_of_ble_eq_true rfl) (fun G hG hret => ?_)
  have K : ∀ L pc, decode cX4_give pc = .ok (.ireturn, 1) → G 0 0 (wC g A s9 X) L pc [.int v9] := fun L pc d => hret _ L pc v9 d rfl ⟨rfl, rfl⟩
  unfold N_L_give at h
  refine g_aload_n hG dX4_give_0 rfl ?_
  obtain ⟨b1, h⟩ := gd_some h
  refine g_get (f := 1) hG dX4_give_1 (wC_law g A _ X _ (of_decide_eq_true b1)).1 rfl inX4 (by decide) rfl f_X4_15 rfl ?_
  obtain ⟨b2, h⟩ := gd_some h
  refine l_alen1 hG (of_decide_eq_true b2) dX4_give_4 ?_
  rcases if_some h with ⟨c3, h⟩ | ⟨c3, h⟩
  · refine g_if_ne (tgt := 15) hG dX4_give_5 rfl (fun q => absurd c3 q) (fun _ => ?_)
    refine g_aload_n hG dX4_give_8 rfl ?_
    refine g_iload_n hG dX4_give_9 rfl ?_
    refine g_iload_n hG dX4_give_10 rfl ?_
    obtain ⟨b7, h⟩ := gd_some h
    obtain ⟨v4, σ5, q6, h⟩ := ob_some h
    refine g_cV hG dX4_give_11 (c_N_L_withoutText q6) b_X4_withoutText v_X4_22 rfl (wC_law g A _ X _ (of_decide_eq_true b7)).1 rfl ⟨Nat.le_of_ble_eq_true rfl, Nat.le_of_ble_eq_true rfl⟩ ⟨rfl, rfl⟩ ⟨Nat.zero_le _, Nat.zero_le _⟩ _ rfl (Nat.le_of_ble_eq_true rfl) ?_
    cases h
    exact K _ _ dX4_give_14
  · refine g_if_ne (tgt := 15) hG dX4_give_5 rfl (fun _ => ?_) (fun q => absurd q c3)
    refine g_iconstv hG dX4_give_15 ki_0 ?_
    refine g_istore hG dX4_give_16 (by decide) ?_
    refine g_iconstv hG dX4_give_18 ki_0 ?_
    refine g_istore hG dX4_give_19 (by decide) ?_
    refine g_loc hG [(0, .ref (A (j + 8) 99)), (1, .int x1), (2, .int x2), (3, .int x3), (4, .int (0 : Int32)), (5, .int (0 : Int32))] ⟨rfl, rfl, rfl, rfl, rfl, rfl, trivial⟩ ?_
    exact s_N_L_give_b21  hG K FU _ _ _ _ _ _ h
def N_S_has (d : Nat) (x1 : Int32) (σ : CS) : Option (Int32 × CS) := (ob (N_T_within x1 (0 : Int32) ((σ.1 d 5) - (1 : Int32)) σ) fun v1 σ2 => (gd (isb v1) (some (v1, σ2))))
set_option maxRecDepth 100000 in
set_option maxHeartbeats 4000000 in
theorem c_N_S_has {g : GP} {l : Launch} {A : Nat → Nat → Nat} {X : va_W} {v9 : Int32} {s9 : CS} {d : Nat} (hd : d < 3) {x1 : Int32} {σ : CS} (h : N_S_has d x1 σ = some (v9, s9)) : CI g l yX7_has cX7_has 2 (some .boolean) { frames := 1, cells := 0, slots := 0, locals := 22 } [.ref (A d 99), .int x1] (wC g A σ X) (fun r0 w => r0 = v9 ∧ w = wC g A s9 X) := by
  refine CI.mk (by decide) (Nat.le_of_ble_eq_true rfl) (fun G hG hret => ?_)
  have K : ∀ L pc, decode cX7_has pc = .ok (.ireturn, 1) → isb v9 = true → G 0 0 (wC g A s9 X) L pc [.int v9] := fun L pc d hz => hret _ L pc v9 d (isb_n hz) ⟨rfl, rfl⟩
  unfold N_S_has at h
  refine g_iload_n hG dX7_has_0 rfl ?_
  refine g_iconstv hG dX7_has_1 ki_0 ?_
  refine g_aload_n hG dX7_has_2 rfl ?_
  refine g_get (f := 5) hG dX7_has_3 (eS hd) rfl inX7 (by decide) rfl f_X7_54 rfl ?_
  refine g_iconstv hG dX7_has_6 ki_1 ?_
  refine g_isub hG dX7_has_7 ?_
  obtain ⟨v1, σ2, q3, h⟩ := ob_some h
  refine g_cSN hG dX7_has_8 (c_N_T_within q3) b_X11_within v_X7_79 rfl ⟨Nat.le_of_ble_eq_true rfl, Nat.le_of_ble_eq_true rfl⟩ ⟨rfl, rfl⟩ ⟨Nat.zero_le _, Nat.zero_le _⟩ _ rfl (Nat.le_of_ble_eq_true rfl) ?_
  obtain ⟨b4, h⟩ := gd_some h
  cases h
  exact K _ _ dX7_has_11 b4
def N_S_shape (d : Nat) (x1 : Int32) (x2 : Int32) (σ : CS) : Option (Int32 × CS) := (gd (inb x1 12) (lt (sa σ d 1 (upd (σ.2.1 d 1) (ix x1) (x2 / (10 : Int32)))) fun σ1 => (gd (inb x1 12) (lt (sa σ1 d 2 (upd (σ1.2.1 d 2) (ix x1) (irm x2 (10 : Int32)))) fun σ4 => (some ((0 : Int32), σ4))))))
set_option maxRecDepth 100000 in
set_option maxHeartbeats 4000000 in
theorem c_N_S_shape {g : GP} {l : Launch} {A : Nat → Nat → Nat} {X : va_W} {v9 : Int32} {s9 : CS} {d : Nat} (hd : d < 3) {x1 : Int32} {x2 : Int32} {σ : CS} (h : N_S_shape d x1 x2 σ = some (v9, s9)) : CV g l yX7_shape cX7_shape 3 { frames := 0, cells := 0, slots := 0, locals := 0 } [.ref (A d 99), .int x1, .int x2] (wC g A σ X) (fun w => w = wC g A s9 X) := by
  refine CV.mk (by decide) (Nat.le_of_ble_eq_true rfl) (fun G hG hret => ?_)
  have K : ∀ L pc, decode cX7_shape pc = .ok (.return_, 1) → G 0 0 (wC g A s9 X) L pc [] := fun L pc d => hret _ L pc d rfl
  unfold N_S_shape at h
  refine g_aload_n hG dX7_shape_0 rfl ?_
  refine g_get (f := 1) hG dX7_shape_1 (eS hd) rfl inX7 (by decide) rfl f_X7_9 rfl ?_
  refine g_iload_n hG dX7_shape_4 rfl ?_
  refine g_iload_n hG dX7_shape_5 rfl ?_
  refine g_bipushv hG dX7_shape_6 kb_10 ?_
  refine g_idiv hG dX7_shape_8 (by decide) ?_
  obtain ⟨b3, h⟩ := gd_some h
  obtain ⟨σ1, e2, h⟩ := lt_ex h
  refine c_iast hG e2 dX7_shape_9 (aS1 hd) b3 rfl ?_
  refine g_aload_n hG dX7_shape_10 rfl ?_
  refine g_get (f := 2) hG dX7_shape_11 (eS hd) rfl inX7 (by decide) rfl f_X7_15 rfl ?_
  refine g_iload_n hG dX7_shape_14 rfl ?_
  refine g_iload_n hG dX7_shape_15 rfl ?_
  refine g_bipushv hG dX7_shape_16 kb_10 ?_
  refine g_irm hG dX7_shape_18 (by decide) ?_
  obtain ⟨b6, h⟩ := gd_some h
  obtain ⟨σ4, e5, h⟩ := lt_ex h
  refine c_iast hG e5 dX7_shape_19 (aS2 hd) b6 rfl ?_
  cases h
  exact K _ _ dX7_shape_20
def N_S_carOf (d : Nat) (x1 : Int32) (σ : CS) : Option (Int32 × CS) := (some ((((σ.1 d 6) >>> (x1 &&& 31)) &&& (1 : Int32)), σ))
set_option maxRecDepth 100000 in
set_option maxHeartbeats 4000000 in
theorem c_N_S_carOf {g : GP} {l : Launch} {A : Nat → Nat → Nat} {X : va_W} {v9 : Int32} {s9 : CS} {d : Nat} (hd : d < 3) {x1 : Int32} {σ : CS} (h : N_S_carOf d x1 σ = some (v9, s9)) : CI g l yX7_carOf cX7_carOf 2 (some .int) { frames := 0, cells := 0, slots := 0, locals := 0 } [.ref (A d 99), .int x1] (wC g A σ X) (fun r0 w => r0 = v9 ∧ w = wC g A s9 X) := by
  refine CI.mk (by decide) (Nat.le_of_ble_eq_true rfl) (fun G hG hret => ?_)
  have K : ∀ L pc, decode cX7_carOf pc = .ok (.ireturn, 1) → G 0 0 (wC g A s9 X) L pc [.int v9] := fun L pc d => hret _ L pc v9 d rfl ⟨rfl, rfl⟩
  unfold N_S_carOf at h
  refine g_aload_n hG dX7_carOf_0 rfl ?_
  refine g_get (f := 6) hG dX7_carOf_1 (eS hd) rfl inX7 (by decide) rfl f_X7_57 rfl ?_
  refine g_iload_n hG dX7_carOf_4 rfl ?_
  refine g_ishr hG dX7_carOf_5 ?_
  refine g_iconstv hG dX7_carOf_6 ki_1 ?_
  refine g_iand hG dX7_carOf_7 ?_
  cases h
  exact K _ _ dX7_carOf_8
def N_S_park (d : Nat) (x1 : Int32) (x2 : Int32) (σ : CS) : Option (Int32 × CS) := (if x2 = 0 then (lt (si σ d 6 ((σ.1 d 6) &&& (((1 : Int32) <<< (x1 &&& 31)) ^^^ (-1 : Int32)))) fun σ2 => (some ((0 : Int32), σ2))) else (lt (si σ d 6 ((σ.1 d 6) ||| ((1 : Int32) <<< (x1 &&& 31)))) fun σ4 => (some ((0 : Int32), σ4))))
set_option maxRecDepth 100000 in
set_option maxHeartbeats 4000000 in
theorem c_N_S_park {g : GP} {l : Launch} {A : Nat → Nat → Nat} {X : va_W} {v9 : Int32} {s9 : CS} {d : Nat} (hd : d < 3) {x1 : Int32} {x2 : Int32} {σ : CS} (h : N_S_park d x1 x2 σ = some (v9, s9)) : CV g l yX7_park cX7_park 3 { frames := 0, cells := 0, slots := 0, locals := 0 } [.ref (A d 99), .int x1, .int x2] (wC g A σ X) (fun w => w = wC g A s9 X) := by
  refine CV.mk (by decide) (Nat.le_of_ble_eq_true rfl) (fun G hG hret => ?_)
  have K : ∀ L pc, decode cX7_park pc = .ok (.return_, 1) → G 0 0 (wC g A s9 X) L pc [] := fun L pc d => hret _ L pc d rfl
  unfold N_S_park at h
  refine g_aload_n hG dX7_park_0 rfl ?_
  refine g_iload_n hG dX7_park_1 rfl ?_
  rcases if_some h with ⟨c1, h⟩ | ⟨c1, h⟩
  · refine g_if_eq (tgt := 16) hG dX7_park_2 rfl (fun _ => ?_) (fun q => absurd c1 q)
    refine g_aload_n hG dX7_park_16 rfl ?_
    refine g_get (f := 6) hG dX7_park_17 (eS hd) rfl inX7 (by decide) rfl f_X7_57 rfl ?_
    refine g_iconstv hG dX7_park_20 ki_1 ?_
    refine g_iload_n hG dX7_park_21 rfl ?_
    refine g_ishl hG dX7_park_22 ?_
    refine g_iconstv hG dX7_park_23 ki_m1 ?_
    refine g_ixor hG dX7_park_24 ?_
    refine g_iand hG dX7_park_25 ?_
    obtain ⟨σ2, e3, h⟩ := lt_ex h
    refine t_put 6 hG hd e3 dX7_park_26 f_X7_57 (by decide) (by decide) rfl rfl rfl ?_
    cases h
    exact K _ _ dX7_park_29
  · refine g_if_eq (tgt := 16) hG dX7_park_2 rfl (fun q => absurd q c1) (fun _ => ?_)
    refine g_aload_n hG dX7_park_5 rfl ?_
    refine g_get (f := 6) hG dX7_park_6 (eS hd) rfl inX7 (by decide) rfl f_X7_57 rfl ?_
    refine g_iconstv hG dX7_park_9 ki_1 ?_
    refine g_iload_n hG dX7_park_10 rfl ?_
    refine g_ishl hG dX7_park_11 ?_
    refine g_ior hG dX7_park_12 ?_
    refine g_goto (tgt := 26) hG dX7_park_13 rfl ?_
    obtain ⟨σ4, e5, h⟩ := lt_ex h
    refine t_put 6 hG hd e5 dX7_park_26 f_X7_57 (by decide) (by decide) rfl rfl rfl ?_
    cases h
    exact K _ _ dX7_park_29
def N_S_signOf (d : Nat) (x1 : Int32) (x2 : Int32) (σ : CS) : Option (Int32 × CS) := (gd (decide ((σ.2.2 d 12) < σ.2.2 7 0)) (ob (N_L_give (σ.2.2 d 12) x1 (irm x2 (7 : Int32)) (irm x2 (30 : Int32)) σ) fun v1 σ2 => (some (v1, σ2))))
set_option maxRecDepth 100000 in
set_option maxHeartbeats 4000000 in
theorem c_N_S_signOf {g : GP} {l : Launch} {A : Nat → Nat → Nat} {X : va_W} {v9 : Int32} {s9 : CS} {d : Nat} (hd : d < 3) {x1 : Int32} {x2 : Int32} {σ : CS} (h : N_S_signOf d x1 x2 σ = some (v9, s9)) : CI g l yX7_signOf cX7_signOf 3 (some .int) { frames := 2, cells := 0, slots := 0, locals := 90 } [.ref (A d 99), .int x1, .int x2] (wC g A σ X) (fun r0 w => r0 = v9 ∧ w = wC g A s9 X) := by
  refine CI.mk (by decide) (Nat.le_of_ble_eq_true rfl) (fun G hG hret => ?_)
  have K : ∀ L pc, decode cX7_signOf pc = .ok (.ireturn, 1) → G 0 0 (wC g A s9 X) L pc [.int v9] := fun L pc d => hret _ L pc v9 d rfl ⟨rfl, rfl⟩
  unfold N_S_signOf at h
  refine g_aload_n hG dX7_signOf_0 rfl ?_
  refine g_get (f := 12) hG dX7_signOf_1 (eS hd) rfl inX7 (by decide) rfl f_X7_45 rfl ?_
  refine g_iload_n hG dX7_signOf_4 rfl ?_
  refine g_iload_n hG dX7_signOf_5 rfl ?_
  refine g_bipushv hG dX7_signOf_6 kb_7 ?_
  refine g_irm hG dX7_signOf_8 (by decide) ?_
  refine g_iload_n hG dX7_signOf_9 rfl ?_
  refine g_bipushv hG dX7_signOf_10 kb_30 ?_
  refine g_irm hG dX7_signOf_12 (by decide) ?_
  obtain ⟨b4, h⟩ := gd_some h
  obtain ⟨v1, σ2, q3, h⟩ := ob_some h
  refine g_cV hG dX7_signOf_13 (c_N_L_give q3) b_X4_give v_X7_83 rfl (wC_law g A _ X _ (of_decide_eq_true b4)).1 rfl ⟨Nat.le_of_ble_eq_true rfl, Nat.le_of_ble_eq_true rfl⟩ ⟨rfl, rfl⟩ ⟨Nat.zero_le _, Nat.zero_le _⟩ _ rfl (Nat.le_of_ble_eq_true rfl) ?_
  cases h
  exact K _ _ dX7_signOf_16
def N_S_signedNow (d : Nat)  (σ : CS) : Option (Int32 × CS) := (ob (N_S_signOf d (0 : Int32) (σ.1 d 7) σ) fun v1 σ2 => (ob (N_S_signOf d (1 : Int32) (σ2.1 d 7) σ2) fun v4 σ5 => (some ((v1 ||| (v4 <<< ((1 : Int32) &&& 31))), σ5))))
set_option maxRecDepth 100000 in
set_option maxHeartbeats 4000000 in
theorem c_N_S_signedNow {g : GP} {l : Launch} {A : Nat → Nat → Nat} {X : va_W} {v9 : Int32} {s9 : CS} {d : Nat} (hd : d < 3) {σ : CS} (h : N_S_signedNow d  σ = some (v9, s9)) : CI g l yX7_signedNow cX7_signedNow 1 (some .int) { frames := 3, cells := 0, slots := 0, locals := 112 } [.ref (A d 99)] (wC g A σ X) (fun r0 w => r0 = v9 ∧ w = wC g A s9 X) := by
  refine CI.mk (by decide) (Nat.le_of_ble_eq_true rfl) (fun G hG hret => ?_)
  have K : ∀ L pc, decode cX7_signedNow pc = .ok (.ireturn, 1) → G 0 0 (wC g A s9 X) L pc [.int v9] := fun L pc d => hret _ L pc v9 d rfl ⟨rfl, rfl⟩
  unfold N_S_signedNow at h
  refine g_aload_n hG dX7_signedNow_0 rfl ?_
  refine g_iconstv hG dX7_signedNow_1 ki_0 ?_
  refine g_aload_n hG dX7_signedNow_2 rfl ?_
  refine g_get (f := 7) hG dX7_signedNow_3 (eS hd) rfl inX7 (by decide) rfl f_X7_60 rfl ?_
  obtain ⟨v1, σ2, q3, h⟩ := ob_some h
  refine g_cV hG dX7_signedNow_6 (c_N_S_signOf hd q3) b_X7_signOf v_X7_112 rfl (eS hd) rfl ⟨Nat.le_of_ble_eq_true rfl, Nat.le_of_ble_eq_true rfl⟩ ⟨rfl, rfl⟩ ⟨Nat.zero_le _, Nat.zero_le _⟩ _ rfl (Nat.le_of_ble_eq_true rfl) ?_
  refine g_aload_n hG dX7_signedNow_9 rfl ?_
  refine g_iconstv hG dX7_signedNow_10 ki_1 ?_
  refine g_aload_n hG dX7_signedNow_11 rfl ?_
  refine g_get (f := 7) hG dX7_signedNow_12 (eS hd) rfl inX7 (by decide) rfl f_X7_60 rfl ?_
  obtain ⟨v4, σ5, q6, h⟩ := ob_some h
  refine g_cV hG dX7_signedNow_15 (c_N_S_signOf hd q6) b_X7_signOf v_X7_112 rfl (eS hd) rfl ⟨Nat.le_of_ble_eq_true rfl, Nat.le_of_ble_eq_true rfl⟩ ⟨rfl, rfl⟩ ⟨Nat.zero_le _, Nat.zero_le _⟩ _ rfl (Nat.le_of_ble_eq_true rfl) ?_
  refine g_iconstv hG dX7_signedNow_18 ki_1 ?_
  refine g_ishl hG dX7_signedNow_19 ?_
  refine g_ior hG dX7_signedNow_20 ?_
  cases h
  exact K _ _ dX7_signedNow_21
def N_S_dirtOfAll_b4 (d : Nat) : Nat → Int32 → Int32 → CS → Option (Int32 × CS)
  | 0, _, _, _ => none
  | n + 1, x1, x2, σ => (if (σ.1 d 5) ≤ x2 then (some (x1, σ)) else (gd (inb x2 12) (lt (x1 + (σ.2.1 d 3 (ix x2))) fun v3 => ((N_S_dirtOfAll_b4 d  n) v3 (x2 + (1 : Int32)) σ))))
set_option maxRecDepth 100000 in
set_option maxHeartbeats 4000000 in
theorem s_N_S_dirtOfAll_b4 {g : GP} {l : Launch} {A : Nat → Nat → Nat} {X : va_W} {G : GT} {v9 : Int32} {s9 : CS} {d : Nat} (hd : d < 3) (hG : IsG g l yX7_dirtOfAll cX7_dirtOfAll 3 { frames := 0, cells := 0, slots := 0, locals := 0 } G) (K : ∀ L pc, decode cX7_dirtOfAll pc = .ok (.ireturn, 1) → G 0 0 (wC g A s9 X) L pc [.int v9]) : ∀ (n : Nat) (x1 : Int32) (x2 : Int32) (σ : CS) (h : N_S_dirtOfAll_b4 d  n x1 x2 σ = some (v9, s9)), G 0 0 (wC g A σ X) [(0, .ref (A d 99)), (1, .int x1), (2, .int x2)] 4 [] := by
  intro n
  induction n with
  | zero => intro _ _ σ h; cases h
  | succ n ih =>
    intro x1 x2 σ h
    unfold N_S_dirtOfAll_b4 at h
    refine g_iload_n hG dX7_dirtOfAll_4 rfl ?_
    refine g_aload_n hG dX7_dirtOfAll_5 rfl ?_
    refine g_get (f := 5) hG dX7_dirtOfAll_6 (eS hd) rfl inX7 (by decide) rfl f_X7_54 rfl ?_
    rcases if_some h with ⟨c1, h⟩ | ⟨c1, h⟩
    · refine g_icmp_ge (tgt := 27) hG dX7_dirtOfAll_9 rfl (fun _ => ?_) (fun q => absurd c1 q)
      refine g_iload_n hG dX7_dirtOfAll_27 rfl ?_
      cases h
      exact K _ _ dX7_dirtOfAll_28
    · refine g_icmp_ge (tgt := 27) hG dX7_dirtOfAll_9 rfl (fun q => absurd q c1) (fun _ => ?_)
      refine g_iload_n hG dX7_dirtOfAll_12 rfl ?_
      refine g_aload_n hG dX7_dirtOfAll_13 rfl ?_
      refine g_get (f := 3) hG dX7_dirtOfAll_14 (eS hd) rfl inX7 (by decide) rfl f_X7_18 rfl ?_
      refine g_iload_n hG dX7_dirtOfAll_17 rfl ?_
      obtain ⟨b2, h⟩ := gd_some h
      refine c_iald hG dX7_dirtOfAll_18 (aS3 hd) b2 rfl ?_
      refine g_iadd hG dX7_dirtOfAll_19 ?_
      obtain ⟨v3, e4, h⟩ := lt_ex h
      refine g_nam e4 ?_
      refine g_istore_n hG dX7_dirtOfAll_20 (by decide) ?_
      refine g_iincv (c := (1 : Int32)) hG dX7_dirtOfAll_21 rfl (by decide) (by decide) ?_
      refine g_goto (tgt := 4) hG dX7_dirtOfAll_24 rfl ?_
      refine g_loc hG [(0, .ref (A d 99)), (1, .int v3), (2, .int (x2 + (1 : Int32)))] ⟨rfl, rfl, rfl, trivial⟩ ?_
      exact ih _ _ _ h
def N_S_dirtOfAll (d : Nat)  (σ : CS) : Option (Int32 × CS) := (N_S_dirtOfAll_b4 d  FU (0 : Int32) (0 : Int32) σ)
set_option maxRecDepth 100000 in
set_option maxHeartbeats 4000000 in
theorem c_N_S_dirtOfAll {g : GP} {l : Launch} {A : Nat → Nat → Nat} {X : va_W} {v9 : Int32} {s9 : CS} {d : Nat} (hd : d < 3) {σ : CS} (h : N_S_dirtOfAll d  σ = some (v9, s9)) : CI g l yX7_dirtOfAll cX7_dirtOfAll 3 (some .int) { frames := 0, cells := 0, slots := 0, locals := 0 } [.ref (A d 99)] (wC g A σ X) (fun r0 w => r0 = v9 ∧ w = wC g A s9 X) := by
  refine CI.mk (by decide) (Nat.le_of_ble_eq_true rfl) (fun G hG hret => ?_)
  have K : ∀ L pc, decode cX7_dirtOfAll pc = .ok (.ireturn, 1) → G 0 0 (wC g A s9 X) L pc [.int v9] := fun L pc d => hret _ L pc v9 d rfl ⟨rfl, rfl⟩
  unfold N_S_dirtOfAll at h
  refine g_iconstv hG dX7_dirtOfAll_0 ki_0 ?_
  refine g_istore_n hG dX7_dirtOfAll_1 (by decide) ?_
  refine g_iconstv hG dX7_dirtOfAll_2 ki_0 ?_
  refine g_istore_n hG dX7_dirtOfAll_3 (by decide) ?_
  refine g_loc hG [(0, .ref (A d 99)), (1, .int (0 : Int32)), (2, .int (0 : Int32))] ⟨rfl, rfl, rfl, trivial⟩ ?_
  exact s_N_S_dirtOfAll_b4 hd hG K FU _ _ _ h
def N_S_greatestDirt_b4 (d : Nat) : Nat → Int32 → Int32 → CS → Option (Int32 × CS)
  | 0, _, _, _ => none
  | n + 1, x1, x2, σ => (if (σ.1 d 5) ≤ x2 then (some (x1, σ)) else (gd (inb x2 12) (lt (if x1 < (σ.2.1 d 3 (ix x2)) then (σ.2.1 d 3 (ix x2)) else x1) fun v3 => ((N_S_greatestDirt_b4 d  n) v3 (x2 + (1 : Int32)) σ))))
set_option maxRecDepth 100000 in
set_option maxHeartbeats 4000000 in
theorem s_N_S_greatestDirt_b4 {g : GP} {l : Launch} {A : Nat → Nat → Nat} {X : va_W} {G : GT} {v9 : Int32} {s9 : CS} {d : Nat} (hd : d < 3) (hG : IsG g l yX7_greatestDirt cX7_greatestDirt 3 { frames := 1, cells := 0, slots := 0, locals := 64 } G) (K : ∀ L pc, decode cX7_greatestDirt pc = .ok (.ireturn, 1) → G 0 0 (wC g A s9 X) L pc [.int v9]) : ∀ (n : Nat) (x1 : Int32) (x2 : Int32) (σ : CS) (h : N_S_greatestDirt_b4 d  n x1 x2 σ = some (v9, s9)), G 0 0 (wC g A σ X) [(0, .ref (A d 99)), (1, .int x1), (2, .int x2)] 4 [] := by
  intro n
  induction n with
  | zero => intro _ _ σ h; cases h
  | succ n ih =>
    intro x1 x2 σ h
    unfold N_S_greatestDirt_b4 at h
    refine g_iload_n hG dX7_greatestDirt_4 rfl ?_
    refine g_aload_n hG dX7_greatestDirt_5 rfl ?_
    refine g_get (f := 5) hG dX7_greatestDirt_6 (eS hd) rfl inX7 (by decide) rfl f_X7_54 rfl ?_
    rcases if_some h with ⟨c1, h⟩ | ⟨c1, h⟩
    · refine g_icmp_ge (tgt := 29) hG dX7_greatestDirt_9 rfl (fun _ => ?_) (fun q => absurd c1 q)
      refine g_iload_n hG dX7_greatestDirt_29 rfl ?_
      cases h
      exact K _ _ dX7_greatestDirt_30
    · refine g_icmp_ge (tgt := 29) hG dX7_greatestDirt_9 rfl (fun q => absurd q c1) (fun _ => ?_)
      refine g_iload_n hG dX7_greatestDirt_12 rfl ?_
      refine g_aload_n hG dX7_greatestDirt_13 rfl ?_
      refine g_get (f := 3) hG dX7_greatestDirt_14 (eS hd) rfl inX7 (by decide) rfl f_X7_18 rfl ?_
      refine g_iload_n hG dX7_greatestDirt_17 rfl ?_
      obtain ⟨b2, h⟩ := gd_some h
      refine c_iald hG dX7_greatestDirt_18 (aS3 hd) b2 rfl ?_
      refine g_max hG dX7_greatestDirt_19 v_X7_103 st_max in_Math co_max (Nat.le_of_ble_eq_true rfl) (Nat.le_of_ble_eq_true rfl) (Nat.zero_le _) (Nat.zero_le _) ?_
      obtain ⟨v3, e4, h⟩ := lt_ex h
      refine g_nam e4 ?_
      refine g_istore_n hG dX7_greatestDirt_22 (by decide) ?_
      refine g_iincv (c := (1 : Int32)) hG dX7_greatestDirt_23 rfl (by decide) (by decide) ?_
      refine g_goto (tgt := 4) hG dX7_greatestDirt_26 rfl ?_
      refine g_loc hG [(0, .ref (A d 99)), (1, .int v3), (2, .int (x2 + (1 : Int32)))] ⟨rfl, rfl, rfl, trivial⟩ ?_
      exact ih _ _ _ h
def N_S_greatestDirt (d : Nat)  (σ : CS) : Option (Int32 × CS) := (N_S_greatestDirt_b4 d  FU (0 : Int32) (0 : Int32) σ)
set_option maxRecDepth 100000 in
set_option maxHeartbeats 4000000 in
theorem c_N_S_greatestDirt {g : GP} {l : Launch} {A : Nat → Nat → Nat} {X : va_W} {v9 : Int32} {s9 : CS} {d : Nat} (hd : d < 3) {σ : CS} (h : N_S_greatestDirt d  σ = some (v9, s9)) : CI g l yX7_greatestDirt cX7_greatestDirt 3 (some .int) { frames := 1, cells := 0, slots := 0, locals := 64 } [.ref (A d 99)] (wC g A σ X) (fun r0 w => r0 = v9 ∧ w = wC g A s9 X) := by
  refine CI.mk (by decide) (Nat.le_of_ble_eq_true rfl) (fun G hG hret => ?_)
  have K : ∀ L pc, decode cX7_greatestDirt pc = .ok (.ireturn, 1) → G 0 0 (wC g A s9 X) L pc [.int v9] := fun L pc d => hret _ L pc v9 d rfl ⟨rfl, rfl⟩
  unfold N_S_greatestDirt at h
  refine g_iconstv hG dX7_greatestDirt_0 ki_0 ?_
  refine g_istore_n hG dX7_greatestDirt_1 (by decide) ?_
  refine g_iconstv hG dX7_greatestDirt_2 ki_0 ?_
  refine g_istore_n hG dX7_greatestDirt_3 (by decide) ?_
  refine g_loc hG [(0, .ref (A d 99)), (1, .int (0 : Int32)), (2, .int (0 : Int32))] ⟨rfl, rfl, rfl, trivial⟩ ?_
  exact s_N_S_greatestDirt_b4 hd hG K FU _ _ _ h
def N_S_firstWith_b2 (d : Nat) : Nat → Int32 → Int32 → CS → Option (Int32 × CS)
  | 0, _, _, _ => none
  | n + 1, x1, x2, σ => (if (σ.1 d 5) ≤ x2 then (some ((-1 : Int32), σ)) else (gd (inb x2 12) (if (σ.2.1 d 3 (ix x2)) < x1 then ((N_S_firstWith_b2 d  n) x1 (x2 + (1 : Int32)) σ) else (some (x2, σ)))))
set_option maxRecDepth 100000 in
set_option maxHeartbeats 4000000 in
theorem s_N_S_firstWith_b2 {g : GP} {l : Launch} {A : Nat → Nat → Nat} {X : va_W} {G : GT} {v9 : Int32} {s9 : CS} {d : Nat} (hd : d < 3) (hG : IsG g l yX7_firstWith cX7_firstWith 3 { frames := 0, cells := 0, slots := 0, locals := 0 } G) (K : ∀ L pc, decode cX7_firstWith pc = .ok (.ireturn, 1) → G 0 0 (wC g A s9 X) L pc [.int v9]) : ∀ (n : Nat) (x1 : Int32) (x2 : Int32) (σ : CS) (h : N_S_firstWith_b2 d  n x1 x2 σ = some (v9, s9)), G 0 0 (wC g A σ X) [(0, .ref (A d 99)), (1, .int x1), (2, .int x2)] 2 [] := by
  intro n
  induction n with
  | zero => intro _ _ σ h; cases h
  | succ n ih =>
    intro x1 x2 σ h
    unfold N_S_firstWith_b2 at h
    refine g_iload_n hG dX7_firstWith_2 rfl ?_
    refine g_aload_n hG dX7_firstWith_3 rfl ?_
    refine g_get (f := 5) hG dX7_firstWith_4 (eS hd) rfl inX7 (by decide) rfl f_X7_54 rfl ?_
    rcases if_some h with ⟨c1, h⟩ | ⟨c1, h⟩
    · refine g_icmp_ge (tgt := 28) hG dX7_firstWith_7 rfl (fun _ => ?_) (fun q => absurd c1 q)
      refine g_iconstv hG dX7_firstWith_28 ki_m1 ?_
      cases h
      exact K _ _ dX7_firstWith_29
    · refine g_icmp_ge (tgt := 28) hG dX7_firstWith_7 rfl (fun q => absurd q c1) (fun _ => ?_)
      refine g_aload_n hG dX7_firstWith_10 rfl ?_
      refine g_get (f := 3) hG dX7_firstWith_11 (eS hd) rfl inX7 (by decide) rfl f_X7_18 rfl ?_
      refine g_iload_n hG dX7_firstWith_14 rfl ?_
      obtain ⟨b2, h⟩ := gd_some h
      refine c_iald hG dX7_firstWith_15 (aS3 hd) b2 rfl ?_
      refine g_iload_n hG dX7_firstWith_16 rfl ?_
      rcases if_some h with ⟨c3, h⟩ | ⟨c3, h⟩
      · refine g_icmp_lt (tgt := 22) hG dX7_firstWith_17 rfl (fun _ => ?_) (fun q => absurd c3 q)
        refine g_iincv (c := (1 : Int32)) hG dX7_firstWith_22 rfl (by decide) (by decide) ?_
        refine g_goto (tgt := 2) hG dX7_firstWith_25 rfl ?_
        refine g_loc hG [(0, .ref (A d 99)), (1, .int x1), (2, .int (x2 + (1 : Int32)))] ⟨rfl, rfl, rfl, trivial⟩ ?_
        exact ih _ _ _ h
      · refine g_icmp_lt (tgt := 22) hG dX7_firstWith_17 rfl (fun q => absurd q c3) (fun _ => ?_)
        refine g_iload_n hG dX7_firstWith_20 rfl ?_
        cases h
        exact K _ _ dX7_firstWith_21
def N_S_firstWith (d : Nat) (x1 : Int32) (σ : CS) : Option (Int32 × CS) := (N_S_firstWith_b2 d  FU x1 (0 : Int32) σ)
set_option maxRecDepth 100000 in
set_option maxHeartbeats 4000000 in
theorem c_N_S_firstWith {g : GP} {l : Launch} {A : Nat → Nat → Nat} {X : va_W} {v9 : Int32} {s9 : CS} {d : Nat} (hd : d < 3) {x1 : Int32} {σ : CS} (h : N_S_firstWith d x1 σ = some (v9, s9)) : CI g l yX7_firstWith cX7_firstWith 3 (some .int) { frames := 0, cells := 0, slots := 0, locals := 0 } [.ref (A d 99), .int x1] (wC g A σ X) (fun r0 w => r0 = v9 ∧ w = wC g A s9 X) := by
  refine CI.mk (by decide) (Nat.le_of_ble_eq_true rfl) (fun G hG hret => ?_)
  have K : ∀ L pc, decode cX7_firstWith pc = .ok (.ireturn, 1) → G 0 0 (wC g A s9 X) L pc [.int v9] := fun L pc d => hret _ L pc v9 d rfl ⟨rfl, rfl⟩
  unfold N_S_firstWith at h
  refine g_iconstv hG dX7_firstWith_0 ki_0 ?_
  refine g_istore_n hG dX7_firstWith_1 (by decide) ?_
  refine g_loc hG [(0, .ref (A d 99)), (1, .int x1), (2, .int (0 : Int32))] ⟨rfl, rfl, rfl, trivial⟩ ?_
  exact s_N_S_firstWith_b2 hd hG K FU _ _ _ h
def N_S_goers_b82 (d : Nat) (ag35 : Int32 → Int32 → Int32 → CS → Option (Int32 × CS)) (x2 : Int32) (x3 : Int32) (x4 : Int32) (σ : CS) : Option (Int32 × CS) := (ag35 x2 x3 (x4 + (2 : Int32)) σ)
set_option maxRecDepth 100000 in
set_option maxHeartbeats 4000000 in
theorem s_N_S_goers_b82 {g : GP} {l : Launch} {A : Nat → Nat → Nat} {X : va_W} {G : GT} {v9 : Int32} {s9 : CS} {d : Nat} (hd : d < 3) (hG : IsG g l yX7_goers cX7_goers 5 { frames := 1, cells := 0, slots := 0, locals := 21 } G) (K : ∀ L pc, decode cX7_goers pc = .ok (.ireturn, 1) → G 0 0 (wC g A s9 X) L pc [.int v9]) {ag35 : Int32 → Int32 → Int32 → CS → Option (Int32 × CS)} (hag35 : ∀ (x2 : Int32) (x3 : Int32) (x4 : Int32) (σ : CS), ag35 x2 x3 x4 σ = some (v9, s9) → G 0 0 (wC g A σ X) [(0, .ref (A d 99)), (2, .int x2), (3, .int x3), (4, .int x4)] 35 []) {x2 : Int32} {x3 : Int32} {x4 : Int32} {σ : CS} (h : N_S_goers_b82 d ag35 x2 x3 x4 σ = some (v9, s9)) : G 0 0 (wC g A σ X) [(0, .ref (A d 99)), (2, .int x2), (3, .int x3), (4, .int x4)] 82 [] := by
  unfold N_S_goers_b82 at h
  refine g_iincv (c := (2 : Int32)) hG dX7_goers_82 rfl (by decide) (by decide) ?_
  refine g_goto (tgt := 35) hG dX7_goers_85 rfl ?_
  refine g_loc hG [(0, .ref (A d 99)), (2, .int x2), (3, .int x3), (4, .int (x4 + (2 : Int32)))] ⟨rfl, rfl, rfl, rfl, trivial⟩ ?_
  exact hag35 _ _ _ _ h
def N_S_goers_b35 (d : Nat) : Nat → Int32 → Int32 → Int32 → CS → Option (Int32 × CS)
  | 0, _, _, _, _ => none
  | n + 1, x2, x3, x4, σ => (if (σ.1 d 5) ≤ x4 then (some (x3, σ)) else (ob (N_S_carOf d x4 σ) fun v5 σ6 => (if v5 = (1 : Int32) then (gd (inb x4 12) (if (σ6.1 d 9) ≤ (σ6.2.1 d 4 (ix x4)) then (N_S_goers_b82 d (N_S_goers_b35 d  n) x2 x3 x4 σ6) else (if x2 ≤ 0 then (N_S_goers_b82 d (N_S_goers_b35 d  n) x2 x3 x4 σ6) else (lt (x3 ||| ((1 : Int32) <<< (x4 &&& 31))) fun v12 => (N_S_goers_b82 d (N_S_goers_b35 d  n) (x2 + (-1 : Int32)) v12 x4 σ6))))) else (N_S_goers_b82 d (N_S_goers_b35 d  n) x2 x3 x4 σ6))))
set_option maxRecDepth 100000 in
set_option maxHeartbeats 4000000 in
theorem s_N_S_goers_b35 {g : GP} {l : Launch} {A : Nat → Nat → Nat} {X : va_W} {G : GT} {v9 : Int32} {s9 : CS} {d : Nat} (hd : d < 3) (hG : IsG g l yX7_goers cX7_goers 5 { frames := 1, cells := 0, slots := 0, locals := 21 } G) (K : ∀ L pc, decode cX7_goers pc = .ok (.ireturn, 1) → G 0 0 (wC g A s9 X) L pc [.int v9]) : ∀ (n : Nat) (x2 : Int32) (x3 : Int32) (x4 : Int32) (σ : CS) (h : N_S_goers_b35 d  n x2 x3 x4 σ = some (v9, s9)), G 0 0 (wC g A σ X) [(0, .ref (A d 99)), (2, .int x2), (3, .int x3), (4, .int x4)] 35 [] := by
  intro n
  induction n with
  | zero => intro _ _ _ σ h; cases h
  | succ n ih =>
    intro x2 x3 x4 σ h
    unfold N_S_goers_b35 at h
    refine g_iload hG dX7_goers_35 rfl ?_
    refine g_aload_n hG dX7_goers_37 rfl ?_
    refine g_get (f := 5) hG dX7_goers_38 (eS hd) rfl inX7 (by decide) rfl f_X7_54 rfl ?_
    rcases if_some h with ⟨c4, h⟩ | ⟨c4, h⟩
    · refine g_icmp_ge (tgt := 88) hG dX7_goers_41 rfl (fun _ => ?_) (fun q => absurd c4 q)
      refine g_iload_n hG dX7_goers_88 rfl ?_
      cases h
      exact K _ _ dX7_goers_89
    · refine g_icmp_ge (tgt := 88) hG dX7_goers_41 rfl (fun q => absurd q c4) (fun _ => ?_)
      refine g_aload_n hG dX7_goers_44 rfl ?_
      refine g_iload hG dX7_goers_45 rfl ?_
      obtain ⟨v5, σ6, q7, h⟩ := ob_some h
      refine g_cV hG dX7_goers_47 (c_N_S_carOf hd q7) b_X7_carOf v_X7_93 rfl (eS hd) rfl ⟨Nat.le_of_ble_eq_true rfl, Nat.le_of_ble_eq_true rfl⟩ ⟨rfl, rfl⟩ ⟨Nat.zero_le _, Nat.zero_le _⟩ _ rfl (Nat.le_of_ble_eq_true rfl) ?_
      refine g_iconstv hG dX7_goers_50 ki_1 ?_
      rcases if_some h with ⟨c8, h⟩ | ⟨c8, h⟩
      · refine g_icmp_ne (tgt := 82) hG dX7_goers_51 rfl (fun q => absurd c8 q) (fun _ => ?_)
        refine g_aload_n hG dX7_goers_54 rfl ?_
        refine g_get (f := 4) hG dX7_goers_55 (eS hd) rfl inX7 (by decide) rfl f_X7_21 rfl ?_
        refine g_iload hG dX7_goers_58 rfl ?_
        obtain ⟨b9, h⟩ := gd_some h
        refine c_iald hG dX7_goers_60 (aS4 hd) b9 rfl ?_
        refine g_aload_n hG dX7_goers_61 rfl ?_
        refine g_get (f := 9) hG dX7_goers_62 (eS hd) rfl inX7 (by decide) rfl f_X7_24 rfl ?_
        rcases if_some h with ⟨c10, h⟩ | ⟨c10, h⟩
        · refine g_icmp_ge (tgt := 82) hG dX7_goers_65 rfl (fun _ => ?_) (fun q => absurd c10 q)
          refine g_loc hG [(0, .ref (A d 99)), (2, .int x2), (3, .int x3), (4, .int x4)] ⟨rfl, rfl, rfl, rfl, trivial⟩ ?_
          exact s_N_S_goers_b82 hd hG K ih h
        · refine g_icmp_ge (tgt := 82) hG dX7_goers_65 rfl (fun q => absurd q c10) (fun _ => ?_)
          refine g_iload_n hG dX7_goers_68 rfl ?_
          rcases if_some h with ⟨c11, h⟩ | ⟨c11, h⟩
          · refine g_if_le (tgt := 82) hG dX7_goers_69 rfl (fun _ => ?_) (fun q => absurd c11 q)
            refine g_loc hG [(0, .ref (A d 99)), (2, .int x2), (3, .int x3), (4, .int x4)] ⟨rfl, rfl, rfl, rfl, trivial⟩ ?_
            exact s_N_S_goers_b82 hd hG K ih h
          · refine g_if_le (tgt := 82) hG dX7_goers_69 rfl (fun q => absurd q c11) (fun _ => ?_)
            refine g_iload_n hG dX7_goers_72 rfl ?_
            refine g_iconstv hG dX7_goers_73 ki_1 ?_
            refine g_iload hG dX7_goers_74 rfl ?_
            refine g_ishl hG dX7_goers_76 ?_
            refine g_ior hG dX7_goers_77 ?_
            obtain ⟨v12, e13, h⟩ := lt_ex h
            refine g_nam e13 ?_
            refine g_istore_n hG dX7_goers_78 (by decide) ?_
            refine g_iincv (c := (-1 : Int32)) hG dX7_goers_79 rfl (by decide) (by decide) ?_
            refine g_loc hG [(0, .ref (A d 99)), (2, .int (x2 + (-1 : Int32))), (3, .int v12), (4, .int x4)] ⟨rfl, rfl, rfl, rfl, trivial⟩ ?_
            exact s_N_S_goers_b82 hd hG K ih h
      · refine g_icmp_ne (tgt := 82) hG dX7_goers_51 rfl (fun _ => ?_) (fun q => absurd q c8)
        refine g_loc hG [(0, .ref (A d 99)), (2, .int x2), (3, .int x3), (4, .int x4)] ⟨rfl, rfl, rfl, rfl, trivial⟩ ?_
        exact s_N_S_goers_b82 hd hG K ih h
def N_S_goers_b6 (d : Nat) : Nat → Int32 → Int32 → Int32 → CS → Option (Int32 × CS)
  | 0, _, _, _, _ => none
  | n + 1, x1, x2, x3, σ => (if (σ.1 d 5) ≤ x3 then (N_S_goers_b35 d  FU x2 (0 : Int32) x1 σ) else (ob (N_S_carOf d x3 σ) fun v14 σ15 => (lt (x2 + ((1 : Int32) - v14)) fun v17 => ((N_S_goers_b6 d  n) x1 v17 (x3 + (2 : Int32)) σ15))))
set_option maxRecDepth 100000 in
set_option maxHeartbeats 4000000 in
theorem s_N_S_goers_b6 {g : GP} {l : Launch} {A : Nat → Nat → Nat} {X : va_W} {G : GT} {v9 : Int32} {s9 : CS} {d : Nat} (hd : d < 3) (hG : IsG g l yX7_goers cX7_goers 5 { frames := 1, cells := 0, slots := 0, locals := 21 } G) (K : ∀ L pc, decode cX7_goers pc = .ok (.ireturn, 1) → G 0 0 (wC g A s9 X) L pc [.int v9]) : ∀ (n : Nat) (x1 : Int32) (x2 : Int32) (x3 : Int32) (σ : CS) (h : N_S_goers_b6 d  n x1 x2 x3 σ = some (v9, s9)), G 0 0 (wC g A σ X) [(0, .ref (A d 99)), (1, .int x1), (2, .int x2), (3, .int x3)] 6 [] := by
  intro n
  induction n with
  | zero => intro _ _ _ σ h; cases h
  | succ n ih =>
    intro x1 x2 x3 σ h
    unfold N_S_goers_b6 at h
    refine g_iload_n hG dX7_goers_6 rfl ?_
    refine g_aload_n hG dX7_goers_7 rfl ?_
    refine g_get (f := 5) hG dX7_goers_8 (eS hd) rfl inX7 (by decide) rfl f_X7_54 rfl ?_
    rcases if_some h with ⟨c3, h⟩ | ⟨c3, h⟩
    · refine g_icmp_ge (tgt := 30) hG dX7_goers_11 rfl (fun _ => ?_) (fun q => absurd c3 q)
      refine g_iconstv hG dX7_goers_30 ki_0 ?_
      refine g_istore_n hG dX7_goers_31 (by decide) ?_
      refine g_iload_n hG dX7_goers_32 rfl ?_
      refine g_istore hG dX7_goers_33 (by decide) ?_
      refine g_loc hG [(0, .ref (A d 99)), (2, .int x2), (3, .int (0 : Int32)), (4, .int x1)] ⟨rfl, rfl, rfl, rfl, trivial⟩ ?_
      exact s_N_S_goers_b35 hd hG K FU _ _ _ _ h
    · refine g_icmp_ge (tgt := 30) hG dX7_goers_11 rfl (fun q => absurd q c3) (fun _ => ?_)
      refine g_iload_n hG dX7_goers_14 rfl ?_
      refine g_iconstv hG dX7_goers_15 ki_1 ?_
      refine g_aload_n hG dX7_goers_16 rfl ?_
      refine g_iload_n hG dX7_goers_17 rfl ?_
      obtain ⟨v14, σ15, q16, h⟩ := ob_some h
      refine g_cV hG dX7_goers_18 (c_N_S_carOf hd q16) b_X7_carOf v_X7_93 rfl (eS hd) rfl ⟨Nat.le_of_ble_eq_true rfl, Nat.le_of_ble_eq_true rfl⟩ ⟨rfl, rfl⟩ ⟨Nat.zero_le _, Nat.zero_le _⟩ _ rfl (Nat.le_of_ble_eq_true rfl) ?_
      refine g_isub hG dX7_goers_21 ?_
      refine g_iadd hG dX7_goers_22 ?_
      obtain ⟨v17, e18, h⟩ := lt_ex h
      refine g_nam e18 ?_
      refine g_istore_n hG dX7_goers_23 (by decide) ?_
      refine g_iincv (c := (2 : Int32)) hG dX7_goers_24 rfl (by decide) (by decide) ?_
      refine g_goto (tgt := 6) hG dX7_goers_27 rfl ?_
      refine g_loc hG [(0, .ref (A d 99)), (1, .int x1), (2, .int v17), (3, .int (x3 + (2 : Int32)))] ⟨rfl, rfl, rfl, rfl, trivial⟩ ?_
      exact ih _ _ _ _ h
def N_S_goers (d : Nat) (x1 : Int32) (σ : CS) : Option (Int32 × CS) := (lt ((1 : Int32) - x1) fun v1 => (N_S_goers_b6 d  FU x1 (0 : Int32) v1 σ))
set_option maxRecDepth 100000 in
set_option maxHeartbeats 4000000 in
theorem c_N_S_goers {g : GP} {l : Launch} {A : Nat → Nat → Nat} {X : va_W} {v9 : Int32} {s9 : CS} {d : Nat} (hd : d < 3) {x1 : Int32} {σ : CS} (h : N_S_goers d x1 σ = some (v9, s9)) : CI g l yX7_goers cX7_goers 5 (some .int) { frames := 1, cells := 0, slots := 0, locals := 21 } [.ref (A d 99), .int x1] (wC g A σ X) (fun r0 w => r0 = v9 ∧ w = wC g A s9 X) := by
  refine CI.mk (by decide) (Nat.le_of_ble_eq_true rfl) (fun G hG hret => ?_)
  have K : ∀ L pc, decode cX7_goers pc = .ok (.ireturn, 1) → G 0 0 (wC g A s9 X) L pc [.int v9] := fun L pc d => hret _ L pc v9 d rfl ⟨rfl, rfl⟩
  unfold N_S_goers at h
  refine g_iconstv hG dX7_goers_0 ki_0 ?_
  refine g_istore_n hG dX7_goers_1 (by decide) ?_
  refine g_iconstv hG dX7_goers_2 ki_1 ?_
  refine g_iload_n hG dX7_goers_3 rfl ?_
  refine g_isub hG dX7_goers_4 ?_
  obtain ⟨v1, e2, h⟩ := lt_ex h
  refine g_nam e2 ?_
  refine g_istore_n hG dX7_goers_5 (by decide) ?_
  refine g_loc hG [(0, .ref (A d 99)), (1, .int x1), (2, .int (0 : Int32)), (3, .int v1)] ⟨rfl, rfl, rfl, rfl, trivial⟩ ?_
  exact s_N_S_goers_b6 hd hG K FU _ _ _ _ h
def N_S_stayers_b4 (d : Nat) : Nat → Int32 → Int32 → Int32 → CS → Option (Int32 × CS)
  | 0, _, _, _, _ => none
  | n + 1, x1, x2, x3, σ => (if (σ.1 d 5) ≤ x3 then (ob (N_S_goers d x1 σ) fun v2 σ3 => (some ((((σ.1 d 6) &&& x2) &&& (v2 ^^^ (-1 : Int32))), σ3))) else (lt (x2 ||| ((1 : Int32) <<< (x3 &&& 31))) fun v5 => ((N_S_stayers_b4 d  n) x1 v5 (x3 + (2 : Int32)) σ)))
set_option maxRecDepth 100000 in
set_option maxHeartbeats 4000000 in
theorem s_N_S_stayers_b4 {g : GP} {l : Launch} {A : Nat → Nat → Nat} {X : va_W} {G : GT} {v9 : Int32} {s9 : CS} {d : Nat} (hd : d < 3) (hG : IsG g l yX7_stayers cX7_stayers 4 { frames := 2, cells := 0, slots := 0, locals := 45 } G) (K : ∀ L pc, decode cX7_stayers pc = .ok (.ireturn, 1) → G 0 0 (wC g A s9 X) L pc [.int v9]) : ∀ (n : Nat) (x1 : Int32) (x2 : Int32) (x3 : Int32) (σ : CS) (h : N_S_stayers_b4 d  n x1 x2 x3 σ = some (v9, s9)), G 0 0 (wC g A σ X) [(0, .ref (A d 99)), (1, .int x1), (2, .int x2), (3, .int x3)] 4 [] := by
  intro n
  induction n with
  | zero => intro _ _ _ σ h; cases h
  | succ n ih =>
    intro x1 x2 x3 σ h
    unfold N_S_stayers_b4 at h
    refine g_iload_n hG dX7_stayers_4 rfl ?_
    refine g_aload_n hG dX7_stayers_5 rfl ?_
    refine g_get (f := 5) hG dX7_stayers_6 (eS hd) rfl inX7 (by decide) rfl f_X7_54 rfl ?_
    rcases if_some h with ⟨c1, h⟩ | ⟨c1, h⟩
    · refine g_icmp_ge (tgt := 24) hG dX7_stayers_9 rfl (fun _ => ?_) (fun q => absurd c1 q)
      refine g_aload_n hG dX7_stayers_24 rfl ?_
      refine g_get (f := 6) hG dX7_stayers_25 (eS hd) rfl inX7 (by decide) rfl f_X7_57 rfl ?_
      refine g_iload_n hG dX7_stayers_28 rfl ?_
      refine g_iand hG dX7_stayers_29 ?_
      refine g_aload_n hG dX7_stayers_30 rfl ?_
      refine g_iload_n hG dX7_stayers_31 rfl ?_
      obtain ⟨v2, σ3, q4, h⟩ := ob_some h
      refine g_cV hG dX7_stayers_32 (c_N_S_goers hd q4) b_X7_goers v_X7_132 rfl (eS hd) rfl ⟨Nat.le_of_ble_eq_true rfl, Nat.le_of_ble_eq_true rfl⟩ ⟨rfl, rfl⟩ ⟨Nat.zero_le _, Nat.zero_le _⟩ _ rfl (Nat.le_of_ble_eq_true rfl) ?_
      refine g_iconstv hG dX7_stayers_35 ki_m1 ?_
      refine g_ixor hG dX7_stayers_36 ?_
      refine g_iand hG dX7_stayers_37 ?_
      cases h
      exact K _ _ dX7_stayers_38
    · refine g_icmp_ge (tgt := 24) hG dX7_stayers_9 rfl (fun q => absurd q c1) (fun _ => ?_)
      refine g_iload_n hG dX7_stayers_12 rfl ?_
      refine g_iconstv hG dX7_stayers_13 ki_1 ?_
      refine g_iload_n hG dX7_stayers_14 rfl ?_
      refine g_ishl hG dX7_stayers_15 ?_
      refine g_ior hG dX7_stayers_16 ?_
      obtain ⟨v5, e6, h⟩ := lt_ex h
      refine g_nam e6 ?_
      refine g_istore_n hG dX7_stayers_17 (by decide) ?_
      refine g_iincv (c := (2 : Int32)) hG dX7_stayers_18 rfl (by decide) (by decide) ?_
      refine g_goto (tgt := 4) hG dX7_stayers_21 rfl ?_
      refine g_loc hG [(0, .ref (A d 99)), (1, .int x1), (2, .int v5), (3, .int (x3 + (2 : Int32)))] ⟨rfl, rfl, rfl, rfl, trivial⟩ ?_
      exact ih _ _ _ _ h
def N_S_stayers (d : Nat) (x1 : Int32) (σ : CS) : Option (Int32 × CS) := (N_S_stayers_b4 d  FU x1 (0 : Int32) x1 σ)
set_option maxRecDepth 100000 in
set_option maxHeartbeats 4000000 in
theorem c_N_S_stayers {g : GP} {l : Launch} {A : Nat → Nat → Nat} {X : va_W} {v9 : Int32} {s9 : CS} {d : Nat} (hd : d < 3) {x1 : Int32} {σ : CS} (h : N_S_stayers d x1 σ = some (v9, s9)) : CI g l yX7_stayers cX7_stayers 4 (some .int) { frames := 2, cells := 0, slots := 0, locals := 45 } [.ref (A d 99), .int x1] (wC g A σ X) (fun r0 w => r0 = v9 ∧ w = wC g A s9 X) := by
  refine CI.mk (by decide) (Nat.le_of_ble_eq_true rfl) (fun G hG hret => ?_)
  have K : ∀ L pc, decode cX7_stayers pc = .ok (.ireturn, 1) → G 0 0 (wC g A s9 X) L pc [.int v9] := fun L pc d => hret _ L pc v9 d rfl ⟨rfl, rfl⟩
  unfold N_S_stayers at h
  refine g_iconstv hG dX7_stayers_0 ki_0 ?_
  refine g_istore_n hG dX7_stayers_1 (by decide) ?_
  refine g_iload_n hG dX7_stayers_2 rfl ?_
  refine g_istore_n hG dX7_stayers_3 (by decide) ?_
  refine g_loc hG [(0, .ref (A d 99)), (1, .int x1), (2, .int (0 : Int32)), (3, .int x1)] ⟨rfl, rfl, rfl, rfl, trivial⟩ ?_
  exact s_N_S_stayers_b4 hd hG K FU _ _ _ _ h
def N_S_drawn (d : Nat)  (σ : CS) : Option (Int32 × CS) := (lt (si σ d 17 (((σ.1 d 17) * (1103515245 : Int32)) + (12345 : Int32))) fun σ1 => (some ((iush (σ1.1 d 17) (8 : Int32)), σ1)))
set_option maxRecDepth 100000 in
set_option maxHeartbeats 4000000 in
theorem c_N_S_drawn {g : GP} {l : Launch} {A : Nat → Nat → Nat} {X : va_W} {v9 : Int32} {s9 : CS} {d : Nat} (hd : d < 3) {σ : CS} (h : N_S_drawn d  σ = some (v9, s9)) : CI g l yX7_drawn cX7_drawn 1 (some .int) { frames := 0, cells := 0, slots := 0, locals := 0 } [.ref (A d 99)] (wC g A σ X) (fun r0 w => r0 = v9 ∧ w = wC g A s9 X) := by
  refine CI.mk (by decide) (Nat.le_of_ble_eq_true rfl) (fun G hG hret => ?_)
  have K : ∀ L pc, decode cX7_drawn pc = .ok (.ireturn, 1) → G 0 0 (wC g A s9 X) L pc [.int v9] := fun L pc d => hret _ L pc v9 d rfl ⟨rfl, rfl⟩
  unfold N_S_drawn at h
  refine g_aload_n hG dX7_drawn_0 rfl ?_
  refine g_aload_n hG dX7_drawn_1 rfl ?_
  refine g_get (f := 17) hG dX7_drawn_2 (eS hd) rfl inX7 (by decide) rfl f_X7_34 rfl ?_
  refine g_ldc hG dX7_drawn_5 k_X7_139 ?_
  refine g_imul hG dX7_drawn_7 ?_
  refine g_sipushv hG dX7_drawn_8 ks_12345 ?_
  refine g_iadd hG dX7_drawn_11 ?_
  obtain ⟨σ1, e2, h⟩ := lt_ex h
  refine t_put 17 hG hd e2 dX7_drawn_12 f_X7_34 (by decide) (by decide) rfl rfl rfl ?_
  refine g_aload_n hG dX7_drawn_15 rfl ?_
  refine g_get (f := 17) hG dX7_drawn_16 (eS hd) rfl inX7 (by decide) rfl f_X7_34 rfl ?_
  refine g_bipushv hG dX7_drawn_19 kb_8 ?_
  refine g_iush hG dX7_drawn_21 ?_
  cases h
  exact K _ _ dX7_drawn_22
def N_S_drawWindAndCar (d : Nat)  (σ : CS) : Option (Int32 × CS) := (ob (N_S_drawn d  σ) fun v1 σ2 => (lt (si σ2 d 8 (irm v1 (10 : Int32))) fun σ4 => (ob (N_S_drawn d  σ4) fun v6 σ7 => (if (σ7.1 d 5) ≤ 0 then (some ((0 : Int32), σ7)) else (gd (nz (σ7.1 d 5)) (lt (si σ7 d 6 ((σ7.1 d 6) ^^^ ((1 : Int32) <<< ((irm v6 (σ7.1 d 5)) &&& 31)))) fun σ11 => (some ((0 : Int32), σ11))))))))
set_option maxRecDepth 100000 in
set_option maxHeartbeats 4000000 in
theorem c_N_S_drawWindAndCar {g : GP} {l : Launch} {A : Nat → Nat → Nat} {X : va_W} {v9 : Int32} {s9 : CS} {d : Nat} (hd : d < 3) {σ : CS} (h : N_S_drawWindAndCar d  σ = some (v9, s9)) : CV g l yX7_drawWindAndCar cX7_drawWindAndCar 2 { frames := 1, cells := 0, slots := 0, locals := 20 } [.ref (A d 99)] (wC g A σ X) (fun w => w = wC g A s9 X) := by
  refine CV.mk (by decide) (Nat.le_of_ble_eq_true rfl) (fun G hG hret => ?_)
  have K : ∀ L pc, decode cX7_drawWindAndCar pc = .ok (.return_, 1) → G 0 0 (wC g A s9 X) L pc [] := fun L pc d => hret _ L pc d rfl
  unfold N_S_drawWindAndCar at h
  refine g_aload_n hG dX7_drawWindAndCar_0 rfl ?_
  refine g_aload_n hG dX7_drawWindAndCar_1 rfl ?_
  obtain ⟨v1, σ2, q3, h⟩ := ob_some h
  refine g_cV hG dX7_drawWindAndCar_2 (c_N_S_drawn hd q3) b_X7_drawn v_X7_136 rfl (eS hd) rfl ⟨Nat.le_of_ble_eq_true rfl, Nat.le_of_ble_eq_true rfl⟩ ⟨rfl, rfl⟩ ⟨Nat.zero_le _, Nat.zero_le _⟩ _ rfl (Nat.le_of_ble_eq_true rfl) ?_
  refine g_bipushv hG dX7_drawWindAndCar_5 kb_10 ?_
  refine g_irm hG dX7_drawWindAndCar_7 (by decide) ?_
  obtain ⟨σ4, e5, h⟩ := lt_ex h
  refine t_put 8 hG hd e5 dX7_drawWindAndCar_8 f_X7_63 (by decide) (by decide) rfl rfl rfl ?_
  refine g_aload_n hG dX7_drawWindAndCar_11 rfl ?_
  obtain ⟨v6, σ7, q8, h⟩ := ob_some h
  refine g_cV hG dX7_drawWindAndCar_12 (c_N_S_drawn hd q8) b_X7_drawn v_X7_136 rfl (eS hd) rfl ⟨Nat.le_of_ble_eq_true rfl, Nat.le_of_ble_eq_true rfl⟩ ⟨rfl, rfl⟩ ⟨Nat.zero_le _, Nat.zero_le _⟩ _ rfl (Nat.le_of_ble_eq_true rfl) ?_
  refine g_istore_n hG dX7_drawWindAndCar_15 (by decide) ?_
  refine g_aload_n hG dX7_drawWindAndCar_16 rfl ?_
  refine g_get (f := 5) hG dX7_drawWindAndCar_17 (eS hd) rfl inX7 (by decide) rfl f_X7_54 rfl ?_
  rcases if_some h with ⟨c9, h⟩ | ⟨c9, h⟩
  · refine g_if_le (tgt := 40) hG dX7_drawWindAndCar_20 rfl (fun _ => ?_) (fun q => absurd c9 q)
    cases h
    exact K _ _ dX7_drawWindAndCar_40
  · refine g_if_le (tgt := 40) hG dX7_drawWindAndCar_20 rfl (fun q => absurd q c9) (fun _ => ?_)
    refine g_aload_n hG dX7_drawWindAndCar_23 rfl ?_
    refine g_dup hG dX7_drawWindAndCar_24 rfl ?_
    refine g_get (f := 6) hG dX7_drawWindAndCar_25 (eS hd) rfl inX7 (by decide) rfl f_X7_57 rfl ?_
    refine g_iconstv hG dX7_drawWindAndCar_28 ki_1 ?_
    refine g_iload_n hG dX7_drawWindAndCar_29 rfl ?_
    refine g_aload_n hG dX7_drawWindAndCar_30 rfl ?_
    refine g_get (f := 5) hG dX7_drawWindAndCar_31 (eS hd) rfl inX7 (by decide) rfl f_X7_54 rfl ?_
    obtain ⟨b10, h⟩ := gd_some h
    refine g_irm hG dX7_drawWindAndCar_34 (nz_ne b10) ?_
    refine g_ishl hG dX7_drawWindAndCar_35 ?_
    refine g_ixor hG dX7_drawWindAndCar_36 ?_
    obtain ⟨σ11, e12, h⟩ := lt_ex h
    refine t_put 6 hG hd e12 dX7_drawWindAndCar_37 f_X7_57 (by decide) (by decide) rfl rfl rfl ?_
    cases h
    exact K _ _ dX7_drawWindAndCar_40
def N_S_thinkOf (d e : Nat)  (σ : CS) : Option (Int32 × CS) := (lt (sa σ d 1 (va_cpy (σ.2.1 e 1) (σ.2.1 d 1) (ix (0 : Int32)) (ix (0 : Int32)) (ix (12 : Int32)))) fun σ2 => (lt (sa σ2 d 2 (va_cpy (σ2.2.1 e 2) (σ2.2.1 d 2) (ix (0 : Int32)) (ix (0 : Int32)) (ix (12 : Int32)))) fun σ5 => (lt (sa σ5 d 3 (va_cpy (σ5.2.1 e 3) (σ5.2.1 d 3) (ix (0 : Int32)) (ix (0 : Int32)) (ix (12 : Int32)))) fun σ8 => (lt (sa σ8 d 4 (va_cpy (σ8.2.1 e 4) (σ8.2.1 d 4) (ix (0 : Int32)) (ix (0 : Int32)) (ix (12 : Int32)))) fun σ11 => (lt (si σ11 d 5 (σ11.1 e 5)) fun σ13 => (lt (si σ13 d 6 (σ13.1 e 6)) fun σ15 => (lt (si σ15 d 7 (σ15.1 e 7)) fun σ17 => (lt (si σ17 d 8 (σ17.1 e 8)) fun σ19 => (lt (si σ19 d 9 (σ19.1 e 9)) fun σ21 => (lt (si σ21 d 10 (σ21.1 e 10)) fun σ23 => (lt (slw σ23 d 11 (σ23.2.2 e 11)) fun σ25 => (lt (slw σ25 d 12 (σ25.2.2 e 12)) fun σ27 => (some ((0 : Int32), σ27))))))))))))))
set_option maxRecDepth 100000 in
set_option maxHeartbeats 4000000 in
theorem c_N_S_thinkOf {g : GP} {l : Launch} {A : Nat → Nat → Nat} {X : va_W} {v9 : Int32} {s9 : CS} {d e : Nat} (hd : d < 3) (he : e < 3) {σ : CS} (h : N_S_thinkOf d e  σ = some (v9, s9)) : CV g l yX7_thinkOf cX7_thinkOf 2 { frames := 1, cells := 0, slots := 0, locals := 64 } [.ref (A d 99), .ref (A e 99)] (wC g A σ X) (fun w => w = wC g A s9 X) := by
  refine CV.mk (by decide) (Nat.le_of_ble_eq_true rfl) (fun G hG hret => ?_)
  have K : ∀ L pc, decode cX7_thinkOf pc = .ok (.return_, 1) → G 0 0 (wC g A s9 X) L pc [] := fun L pc d => hret _ L pc d rfl
  unfold N_S_thinkOf at h
  refine g_aload_n hG dX7_thinkOf_0 rfl ?_
  refine g_get (f := 1) hG dX7_thinkOf_1 (eS he) rfl inX7 (by decide) rfl f_X7_9 rfl ?_
  refine g_iconstv hG dX7_thinkOf_4 ki_0 ?_
  refine g_aload_n hG dX7_thinkOf_5 rfl ?_
  refine g_get (f := 1) hG dX7_thinkOf_6 (eS hd) rfl inX7 (by decide) rfl f_X7_9 rfl ?_
  refine g_iconstv hG dX7_thinkOf_9 ki_0 ?_
  refine g_bipushv hG dX7_thinkOf_10 kb_12 ?_
  obtain ⟨σ2, e3, h⟩ := lt_ex h
  refine c_copy hG e3 dX7_thinkOf_12 v_X7_48 na_ac st_ac in_System (aS1 he) (aS1 hd) (by decide) (Nat.le_of_ble_eq_true rfl) (by decide) ?_
  refine g_aload_n hG dX7_thinkOf_15 rfl ?_
  refine g_get (f := 2) hG dX7_thinkOf_16 (eS he) rfl inX7 (by decide) rfl f_X7_15 rfl ?_
  refine g_iconstv hG dX7_thinkOf_19 ki_0 ?_
  refine g_aload_n hG dX7_thinkOf_20 rfl ?_
  refine g_get (f := 2) hG dX7_thinkOf_21 (eS hd) rfl inX7 (by decide) rfl f_X7_15 rfl ?_
  refine g_iconstv hG dX7_thinkOf_24 ki_0 ?_
  refine g_bipushv hG dX7_thinkOf_25 kb_12 ?_
  obtain ⟨σ5, e6, h⟩ := lt_ex h
  refine c_copy hG e6 dX7_thinkOf_27 v_X7_48 na_ac st_ac in_System (aS2 he) (aS2 hd) (by decide) (Nat.le_of_ble_eq_true rfl) (by decide) ?_
  refine g_aload_n hG dX7_thinkOf_30 rfl ?_
  refine g_get (f := 3) hG dX7_thinkOf_31 (eS he) rfl inX7 (by decide) rfl f_X7_18 rfl ?_
  refine g_iconstv hG dX7_thinkOf_34 ki_0 ?_
  refine g_aload_n hG dX7_thinkOf_35 rfl ?_
  refine g_get (f := 3) hG dX7_thinkOf_36 (eS hd) rfl inX7 (by decide) rfl f_X7_18 rfl ?_
  refine g_iconstv hG dX7_thinkOf_39 ki_0 ?_
  refine g_bipushv hG dX7_thinkOf_40 kb_12 ?_
  obtain ⟨σ8, e9, h⟩ := lt_ex h
  refine c_copy hG e9 dX7_thinkOf_42 v_X7_48 na_ac st_ac in_System (aS3 he) (aS3 hd) (by decide) (Nat.le_of_ble_eq_true rfl) (by decide) ?_
  refine g_aload_n hG dX7_thinkOf_45 rfl ?_
  refine g_get (f := 4) hG dX7_thinkOf_46 (eS he) rfl inX7 (by decide) rfl f_X7_21 rfl ?_
  refine g_iconstv hG dX7_thinkOf_49 ki_0 ?_
  refine g_aload_n hG dX7_thinkOf_50 rfl ?_
  refine g_get (f := 4) hG dX7_thinkOf_51 (eS hd) rfl inX7 (by decide) rfl f_X7_21 rfl ?_
  refine g_iconstv hG dX7_thinkOf_54 ki_0 ?_
  refine g_bipushv hG dX7_thinkOf_55 kb_12 ?_
  obtain ⟨σ11, e12, h⟩ := lt_ex h
  refine c_copy hG e12 dX7_thinkOf_57 v_X7_48 na_ac st_ac in_System (aS4 he) (aS4 hd) (by decide) (Nat.le_of_ble_eq_true rfl) (by decide) ?_
  refine g_aload_n hG dX7_thinkOf_60 rfl ?_
  refine g_aload_n hG dX7_thinkOf_61 rfl ?_
  refine g_get (f := 5) hG dX7_thinkOf_62 (eS he) rfl inX7 (by decide) rfl f_X7_54 rfl ?_
  obtain ⟨σ13, e14, h⟩ := lt_ex h
  refine t_put 5 hG hd e14 dX7_thinkOf_65 f_X7_54 (by decide) (by decide) rfl rfl rfl ?_
  refine g_aload_n hG dX7_thinkOf_68 rfl ?_
  refine g_aload_n hG dX7_thinkOf_69 rfl ?_
  refine g_get (f := 6) hG dX7_thinkOf_70 (eS he) rfl inX7 (by decide) rfl f_X7_57 rfl ?_
  obtain ⟨σ15, e16, h⟩ := lt_ex h
  refine t_put 6 hG hd e16 dX7_thinkOf_73 f_X7_57 (by decide) (by decide) rfl rfl rfl ?_
  refine g_aload_n hG dX7_thinkOf_76 rfl ?_
  refine g_aload_n hG dX7_thinkOf_77 rfl ?_
  refine g_get (f := 7) hG dX7_thinkOf_78 (eS he) rfl inX7 (by decide) rfl f_X7_60 rfl ?_
  obtain ⟨σ17, e18, h⟩ := lt_ex h
  refine t_put 7 hG hd e18 dX7_thinkOf_81 f_X7_60 (by decide) (by decide) rfl rfl rfl ?_
  refine g_aload_n hG dX7_thinkOf_84 rfl ?_
  refine g_aload_n hG dX7_thinkOf_85 rfl ?_
  refine g_get (f := 8) hG dX7_thinkOf_86 (eS he) rfl inX7 (by decide) rfl f_X7_63 rfl ?_
  obtain ⟨σ19, e20, h⟩ := lt_ex h
  refine t_put 8 hG hd e20 dX7_thinkOf_89 f_X7_63 (by decide) (by decide) rfl rfl rfl ?_
  refine g_aload_n hG dX7_thinkOf_92 rfl ?_
  refine g_aload_n hG dX7_thinkOf_93 rfl ?_
  refine g_get (f := 9) hG dX7_thinkOf_94 (eS he) rfl inX7 (by decide) rfl f_X7_24 rfl ?_
  obtain ⟨σ21, e22, h⟩ := lt_ex h
  refine t_put 9 hG hd e22 dX7_thinkOf_97 f_X7_24 (by decide) (by decide) rfl rfl rfl ?_
  refine g_aload_n hG dX7_thinkOf_100 rfl ?_
  refine g_aload_n hG dX7_thinkOf_101 rfl ?_
  refine g_get (f := 10) hG dX7_thinkOf_102 (eS he) rfl inX7 (by decide) rfl f_X7_66 rfl ?_
  obtain ⟨σ23, e24, h⟩ := lt_ex h
  refine t_put 10 hG hd e24 dX7_thinkOf_105 f_X7_66 (by decide) (by decide) rfl rfl rfl ?_
  refine g_aload_n hG dX7_thinkOf_108 rfl ?_
  refine g_aload_n hG dX7_thinkOf_109 rfl ?_
  refine g_get (f := 11) hG dX7_thinkOf_110 (eS he) rfl inX7 (by decide) rfl f_X7_41 rfl ?_
  obtain ⟨σ25, e26, h⟩ := lt_ex h
  refine t_putL 11 hG hd e26 dX7_thinkOf_113 f_X7_41 (by decide) (by decide) rfl rfl rfl ?_
  refine g_aload_n hG dX7_thinkOf_116 rfl ?_
  refine g_aload_n hG dX7_thinkOf_117 rfl ?_
  refine g_get (f := 12) hG dX7_thinkOf_118 (eS he) rfl inX7 (by decide) rfl f_X7_45 rfl ?_
  obtain ⟨σ27, e28, h⟩ := lt_ex h
  refine t_putL 12 hG hd e28 dX7_thinkOf_121 f_X7_45 (by decide) (by decide) rfl rfl rfl ?_
  cases h
  exact K _ _ dX7_thinkOf_124
def N_S_keepAllOf (d e : Nat)  (σ : CS) : Option (Int32 × CS) := (ob (N_S_thinkOf d e  σ) fun v1 σ2 => (lt (sa σ2 d 13 (va_cpy (σ2.2.1 e 13) (σ2.2.1 d 13) (ix (0 : Int32)) (ix (0 : Int32)) (ix (50 : Int32)))) fun σ5 => (lt (si σ5 d 14 (σ5.1 e 14)) fun σ7 => (lt (sa σ7 d 15 (va_cpy (σ7.2.1 e 15) (σ7.2.1 d 15) (ix (0 : Int32)) (ix (0 : Int32)) (ix (20 : Int32)))) fun σ10 => (lt (si σ10 d 16 (σ10.1 e 16)) fun σ12 => (lt (si σ12 d 17 (σ12.1 e 17)) fun σ14 => (some ((0 : Int32), σ14))))))))
set_option maxRecDepth 100000 in
set_option maxHeartbeats 4000000 in
theorem c_N_S_keepAllOf {g : GP} {l : Launch} {A : Nat → Nat → Nat} {X : va_W} {v9 : Int32} {s9 : CS} {d e : Nat} (hd : d < 3) (he : e < 3) {σ : CS} (h : N_S_keepAllOf d e  σ = some (v9, s9)) : CV g l yX7_keepAllOf cX7_keepAllOf 2 { frames := 2, cells := 0, slots := 0, locals := 85 } [.ref (A d 99), .ref (A e 99)] (wC g A σ X) (fun w => w = wC g A s9 X) := by
  refine CV.mk (by decide) (Nat.le_of_ble_eq_true rfl) (fun G hG hret => ?_)
  have K : ∀ L pc, decode cX7_keepAllOf pc = .ok (.return_, 1) → G 0 0 (wC g A s9 X) L pc [] := fun L pc d => hret _ L pc d rfl
  unfold N_S_keepAllOf at h
  refine g_aload_n hG dX7_keepAllOf_0 rfl ?_
  refine g_aload_n hG dX7_keepAllOf_1 rfl ?_
  obtain ⟨v1, σ2, q3, h⟩ := ob_some h
  refine g_cVv hG dX7_keepAllOf_2 (c_N_S_thinkOf hd he q3) b_X7_thinkOf v_X7_69 rfl (eS hd) rfl ⟨Nat.le_of_ble_eq_true rfl, Nat.le_of_ble_eq_true rfl⟩ ⟨rfl, rfl⟩ ⟨Nat.zero_le _, Nat.zero_le _⟩ _ rfl (Nat.le_of_ble_eq_true rfl) ?_
  refine g_aload_n hG dX7_keepAllOf_5 rfl ?_
  refine g_get (f := 13) hG dX7_keepAllOf_6 (eS he) rfl inX7 (by decide) rfl f_X7_28 rfl ?_
  refine g_iconstv hG dX7_keepAllOf_9 ki_0 ?_
  refine g_aload_n hG dX7_keepAllOf_10 rfl ?_
  refine g_get (f := 13) hG dX7_keepAllOf_11 (eS hd) rfl inX7 (by decide) rfl f_X7_28 rfl ?_
  refine g_iconstv hG dX7_keepAllOf_14 ki_0 ?_
  refine g_bipushv hG dX7_keepAllOf_15 kb_50 ?_
  obtain ⟨σ5, e6, h⟩ := lt_ex h
  refine c_copy hG e6 dX7_keepAllOf_17 v_X7_48 na_ac st_ac in_System (aS13 he) (aS13 hd) (by decide) (Nat.le_of_ble_eq_true rfl) (by decide) ?_
  refine g_aload_n hG dX7_keepAllOf_20 rfl ?_
  refine g_aload_n hG dX7_keepAllOf_21 rfl ?_
  refine g_get (f := 14) hG dX7_keepAllOf_22 (eS he) rfl inX7 (by decide) rfl f_X7_73 rfl ?_
  obtain ⟨σ7, e8, h⟩ := lt_ex h
  refine t_put 14 hG hd e8 dX7_keepAllOf_25 f_X7_73 (by decide) (by decide) rfl rfl rfl ?_
  refine g_aload_n hG dX7_keepAllOf_28 rfl ?_
  refine g_get (f := 15) hG dX7_keepAllOf_29 (eS he) rfl inX7 (by decide) rfl f_X7_31 rfl ?_
  refine g_iconstv hG dX7_keepAllOf_32 ki_0 ?_
  refine g_aload_n hG dX7_keepAllOf_33 rfl ?_
  refine g_get (f := 15) hG dX7_keepAllOf_34 (eS hd) rfl inX7 (by decide) rfl f_X7_31 rfl ?_
  refine g_iconstv hG dX7_keepAllOf_37 ki_0 ?_
  refine g_bipushv hG dX7_keepAllOf_38 kb_20 ?_
  obtain ⟨σ10, e11, h⟩ := lt_ex h
  refine c_copy hG e11 dX7_keepAllOf_40 v_X7_48 na_ac st_ac in_System (aS15 he) (aS15 hd) (by decide) (Nat.le_of_ble_eq_true rfl) (by decide) ?_
  refine g_aload_n hG dX7_keepAllOf_43 rfl ?_
  refine g_aload_n hG dX7_keepAllOf_44 rfl ?_
  refine g_get (f := 16) hG dX7_keepAllOf_45 (eS he) rfl inX7 (by decide) rfl f_X7_76 rfl ?_
  obtain ⟨σ12, e13, h⟩ := lt_ex h
  refine t_put 16 hG hd e13 dX7_keepAllOf_48 f_X7_76 (by decide) (by decide) rfl rfl rfl ?_
  refine g_aload_n hG dX7_keepAllOf_51 rfl ?_
  refine g_aload_n hG dX7_keepAllOf_52 rfl ?_
  refine g_get (f := 17) hG dX7_keepAllOf_53 (eS he) rfl inX7 (by decide) rfl f_X7_34 rfl ?_
  obtain ⟨σ14, e15, h⟩ := lt_ex h
  refine t_put 17 hG hd e15 dX7_keepAllOf_56 f_X7_34 (by decide) (by decide) rfl rfl rfl ?_
  cases h
  exact K _ _ dX7_keepAllOf_59
def N_P_open (x1 : Int32) (x2 : Int32) (σ : CS) : Option (Int32 × CS) := (lt (si σ 4 2 x1) fun σ1 => (lt (si σ1 4 3 x2) fun σ3 => (lt (si σ3 4 1 (0 : Int32)) fun σ5 => (some ((0 : Int32), σ5)))))
set_option maxRecDepth 100000 in
set_option maxHeartbeats 4000000 in
theorem c_N_P_open {g : GP} {l : Launch} {A : Nat → Nat → Nat} {X : va_W} {v9 : Int32} {s9 : CS} {x1 : Int32} {x2 : Int32} {σ : CS} (h : N_P_open x1 x2 σ = some (v9, s9)) : CV g l yX6_open cX6_open 3 { frames := 0, cells := 0, slots := 0, locals := 0 } [.ref (A 4 99), .int x1, .int x2] (wC g A σ X) (fun w => w = wC g A s9 X) := by
  refine CV.mk (by decide) (Nat.le_of_ble_eq_true rfl) (fun G hG hret => ?_)
  have K : ∀ L pc, decode cX6_open pc = .ok (.return_, 1) → G 0 0 (wC g A s9 X) L pc [] := fun L pc d => hret _ L pc d rfl
  unfold N_P_open at h
  refine g_aload_n hG dX6_open_0 rfl ?_
  refine g_iload_n hG dX6_open_1 rfl ?_
  obtain ⟨σ1, e2, h⟩ := lt_ex h
  refine p_put 2 hG e2 dX6_open_2 f_X6_15 (by decide) (by decide) rfl rfl rfl ?_
  refine g_aload_n hG dX6_open_5 rfl ?_
  refine g_iload_n hG dX6_open_6 rfl ?_
  obtain ⟨σ3, e4, h⟩ := lt_ex h
  refine p_put 3 hG e4 dX6_open_7 f_X6_19 (by decide) (by decide) rfl rfl rfl ?_
  refine g_aload_n hG dX6_open_10 rfl ?_
  refine g_iconstv hG dX6_open_11 ki_0 ?_
  obtain ⟨σ5, e6, h⟩ := lt_ex h
  refine p_put 1 hG e6 dX6_open_12 f_X6_22 (by decide) (by decide) rfl rfl rfl ?_
  cases h
  exact K _ _ dX6_open_15
def N_P_begin (x1 : Int32) (σ : CS) : Option (Int32 × CS) := (if (40 : Int32) ≤ (σ.1 4 1) then (some ((0 : Int32), σ)) else (gd (inb (σ.1 4 1) 40) (lt (sa σ 4 0 (upd (σ.2.1 4 0) (ix (σ.1 4 1)) x1)) fun σ2 => (lt (si σ2 4 1 ((σ2.1 4 1) + (1 : Int32))) fun σ5 => (some ((0 : Int32), σ5))))))
set_option maxRecDepth 100000 in
set_option maxHeartbeats 4000000 in
theorem c_N_P_begin {g : GP} {l : Launch} {A : Nat → Nat → Nat} {X : va_W} {v9 : Int32} {s9 : CS} {x1 : Int32} {σ : CS} (h : N_P_begin x1 σ = some (v9, s9)) : CV g l yX6_begin cX6_begin 2 { frames := 0, cells := 0, slots := 0, locals := 0 } [.ref (A 4 99), .int x1] (wC g A σ X) (fun w => w = wC g A s9 X) := by
  refine CV.mk (by decide) (Nat.le_of_ble_eq_true rfl) (fun G hG hret => ?_)
  have K : ∀ L pc, decode cX6_begin pc = .ok (.return_, 1) → G 0 0 (wC g A s9 X) L pc [] := fun L pc d => hret _ L pc d rfl
  unfold N_P_begin at h
  refine g_aload_n hG dX6_begin_0 rfl ?_
  refine g_get (f := 1) hG dX6_begin_1 (eP g A _ X) rfl inX6 (by decide) rfl f_X6_22 rfl ?_
  refine g_aload_n hG dX6_begin_4 rfl ?_
  refine g_get (f := 0) hG dX6_begin_5 (eP g A _ X) rfl inX6 (by decide) rfl f_X6_9 rfl ?_
  refine c_alen (v := (40 : Int32)) hG dX6_begin_8 aP0 (by decide) ?_
  rcases if_some h with ⟨c1, h⟩ | ⟨c1, h⟩
  · refine g_icmp_ge (tgt := 32) hG dX6_begin_9 rfl (fun _ => ?_) (fun q => absurd c1 q)
    cases h
    exact K _ _ dX6_begin_32
  · refine g_icmp_ge (tgt := 32) hG dX6_begin_9 rfl (fun q => absurd q c1) (fun _ => ?_)
    refine g_aload_n hG dX6_begin_12 rfl ?_
    refine g_get (f := 0) hG dX6_begin_13 (eP g A _ X) rfl inX6 (by decide) rfl f_X6_9 rfl ?_
    refine g_aload_n hG dX6_begin_16 rfl ?_
    refine g_get (f := 1) hG dX6_begin_17 (eP g A _ X) rfl inX6 (by decide) rfl f_X6_22 rfl ?_
    refine g_iload_n hG dX6_begin_20 rfl ?_
    obtain ⟨b4, h⟩ := gd_some h
    obtain ⟨σ2, e3, h⟩ := lt_ex h
    refine c_iast hG e3 dX6_begin_21 aP0 b4 rfl ?_
    refine g_aload_n hG dX6_begin_22 rfl ?_
    refine g_dup hG dX6_begin_23 rfl ?_
    refine g_get (f := 1) hG dX6_begin_24 (eP g A _ X) rfl inX6 (by decide) rfl f_X6_22 rfl ?_
    refine g_iconstv hG dX6_begin_27 ki_1 ?_
    refine g_iadd hG dX6_begin_28 ?_
    obtain ⟨σ5, e6, h⟩ := lt_ex h
    refine p_put 1 hG e6 dX6_begin_29 f_X6_22 (by decide) (by decide) rfl rfl rfl ?_
    cases h
    exact K _ _ dX6_begin_32
