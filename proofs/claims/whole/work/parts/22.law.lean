theorem last_at {α : Type} (l : List α) (x : α) : (l ++ [x])[l.length]? = some x := by simp
theorem last_set {α : Type} (l : List α) (x y : α) : (l ++ [x]).set l.length y = l ++ [y] := by
  rw [List.set_append_right _ _ (Nat.le_refl _), Nat.sub_self]
  rfl
theorem c_L_init {g : GP} {l : Launch} {hp : va_W} {k k2 a a2 n : Nat} {f : Nat → Int32} {u : Int32} (he : hp[k]? = some (a, .inr (4, [.int 0, .null, .null]))) (he2 : hp[k2]? = some (a2, .inl (g.2.1 0, n, .inl f))) (hn : n ≤ 50) : CV g l yX4_init cX4_init 3 { frames := 1, cells := 1, slots := n, locals := 40 } [.ref a, .int u, .ref a2] hp (fun w => ∃ q, w = hp.set k (a, .inr (4, [.int u, .ref a2, .ref q])) ++ [(q, .inl (g.2.1 0, n, .inl (fun _ => 0)))]) := by
  refine CV.mk (by decide) (Nat.le_of_ble_eq_true rfl) (fun G hG hret => ?_)
  have hk : k < hp.length := (List.getElem?_eq_some_iff.mp he).1
  have hk2 : k2 < hp.length := (List.getElem?_eq_some_iff.mp he2).1
  have hne : k ≠ k2 := fun e => by subst e; rw [he] at he2; cases he2
  refine g_aload_n hG dX4_init_0 rfl ?_
  refine g_obj hG dX4_init_1 ol_X4_3 oi_1 oi_2 (Nat.le_of_ble_eq_true rfl) (Nat.le_of_ble_eq_true rfl) ?_
  refine g_aload_n hG dX4_init_4 rfl ?_
  refine g_iload_n hG dX4_init_5 rfl ?_
  refine g_putF (f := 0) hG dX4_init_6 he rfl inX4 tyX4_ok nmX4 (by decide) rfl rfl f_X4_9 rfl rfl rfl rfl (by decide) ?_
  refine g_aload_n hG dX4_init_9 rfl ?_
  refine g_aload_n hG dX4_init_10 rfl ?_
  refine g_putF (f := 1) (k := k) (ci := 4) (fs := [.int u, .null, .null]) hG dX4_init_11 (List.getElem?_set_self hk) rfl inX4 tyX4_ok nmX4 (by decide) rfl rfl f_X4_15 rfl rfl rfl rfl (Nat.le_of_ble_eq_true rfl) ?_
  rw [List.set_set]
  refine g_aload_n hG dX4_init_14 rfl ?_
  refine g_aload_n hG dX4_init_15 rfl ?_
  refine g_alen (k := k2) hG dX4_init_16 (by rw [List.getElem?_set_ne hne]; exact he2) ?_
  refine g_newa (N := n) hG dX4_init_17 aw_int (by exact nI_pos (n := n) (by omega)) (by exact nI_clamp (n := n) (by omega)) (by omega) (by show 0 + 1 ≤ 1; omega) (by show 0 + n ≤ n; omega) (fun q => ?_)
  refine g_putF (f := 2) (k := k) (ci := 4) (fs := [.int u, .ref a2, .null]) hG dX4_init_19 (by rw [List.getElem?_append_left (by rw [List.length_set]; exact hk)]; exact List.getElem?_set_self hk) rfl inX4 tyX4_ok nmX4 (by decide) rfl rfl f_X4_19 rfl rfl rfl rfl (Nat.le_of_ble_eq_true rfl) ?_
  rw [List.set_append_left _ _ (by rw [List.length_set]; exact hk), List.set_set]
  refine g_widen hG (k := 1) (n := n) (by omega) (by omega) ?_
  exact hret _ _ 22 dX4_init_22 ⟨q, rfl⟩
def lawsok (σ : CS) : Bool := decide (σ.2.2 0 11 < σ.2.2 7 0) && (decide (σ.2.2 0 12 < σ.2.2 7 0) && (decide (σ.2.2 1 11 < σ.2.2 7 0) && (decide (σ.2.2 1 12 < σ.2.2 7 0) && (decide (σ.2.2 2 11 < σ.2.2 7 0) && decide (σ.2.2 2 12 < σ.2.2 7 0)))))
/-- the state with one more law: what the reader has written -/
def lawNew (σ : CS) : CS := (up2 σ.1 (σ.2.2 7 0 + 8) 0 (σ.1 3 5), up2 (up2 σ.2.1 (σ.2.2 7 0 + 8) 1 (va_cpy (σ.2.1 3 1) (fun _ => 0) 0 0 (ix (σ.1 3 4)))) (σ.2.2 7 0 + 8) 2 (fun _ => 0), up2 (up2 σ.2.2 (σ.2.2 7 0 + 8) 0 (ix (σ.1 3 4))) 7 0 (σ.2.2 7 0 + 1))
def N_Q_lawRead (σ : CS) : Option (Nat × CS) := gd (inb (σ.1 3 4) 51) (gd (lawsok σ) (some (σ.2.2 7 0, lawNew σ)))
theorem lawNew_fx {g : GP} {A A1 : Nat → Nat → Nat} {σ : CS} (hA : ∀ o f, o < σ.2.2 7 0 + 8 → A1 o f = A o f) (hok : lawsok σ = true) (Y : va_W) : fx g A1 (lawNew σ) Y = fx g A σ Y := by
  unfold lawsok at hok
  simp only [Bool.and_eq_true, decide_eq_true_eq] at hok
  obtain ⟨k1, k2, k3, k4, k5, k6⟩ := hok
  have a : ∀ o f, o < 8 → A1 o f = A o f := fun o f h => hA o f (by omega)
  have e1 : ∀ o f, o < 8 → (lawNew σ).1 o f = σ.1 o f := fun o f h => by
    have h1 : ¬ o = σ.2.2 7 0 + 8 := by omega
    simp [lawNew, up2, h1]
  have e2 : ∀ o f, o < 8 → (lawNew σ).2.1 o f = σ.2.1 o f := fun o f h => by
    have h1 : ¬ o = σ.2.2 7 0 + 8 := by omega
    simp [lawNew, up2, h1]
  have e3 : ∀ o f, o < 7 → (lawNew σ).2.2 o f = σ.2.2 o f := fun o f h => by
    have h1 : ¬ o = σ.2.2 7 0 + 8 := by omega
    have h2 : ¬ o = 7 := by omega
    simp [lawNew, up2, h1, h2]
  have b : ∀ x, x < σ.2.2 7 0 → A1 (x + 8) 99 = A (x + 8) 99 := fun x h => hA _ _ (by omega)
  unfold fx wst car sfs tfs qfs pfs
  simp only [e1 _ _ (show 0 < 8 by decide), e1 _ _ (show 1 < 8 by decide), e1 _ _ (show 2 < 8 by decide), e1 _ _ (show 3 < 8 by decide), e1 _ _ (show 4 < 8 by decide), e1 _ _ (show 5 < 8 by decide), e2 _ _ (show 0 < 8 by decide), e2 _ _ (show 1 < 8 by decide), e2 _ _ (show 2 < 8 by decide), e2 _ _ (show 3 < 8 by decide), e2 _ _ (show 4 < 8 by decide), e2 _ _ (show 5 < 8 by decide), e2 _ _ (show 6 < 8 by decide), e3 _ _ (show 0 < 7 by decide), e3 _ _ (show 1 < 7 by decide), e3 _ _ (show 2 < 7 by decide), b _ k1, b _ k2, b _ k3, b _ k4, b _ k5, b _ k6, a _ _ (show 0 < 8 by decide), a _ _ (show 1 < 8 by decide), a _ _ (show 2 < 8 by decide), a _ _ (show 3 < 8 by decide), a _ _ (show 4 < 8 by decide), a _ _ (show 5 < 8 by decide), a _ _ (show 6 < 8 by decide), a _ _ (show 7 < 8 by decide)]
theorem lpool_A {g : GP} {A A1 : Nat → Nat → Nat} {σ τ : CS} : ∀ n, (∀ k, k < n → (∀ f, A1 (k + 8) f = A (k + 8) f) ∧ τ.1 (k + 8) 0 = σ.1 (k + 8) 0 ∧ τ.2.1 (k + 8) 1 = σ.2.1 (k + 8) 1 ∧ τ.2.1 (k + 8) 2 = σ.2.1 (k + 8) 2 ∧ τ.2.2 (k + 8) 0 = σ.2.2 (k + 8) 0) → lpool g A1 τ n = lpool g A σ n
  | 0, _ => rfl
  | n + 1, h => by
    obtain ⟨h0, h1, h2, h3, h4⟩ := h n (by omega)
    show lpool g A1 τ n ++ _ = lpool g A σ n ++ _
    rw [lpool_A n (fun k hk => h k (by omega))]
    unfold car lfs
    rw [h0, h0, h0, h1, h2, h3, h4]
theorem lawNew_perm {g : GP} {A : Nat → Nat → Nat} {σ : CS} {X : va_W} (hok : lawsok σ = true) (q1 q2 q3 : Nat) :
    ((wC g A σ X ++ ([(q1, .inl (g.2.1 0, ix (σ.1 3 4), .inl (va_cpy (σ.2.1 3 1) (fun _ => 0) 0 0 (ix (σ.1 3 4)))))] : va_W)) ++ ([(q2, .inr (4, [.int (σ.1 3 5), .ref q1, .ref q3]))] : va_W) ++ ([(q3, .inl (g.2.1 0, ix (σ.1 3 4), .inl (fun _ => 0)))] : va_W)).Perm (wC g (fun o f => if o = σ.2.2 7 0 + 8 then (if f = 99 then q2 else if f = 1 then q1 else q3) else A o f) (lawNew σ) X) := by
  have hA : ∀ o f, o < σ.2.2 7 0 + 8 → (fun o f => if o = σ.2.2 7 0 + 8 then (if f = 99 then q2 else if f = 1 then q1 else q3) else A o f) o f = A o f := fun o f h => by
    have h1 : ¬ o = σ.2.2 7 0 + 8 := by omega
    simp [h1]
  generalize hA1 : (fun o f => if o = σ.2.2 7 0 + 8 then (if f = 99 then q2 else if f = 1 then q1 else q3) else A o f : Nat → Nat → Nat) = A1 at hA ⊢
  have hp : lpool g A1 (lawNew σ) (σ.2.2 7 0) = lpool g A σ (σ.2.2 7 0) := by
    refine lpool_A _ (fun k hk => ⟨fun f => hA _ _ (by omega), ?_, ?_, ?_, ?_⟩)
    · have h1 : ¬ k = σ.2.2 7 0 := by omega
      simp [lawNew, up2, h1]
    · have h1 : ¬ k = σ.2.2 7 0 := by omega
      simp [lawNew, up2, h1]
    · have h1 : ¬ k = σ.2.2 7 0 := by omega
      simp [lawNew, up2, h1]
    · have h1 : ¬ k = σ.2.2 7 0 := by omega
      simp [lawNew, up2, h1]
  have hw : wC g A1 (lawNew σ) X = fx g A σ ((lpool g A σ (σ.2.2 7 0) ++ [(q2, .inr (4, [.int (σ.1 3 5), .ref q1, .ref q3])), (q1, .inl (g.2.1 0, ix (σ.1 3 4), .inl (va_cpy (σ.2.1 3 1) (fun _ => 0) 0 0 (ix (σ.1 3 4))))), (q3, .inl (g.2.1 0, ix (σ.1 3 4), .inl (fun _ => 0)))]) ++ X) := by
    unfold wC
    rw [lawNew_fx hA hok]
    congr 2
    have hn : (lawNew σ).2.2 7 0 = σ.2.2 7 0 + 1 := by simp [lawNew, up2]
    rw [hn]
    show lpool g A1 (lawNew σ) (σ.2.2 7 0) ++ _ = _
    rw [hp]
    congr 1
    have t1 : A1 (σ.2.2 7 0 + 8) 99 = q2 := by rw [← hA1]; simp
    have t2 : A1 (σ.2.2 7 0 + 8) 1 = q1 := by rw [← hA1]; simp
    have t3 : A1 (σ.2.2 7 0 + 8) 2 = q3 := by rw [← hA1]; simp
    unfold car lfs
    rw [t1, t2, t3]
    simp [lawNew, up2]
  rw [hw]
  have hfx : ∀ Y Z : va_W, fx g A σ Y ++ Z = fx g A σ (Y ++ Z) := fun _ _ => rfl
  have hfp : ∀ Y Z : va_W, Y.Perm Z → (fx g A σ Y).Perm (fx g A σ Z) := fun Y Z h => by
    have e : ∀ Y, fx g A σ Y = fx g A σ [] ++ Y := fun _ => rfl
    rw [e Y, e Z]
    exact h.append_left _
  show ((fx g A σ (lpool g A σ (σ.2.2 7 0) ++ X) ++ _) ++ _ ++ _).Perm _
  rw [hfx, hfx, hfx]
  refine hfp _ _ ?_
  rw [List.append_assoc, List.append_assoc, List.append_assoc, List.append_assoc]
  refine List.Perm.append_left _ ?_
  refine List.perm_append_comm.trans ?_
  refine List.Perm.append_right _ ?_
  exact List.Perm.swap _ _ _
