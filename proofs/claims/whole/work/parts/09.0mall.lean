/-! moveAll of the reference, by hand: arrays f and t of its fields -/
def mcp (f h : Nat → Int32) (n : Nat) : Nat → Int32 := fun k => if k < n then f k else h k
theorem mcp_0 (f h : Nat → Int32) : mcp f h 0 = h := by funext k; simp [mcp]
theorem mcp_s (f h : Nat → Int32) (n : Nat) : upd (mcp f h n) n (f n) = mcp f h (n + 1) := by
  funext k
  unfold upd mcp
  by_cases e : k = n
  · subst e; simp
  · by_cases e2 : k < n
    · have : k < n + 1 := by omega
      simp [e, e2, this]
    · have : ¬ k < n + 1 := by omega
      simp [e, e2, this]
def M_moveAll (f t : Nat) (σ : RS) : Option (Int32 × RS) := some (0, ra σ t (mcp (σ.2 f) (σ.2 t) 240))
/-- the arrays' places -/
def mvk (f : Nat) : Nat := f + 1
set_option maxRecDepth 100000 in
set_option maxHeartbeats 4000000 in
theorem c_M_moveAll {g : GP} {l : Launch} {r : Nat → Nat} {X : va_W} {f t : Nat} (hf : f < 4) (ht : t < 4) (hft : f ≠ t) {σ : RS} {v9 : Int32} {s9 : RS} (h : M_moveAll f t σ = some (v9, s9)) : CV g l yX12_moveAll cX12_moveAll 4 { frames := 0, cells := 0, slots := 0, locals := 0 } [.ref (r 25), .ref (r f), .ref (r t)] (wR g r σ X) (fun w => w = wR g r s9 X) := by
  cases h
  have e1 : ∀ τ : RS, (wR g r τ X)[mvk f]? = some (rar g r τ f 240) := by
    intro τ
    rcases (show f = 0 ∨ f = 1 ∨ f = 2 ∨ f = 3 by omega) with rfl | rfl | rfl | rfl <;> rfl
  have e2 : ∀ τ : RS, (wR g r τ X)[mvk t]? = some (rar g r τ t 240) := by
    intro τ
    rcases (show t = 0 ∨ t = 1 ∨ t = 2 ∨ t = 3 by omega) with rfl | rfl | rfl | rfl <;> rfl
  have e3 : ∀ (τ : RS) (q : Nat → Int32), (wR g r τ X).set (mvk t) (r t, .inl (g.2.1 0, 240, .inl q)) = wR g r (ra τ t q) X := by
    intro τ q
    rcases (show t = 0 ∨ t = 1 ∨ t = 2 ∨ t = 3 by omega) with rfl | rfl | rfl | rfl <;> rfl
  refine CV.mk (by decide) (Nat.le_of_ble_eq_true rfl) (fun G hG hret => ?_)
  have loop : ∀ (n k : Nat), k + n = 240 → G 0 0 (wR g r (ra σ t (mcp (σ.2 f) (σ.2 t) k)) X) [(0, .ref (r 25)), (1, .ref (r f)), (2, .ref (r t)), (3, .int (nI k))] 2 [] := by
    intro n
    induction n with
    | zero =>
      intro k hk
      obtain rfl : k = 240 := by omega
      refine g_iload_n hG dX12_moveAll_2 rfl ?_
      refine g_sipushv hG dX12_moveAll_3 ks_240 ?_
      refine g_icmp_ge (tgt := 21) hG dX12_moveAll_6 rfl (fun _ => ?_) (fun q => absurd (by decide) q)
      exact hret _ _ 21 dX12_moveAll_21 rfl
    | succ n ih =>
      intro k hk
      have hin : inb (nI k) 240 = true := by
        have h1 := vp_in_nI (n := k) (N := 240) (by omega) (by omega)
        unfold vp_in at h1
        unfold inb
        simpa using h1
      refine g_iload_n hG dX12_moveAll_2 rfl ?_
      refine g_sipushv hG dX12_moveAll_3 ks_240 ?_
      refine g_icmp_ge (tgt := 21) hG dX12_moveAll_6 rfl (fun q => absurd q (nI_ge (a := k) (b := 240) (by omega) (by omega))) (fun _ => ?_)
      refine g_aload_n hG dX12_moveAll_9 rfl ?_
      refine g_iload_n hG dX12_moveAll_10 rfl ?_
      refine g_aload_n hG dX12_moveAll_11 rfl ?_
      refine g_iload_n hG dX12_moveAll_12 rfl ?_
      refine r_iald (mvk f) f 240 hG dX12_moveAll_13 (e1 _) hin (nI_clamp (by omega)) ?_
      refine r_iast (σ' := ra (ra σ t (mcp (σ.2 f) (σ.2 t) k)) t (upd ((ra σ t (mcp (σ.2 f) (σ.2 t) k)).2 t) k ((ra σ t (mcp (σ.2 f) (σ.2 t) k)).2 f k))) (mvk t) t 240 hG rfl dX12_moveAll_14 (e2 _) hin (nI_clamp (by omega)) (e3 _ _) ?_
      refine g_iincv (c := (1 : Int32)) hG dX12_moveAll_15 rfl (by decide) (by decide) ?_
      refine g_goto (tgt := 2) hG dX12_moveAll_18 rfl ?_
      have h2 := ih (k + 1) (by omega)
      have e4 : ra (ra σ t (mcp (σ.2 f) (σ.2 t) k)) t (upd ((ra σ t (mcp (σ.2 f) (σ.2 t) k)).2 t) k ((ra σ t (mcp (σ.2 f) (σ.2 t) k)).2 f k)) = ra σ t (mcp (σ.2 f) (σ.2 t) (k + 1)) := by
        have a1 : (ra σ t (mcp (σ.2 f) (σ.2 t) k)).2 t = mcp (σ.2 f) (σ.2 t) k := by simp [ra, va_up]
        have a2 : (ra σ t (mcp (σ.2 f) (σ.2 t) k)).2 f = σ.2 f := by simp [ra, va_up, hft]
        rw [a1, a2, mcp_s]
        simp only [ra]
        congr 1
        funext j
        unfold va_up
        by_cases e : j = t <;> simp [e]
      rw [e4]
      refine g_loc hG [(0, .ref (r 25)), (1, .ref (r f)), (2, .ref (r t)), (3, .int (nI (k + 1)))] ⟨rfl, rfl, rfl, (by rw [← nI_1]; rfl), trivial⟩ ?_
      exact h2
  refine g_iconstv hG dX12_moveAll_0 ki_0 ?_
  refine g_istore_n hG dX12_moveAll_1 (by decide) ?_
  have h0 := loop 240 0 (by omega)
  rw [mcp_0] at h0
  have e5 : ra σ t (σ.2 t) = σ := by
    unfold ra va_up
    apply Prod.ext
    · rfl
    · funext j
      by_cases e : j = t <;> simp [e]
  rw [e5] at h0
  refine g_loc hG [(0, .ref (r 25)), (1, .ref (r f)), (2, .ref (r t)), (3, .int (nI 0))] ⟨rfl, rfl, rfl, rfl, trivial⟩ ?_
  exact h0
