/-! what the numbers of the two objects say of the abstract state -/
def xb (b : Bool) : Nat := if b = true then 1 else 0
theorem xb_le (b : Bool) : xb b ≤ 1 := by cases b <;> decide
theorem xb_one {b : Bool} : xb b = 1 ↔ b = true := by cases b <;> decide
theorem xb_zero {b : Bool} : xb b = 0 ↔ b = false := by cases b <;> decide
def xr_tx (σ : gx_M) (a : ab_S) : Prop := ∀ t, t < 21 → σ (nTx t) 4 = (ab_op a t).length ∧ σ (nTx t) 5 = xb (ab_cl a t) ∧ (∀ i o, (ab_op a t)[i]? = some o → σ (nTk t) i = o.1 ∧ σ (nTy t) i = o.2.1 ∧ σ (nTa t) i = o.2.2) ∧ ∀ k, k < 12 → σ (nTn t) k = pu_need (ab_op a t) k
def xr_rp (σ : gx_M) (a : ab_S) : Prop := ∀ g r, g < 4 → r < 3 → σ (nRp g r) 2 = xb (ab_up a g r) ∧ σ (nRp g r) 3 = ab_vi a g r ∧ σ (nRp g r) 4 = (ab_lg a g r).length ∧ σ (nRp g r) 5 = ab_dn a g r ∧ ∀ i e, (ab_lg a g r)[i]? = some e → σ (nLg g r) i = 3 * e.2 + e.1
def xr_ss (σ : gx_M) (a : ab_S) : Prop := ∀ s r, s < 3 → r < 3 → σ (nSt s r) 0 = s ∧ pt_T (ab_op a) s (ab_ex a s r) (σ (nSv s r)) (σ (nSa s r)) (σ (nSh s r)) (σ (nSo s r)) (σ (nSf s r)) (σ (nSn s r))
def xr_ds (σ : gx_M) (a : ab_S) : Prop := ∀ r, r < 3 → ∀ t, t < 21 → σ (nDd r) t = ab_ds a r t
def xr_co (σ : gx_M) (a : ab_S) : Prop := σ 110 0 = xb (!ab_ha a) ∧ (∀ t s, t < 21 → s < 3 → σ 111 (3 * t + s) = ab_kv a t s) ∧ (∀ t, t < 21 → σ 112 t = ab_kd a t) ∧ ∀ t i, t < 21 → i < 4 → σ 113 (4 * t + i) = ab_rs a t i
def xr (σ : gx_M) (a : ab_S) : Prop := σ 0 5 = ab_n a ∧ xr_tx σ a ∧ xr_rp σ a ∧ xr_ss σ a ∧ xr_ds σ a ∧ xr_co σ a
def mr_op (σ : gx_M) (a : ab_S) : Prop := ∀ t, t < 21 → σ 225 t = (ab_op a t).length ∧ σ 226 t = xb (ab_cl a t) ∧ ∀ i o, (ab_op a t)[i]? = some o → σ 227 (4 * t + i) = o.1 ∧ σ 228 (4 * t + i) = o.2.1 ∧ σ 229 (4 * t + i) = o.2.2
def mr_rp (σ : gx_M) (a : ab_S) : Prop := ∀ g r, g < 4 → r < 3 → σ 230 (3 * g + r) = xb (!ab_up a g r) ∧ σ 231 (3 * g + r) = ab_vi a g r ∧ σ 232 (3 * g + r) = (ab_lg a g r).length ∧ σ 233 (3 * g + r) = ab_dn a g r ∧ ∀ i e, (ab_lg a g r)[i]? = some e → σ 234 (60 * (3 * g + r) + i) = 32 * (e.1 + 1) + e.2
def mr_co (σ : gx_M) (a : ab_S) : Prop := σ 224 11 = xb (ab_ha a) ∧ (∀ t s, t < 21 → s < 3 → σ 235 (3 * t + s) = ab_kv a t s) ∧ ∀ t, t < 21 → σ 236 t = ab_kd a t
def mr (σ : gx_M) (a : ab_S) : Prop := σ 224 0 = ab_n a ∧ mr_op σ a ∧ mr_rp σ a ∧ mr_co σ a
/-- the one object's numbers stay while the other's change -/
theorem xr_of {σ τ : gx_M} {a : ab_S} (h : xr σ a) (he : ∀ n, n < 224 → τ n = σ n) : xr τ a := by
  obtain ⟨h1, h2, h3, h4, h5, h6⟩ := h
  have l : ∀ {n : Nat}, n < 224 → τ n = σ n := fun {n} q => he n q
  refine ⟨by rw [he 0 (by decide)]; exact h1, ?_, ?_, ?_, ?_, ?_⟩
  · intro t ht
    rw [he (nTx t) (by unfold nTx; omega), he (nTk t) (by unfold nTk; omega), he (nTy t) (by unfold nTy; omega), he (nTa t) (by unfold nTa; omega), he (nTn t) (by unfold nTn; omega)]
    exact h2 t ht
  · intro g r hg hr
    rw [he (nRp g r) (by unfold nRp; split <;> omega), he (nLg g r) (by unfold nLg; split <;> omega)]
    exact h3 g r hg hr
  · intro s r hs hr
    rw [he (nSt s r) (by unfold nSt; split <;> omega), he (nSv s r) (by unfold nSv; omega), he (nSa s r) (by unfold nSa; omega), he (nSh s r) (by unfold nSh; omega), he (nSo s r) (by unfold nSo; omega), he (nSf s r) (by unfold nSf; omega), he (nSn s r) (by unfold nSn; omega)]
    exact h4 s r hs hr
  · intro r hr
    rw [he (nDd r) (by unfold nDd; omega)]
    exact h5 r hr
  · obtain ⟨a1, a2, a3, a4⟩ := h6
    refine ⟨?_, ?_, ?_, ?_⟩
    · rw [he 110 (by decide)]; exact a1
    · rw [he 111 (by decide)]; exact a2
    · rw [he 112 (by decide)]; exact a3
    · rw [he 113 (by decide)]; exact a4
theorem mr_of {σ τ : gx_M} {a : ab_S} (h : mr σ a) (he : ∀ n, 224 ≤ n → τ n = σ n) : mr τ a := by
  obtain ⟨h1, h2, h3, h4⟩ := h
  refine ⟨by rw [he 224 (by decide)]; exact h1, ?_, ?_, ?_⟩
  · intro t ht
    rw [he 225 (by decide), he 226 (by decide), he 227 (by decide), he 228 (by decide), he 229 (by decide)]
    exact h2 t ht
  · intro g r hg hr
    rw [he 230 (by decide), he 231 (by decide), he 232 (by decide), he 233 (by decide), he 234 (by decide)]
    exact h3 g r hg hr
  · obtain ⟨a1, a2, a3⟩ := h4
    refine ⟨?_, ?_, ?_⟩
    · rw [he 224 (by decide)]; exact a1
    · rw [he 235 (by decide)]; exact a2
    · rw [he 236 (by decide)]; exact a3
