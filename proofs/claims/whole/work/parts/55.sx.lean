/-! what a transaction's rows say; which rows a shard's replica may change -/
def sF (sh ri n : Nat) : Prop := 116 + 32 * sh + 10 * ri ≤ n ∧ n ≤ 122 + 32 * sh + 10 * ri
def tx_ok (σ : gx_M) (op : Nat → List pu_Op) (t : Nat) : Prop := σ (nTx t) 4 = (op t).length ∧ (op t).length ≤ 4 ∧ (∀ i o, (op t)[i]? = some o → σ (nTk t) i = o.1 ∧ σ (nTy t) i = o.2.1 ∧ σ (nTa t) i = o.2.2) ∧ (∀ o, o ∈ op t → o.1 < 3 ∧ o.2.1 < 12) ∧ ∀ k, k < 12 → σ (nTn t) k = pu_need (op t) k
theorem tx_ok_of {σ τ : gx_M} {op : Nat → List pu_Op} {t : Nat} (ht : t < 21) (h : tx_ok σ op t) (he : ∀ n, fT n → τ n = σ n) : tx_ok τ op t := by
  obtain ⟨h1, h2, h3, h4, h5⟩ := h
  unfold tx_ok
  rw [he (nTx t) ⟨by unfold nTx; omega, by unfold nTx; omega⟩, he (nTk t) ⟨by unfold nTk; omega, by unfold nTk; omega⟩, he (nTy t) ⟨by unfold nTy; omega, by unfold nTy; omega⟩, he (nTa t) ⟨by unfold nTa; omega, by unfold nTa; omega⟩, he (nTn t) ⟨by unfold nTn; omega, by unfold nTn; omega⟩]
  exact ⟨h1, h2, h3, h4, h5⟩
theorem sF_T {sh ri n : Nat} (h : fT n) (q : sF sh ri n) : False := by
  obtain ⟨h1, h2⟩ := h
  obtain ⟨a1, a2⟩ := q
  omega
theorem sF_St {sh ri : Nat} (h0 : sh < 3) : ¬ sF sh ri (nSt sh ri) := by
  rw [nSt_num h0]
  rintro ⟨a, b⟩
  omega
abbrev pT (op : Nat → List pu_Op) (sh ri : Nat) (S : pu_S) (σ : gx_M) : Prop := pt_T op sh S (σ (nSv sh ri)) (σ (nSa sh ri)) (σ (nSh sh ri)) (σ (nSo sh ri)) (σ (nSf sh ri)) (σ (nSn sh ri))
theorem sF_v (sh ri : Nat) : sF sh ri (nSv sh ri) := by unfold sF nSv; omega
theorem sF_d (sh ri : Nat) : sF sh ri (nSd sh ri) := by unfold sF nSd; omega
theorem sF_a (sh ri : Nat) : sF sh ri (nSa sh ri) := by unfold sF nSa; omega
theorem sF_h (sh ri : Nat) : sF sh ri (nSh sh ri) := by unfold sF nSh; omega
theorem sF_o (sh ri : Nat) : sF sh ri (nSo sh ri) := by unfold sF nSo; omega
theorem sF_f (sh ri : Nat) : sF sh ri (nSf sh ri) := by unfold sF nSf; omega
theorem sF_n (sh ri : Nat) : sF sh ri (nSn sh ri) := by unfold sF nSn; omega
theorem sr_ne (sh ri : Nat) : nSv sh ri ≠ nSd sh ri ∧ nSv sh ri ≠ nSa sh ri ∧ nSv sh ri ≠ nSh sh ri ∧ nSv sh ri ≠ nSo sh ri ∧ nSv sh ri ≠ nSf sh ri ∧ nSv sh ri ≠ nSn sh ri ∧ nSd sh ri ≠ nSa sh ri ∧ nSd sh ri ≠ nSh sh ri ∧ nSd sh ri ≠ nSo sh ri ∧ nSd sh ri ≠ nSf sh ri ∧ nSd sh ri ≠ nSn sh ri ∧ nSa sh ri ≠ nSh sh ri ∧ nSa sh ri ≠ nSo sh ri ∧ nSa sh ri ≠ nSf sh ri ∧ nSa sh ri ≠ nSn sh ri ∧ nSh sh ri ≠ nSo sh ri ∧ nSh sh ri ≠ nSf sh ri ∧ nSh sh ri ≠ nSn sh ri ∧ nSo sh ri ≠ nSf sh ri ∧ nSo sh ri ≠ nSn sh ri ∧ nSf sh ri ≠ nSn sh ri := by
  unfold nSv nSd nSa nSh nSo nSf nSn
  omega
/-- bounds out of the tables -/
theorem pT_bd {op : Nat → List pu_Op} {sh ri : Nat} {S : pu_S} {σ : gx_M} (h : pT op sh ri S σ) : (∀ k, k < 4 → σ (nSa sh ri) k < 21) ∧ ∀ k, k < 4 → σ (nSh sh ri) k < 2 ^ 21 := by
  obtain ⟨-, -, -, -, h5, h6, -⟩ := h
  exact ⟨fun k hk => (h5 k hk).1, fun k hk => (h6 k hk).1⟩
theorem pu_step_le {op : Nat → List pu_Op} {s : Nat} {S : pu_S} (h : ∀ t, S.1 t ≤ 2) (e : pu_En) : ∀ t, (pu_step op s S e).1 t ≤ 2 := by
  intro u
  obtain ⟨k, t⟩ := e
  refine pu_step_cases op s S k t (P := fun S' => S'.1 u ≤ 2) ?_ ?_ ?_ ?_ ?_ ?_
  · intro _; exact h u
  · intro _ _ _; exact h u
  · intro _ _ _ _
    show pu_up _ t 1 u ≤ 2
    unfold pu_up; split
    · decide
    · exact h u
  · intro _ _ _ _
    show pu_up _ t 2 u ≤ 2
    unfold pu_up; split
    · decide
    · exact h u
  · intro _ _; exact h u
  · intro _ _ _
    show pu_up S.1 t (if S.1 t = 0 then 2 else S.1 t) u ≤ 2
    by_cases z : u = t
    · subst z
      rw [pu_up_self]
      split
      · decide
      · exact h u
    · rw [pu_up_ne _ _ z]; exact h u
