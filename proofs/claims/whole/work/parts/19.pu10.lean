/-! who holds a key: the tables' answer and the count over the transactions. -/
theorem bc_pop_zero : ∀ n, bc_pop n 0 = 0 := by
  intro n
  induction n with
  | zero => rfl
  | succ n ih => show 0 % 2 + bc_pop n (0 / 2) = 0; simp [ih]
/-- the bits of m, counted from place j on -/
theorem bc_pop_bits : ∀ (n m j : Nat) (f : Nat → Nat), (∀ t, t < n → f (j + t) = if m.testBit t = true then 1 else 0) → bc_pop n m = ((List.range n).map (fun t => f (j + t))).sum := by
  intro n
  induction n with
  | zero => intro m j f _; rfl
  | succ n ih =>
    intro m j f h
    show m % 2 + bc_pop n (m / 2) = _
    rw [List.range_succ_eq_map]
    simp only [List.map_cons, List.map_map, List.sum_cons]
    have h0 := h 0 (by omega)
    rw [Nat.add_zero] at h0
    have e0 : f j = m % 2 := by
      rw [h0, Nat.testBit_zero]
      have : m % 2 = 0 ∨ m % 2 = 1 := by omega
      rcases this with q | q <;> simp [q]
    have e1 := ih (m / 2) (j + 1) f (fun t ht => by
      have := h (t + 1) (by omega)
      rw [Nat.testBit_succ] at this
      rw [← this]
      congr 1
      omega)
    rw [e1]
    show m % 2 + _ = f j + _
    rw [e0]
    congr 1
    apply congrArg
    apply List.map_congr_left
    intro a _
    show f (j + 1 + a) = f (j + (a + 1))
    congr 1
    omega
