/-! the code of a failed append is below nought -/
theorem ab_log_ge {a : ab_S} {g : Nat} {e : pu_En} : 0 ≤ Int32.ofInt (ab_log a g e).1 ↔ (ab_log a g e).1 = 0 := by
  rcases ab_log_code a g e with h | h | h | h <;> rw [h] <;> decide
