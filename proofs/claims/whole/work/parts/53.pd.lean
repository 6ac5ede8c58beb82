/-! one more operation, on rows -/
theorem gx_w_rs (σ : gx_M) (n k v : Nat) : gx_w σ n k v n = va_up (σ n) k v := va_up_self _ _ _
theorem pd_do1 {c w : Nat → Nat} {sh : Nat} {o : pu_Op} (hs : sh < 3) (ho : o.2.1 % 3 = sh) (hc : ∀ k, k < 4 → c k = w (3 * k + sh)) (h : o.1 = 1) : ∀ k, k < 4 → va_up c (o.2.1 / 3) o.2.2 k = pu_do w o (3 * k + sh) := by
  intro k hk
  have : pu_do w o = pu_up w o.2.1 o.2.2 := by unfold pu_do; rw [if_pos h]
  rw [this]
  unfold va_up pu_up
  by_cases q : k = o.2.1 / 3
  · rw [if_pos q, if_pos (by omega)]
  · rw [if_neg q, if_neg (by omega)]; exact hc k hk
theorem pd_do2 {c w : Nat → Nat} {sh : Nat} {o : pu_Op} (hs : sh < 3) (ho : o.2.1 % 3 = sh) (hc : ∀ k, k < 4 → c k = w (3 * k + sh)) (h : o.1 = 2) : ∀ k, k < 4 → va_up c (o.2.1 / 3) (w o.2.1 + o.2.2) k = pu_do w o (3 * k + sh) := by
  intro k hk
  have : pu_do w o = pu_up w o.2.1 (w o.2.1 + o.2.2) := by unfold pu_do; rw [if_neg (by omega), if_pos h]
  rw [this]
  unfold va_up pu_up
  by_cases q : k = o.2.1 / 3
  · rw [if_pos q, if_pos (by omega)]
  · rw [if_neg q, if_neg (by omega)]; exact hc k hk
theorem pd_do0 {c w : Nat → Nat} {sh : Nat} {o : pu_Op} (hc : ∀ k, k < 4 → c k = w (3 * k + sh)) (h1 : o.1 ≠ 1) (h2 : o.1 ≠ 2) : ∀ k, k < 4 → c k = pu_do w o (3 * k + sh) := by
  intro k hk
  have : pu_do w o = w := by unfold pu_do; rw [if_neg h1, if_neg h2]
  rw [this]; exact hc k hk
theorem pd_no {n0 nt R : Nat → Nat} {L : List pu_Op} {sh t i v : Nat} (hq : ∀ u j, j < 4 → nt (4 * u + j) = if u = t ∧ j < i ∧ pu_sh L j = sh then R j else n0 (4 * u + j)) (hi : i < 4) (his : pu_sh L i = sh) (hv : v = R i) : ∀ u j, j < 4 → va_up nt (t * 4 + i) v (4 * u + j) = if u = t ∧ j < i + 1 ∧ pu_sh L j = sh then R j else n0 (4 * u + j) := by
  intro u j hj
  by_cases q : 4 * u + j = t * 4 + i
  · have e1 : u = t := by omega
    have e2 : j = i := by omega
    rw [q, va_up_self, if_pos ⟨e1, by omega, by rw [e2]; exact his⟩, hv, e2]
  · rw [va_up_ne _ _ q, hq u j hj]
    by_cases z : u = t ∧ j < i ∧ pu_sh L j = sh
    · rw [if_pos z, if_pos ⟨z.1, by omega, z.2.2⟩]
    · rw [if_neg z, if_neg (fun y => z ⟨y.1, by omega, y.2.2⟩)]
theorem pd_no' {n0 nt R : Nat → Nat} {L : List pu_Op} {sh t i : Nat} (hq : ∀ u j, j < 4 → nt (4 * u + j) = if u = t ∧ j < i ∧ pu_sh L j = sh then R j else n0 (4 * u + j)) (his : pu_sh L i ≠ sh) : ∀ u j, j < 4 → nt (4 * u + j) = if u = t ∧ j < i + 1 ∧ pu_sh L j = sh then R j else n0 (4 * u + j) := by
  intro u j hj
  rw [hq u j hj]
  by_cases z : u = t ∧ j < i ∧ pu_sh L j = sh
  · rw [if_pos z, if_pos ⟨z.1, by omega, z.2.2⟩]
  · rw [if_neg z, if_neg (fun y => z ⟨y.1, by
      by_cases w : j = i
      · exact absurd (w ▸ y.2.2) his
      · omega, y.2.2⟩)]
theorem pd_sh {L : List pu_Op} {i : Nat} {o : pu_Op} (h : L[i]? = some o) : pu_sh L i = o.2.1 % 3 := by unfold pu_sh; rw [h]
theorem pd_sh_lt {L : List pu_Op} {i s : Nat} (hs : s < 3) (h : pu_sh L i = s) : i < L.length := by
  apply Classical.byContradiction
  intro q
  have : L[i]? = none := List.getElem?_eq_none (by omega)
  unfold pu_sh at h
  rw [this] at h
  simp at h
  omega
