/-! out of what holds of the abstract state: what a walk of log and of a new view asks -/
theorem ab_log_sp {B : Nat} {a : ab_S} (h : ab_I B a) {g : Nat} (hg : g < 4) (en : pu_En) (hl : ab_ld a g < 3) (hc : 2 ≤ pu_cnt (ab_up a g)) : ∀ q, q < 3 → ab_up a g q = true → (ab_lg a g (ab_ld a g) ++ [en]).take (ab_dn a g q) = (ab_lg a g q).take (ab_dn a g q) ∧ ab_dn a g q ≤ (ab_lg a g (ab_ld a g)).length := by
  intro q hq _
  obtain ⟨⟨M, C, h1⟩, -⟩ := h
  have hG := h1.1 g hg
  have hM : ab_top a g = M g := pu_G_top hG hc
  have lM : ab_ld a g = M g % 3 := by rw [(ab_ld_spec (by omega)).1, hM]
  obtain ⟨e1, e2⟩ := pu_G_exec hG hq hG.2.2.2.1
  rw [lM]
  exact ⟨by rw [List.take_append_of_le_length e2]; exact e1, e2⟩
theorem ab_elect_sp {B : Nat} {a : ab_S} (h : ab_I B a) {g : Nat} (hg : g < 4) (hc : 2 ≤ pu_cnt (ab_up a g)) : ab_best a g < 3 ∧ ab_up a g (ab_best a g) = true ∧ ab_next a g ≤ B + 3 ∧ ∀ q, q < 3 → ab_up a g q = true → (ab_lg a g (ab_best a g)).take (ab_dn a g q) = (ab_lg a g q).take (ab_dn a g q) ∧ ab_dn a g q ≤ (ab_lg a g (ab_best a g)).length := by
  obtain ⟨⟨M, C, h1⟩, -, -, -, h5⟩ := h
  have hG := h1.1 g hg
  have hM : ab_top a g = M g := pu_G_top hG hc
  obtain ⟨n1, n2, n3⟩ := ab_next_spec hc
  obtain ⟨g1, g2, ⟨y, y1, y2, y3, y4⟩, g4, g5, g6, g7⟩ := id hG
  have hgood : ∃ z, z < 3 ∧ ab_good a g z = true := by
    rcases pu_two hc (Nat.mod_lt (M g) (show 0 < 3 by decide)) y1 y2 with q | q
    · exact ⟨M g % 3, Nat.mod_lt _ (by decide), by unfold ab_good; rw [q, hM, g2]; simp⟩
    · exact ⟨y, y1, by unfold ab_good; rw [q, hM, y3]; simp⟩
  obtain ⟨z, z1, z2⟩ := hgood
  obtain ⟨b1, b2, b3⟩ := ab_best_spec z1 z2
  have b2' : ab_up a g (ab_best a g) = true ∧ ab_vi a g (ab_best a g) = M g := by
    unfold ab_good at b2
    rw [hM] at b2
    simpa using b2
  have hbest : ∀ r, r < 3 → ab_up a g r = true → ab_vi a g r = M g → (ab_lg a g r).length ≤ (ab_lg a g (ab_best a g)).length := by
    intro r hr hu hv
    apply b3 r hr
    unfold ab_good
    rw [hu, hv, hM]; simp
  have hle := pu_G_best hG hc b1 b2'.2 hbest
  have hB : M g ≤ B := by rw [← g2]; exact h5 g _ hg (Nat.mod_lt _ (by decide))
  exact ⟨b1, b2'.1, by omega, fun q hq _ => pu_G_exec hG hq hle⟩
theorem ab_log_code (a : ab_S) (g : Nat) (e : pu_En) : (ab_log a g e).1 = 0 ∨ (ab_log a g e).1 = -3 ∨ (ab_log a g e).1 = -4 ∨ (ab_log a g e).1 = -5 := by
  unfold ab_log
  split
  · exact Or.inr (Or.inl rfl)
  · split
    · exact Or.inr (Or.inr (Or.inl rfl))
    · split
      · exact Or.inr (Or.inr (Or.inr rfl))
      · exact Or.inl rfl
theorem ab_log_zero {a : ab_S} {g : Nat} {e : pu_En} : Int32.ofInt (ab_log a g e).1 = 0 ↔ (ab_log a g e).1 = 0 := by
  rcases ab_log_code a g e with h | h | h | h <;> rw [h] <;> decide
/-- who isn't closed stands in no log -/
theorem ab_unclosed {B : Nat} {a : ab_S} (h : ab_I B a) {t : Nat} (hc : ab_cl a t = false) : ∀ s r, s < 3 → r < 3 → ∀ e, e ∈ ab_lg a s r → e.2 ≠ t := by
  intro s r hs hr e he q
  obtain ⟨⟨M, C, h1⟩, -⟩ := h
  have := (h1.2.2.2.1 s (by omega) r hr e he).1
  rw [q, hc] at this
  cases this
theorem gi_of {t : Int32} {n : Nat} (h : 0 ≤ t.toInt) (h2 : t.toInt ≤ n) : ∃ u : Nat, t = nI u ∧ u ≤ n ∧ t.toInt = (u : Int) ∧ t.toInt.toNat = u := ⟨t.toInt.toNat, gi_nat h, by omega, by omega, rfl⟩
