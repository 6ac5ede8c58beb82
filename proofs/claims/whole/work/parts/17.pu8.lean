/-! pure part eight: the tables of a shard's replica (values, alone, shared, votes, ends, noted) against the shard's state. -/
theorem pu_step_done {op : Nat → List pu_Op} {s : Nat} {S : pu_S} {k t : Nat} (h : S.2.1 t = true) : pu_step op s S (k, t) = S := by
  unfold pu_step
  exact if_pos h
theorem pu_step_voted {op : Nat → List pu_Op} {s : Nat} {S : pu_S} {t : Nat} (hf : S.2.1 t = false) (h : S.1 t ≠ 0) : pu_step op s S (0, t) = S := by
  unfold pu_step
  rw [if_neg (by show ¬ S.2.1 t = true; rw [hf]; decide), if_pos rfl]
  exact if_pos h
theorem pu_step_yes {op : Nat → List pu_Op} {s : Nat} {S : pu_S} {t : Nat} (hf : S.2.1 t = false) (h : S.1 t = 0) (hfr : pu_free op s S t) : pu_step op s S (0, t) = (pu_up S.1 t 1, S.2.1, S.2.2.1, pu_up S.2.2.2 t (pu_note s (op t) S.2.2.1 (S.2.2.2 t))) := by
  unfold pu_step
  rw [if_neg (by show ¬ S.2.1 t = true; rw [hf]; decide), if_pos rfl, if_neg (by show ¬ S.1 t ≠ 0; omega)]
  exact if_pos hfr
theorem pu_step_no {op : Nat → List pu_Op} {s : Nat} {S : pu_S} {t : Nat} (hf : S.2.1 t = false) (h : S.1 t = 0) (hfr : ¬ pu_free op s S t) : pu_step op s S (0, t) = (pu_up S.1 t 2, S.2.1, S.2.2.1, S.2.2.2) := by
  unfold pu_step
  rw [if_neg (by show ¬ S.2.1 t = true; rw [hf]; decide), if_pos rfl, if_neg (by show ¬ S.1 t ≠ 0; omega)]
  exact if_neg hfr
theorem pu_step_commit {op : Nat → List pu_Op} {s : Nat} {S : pu_S} {t : Nat} (hf : S.2.1 t = false) : pu_step op s S (1, t) = (S.1, pu_up S.2.1 t true, pu_run (pu_q s) (op t) S.2.2.1, pu_up S.2.2.2 t (pu_note s (op t) S.2.2.1 (S.2.2.2 t))) := by
  unfold pu_step
  rw [if_neg (by show ¬ S.2.1 t = true; rw [hf]; decide), if_neg (by show ¬ ((1 : Nat) = 0); decide)]
  exact if_pos rfl
theorem pu_step_abort {op : Nat → List pu_Op} {s : Nat} {S : pu_S} {k t : Nat} (hf : S.2.1 t = false) (h0 : k ≠ 0) (h1 : k ≠ 1) : pu_step op s S (k, t) = (pu_up S.1 t (if S.1 t = 0 then 2 else S.1 t), pu_up S.2.1 t true, S.2.2.1, S.2.2.2) := by
  unfold pu_step
  rw [if_neg (by show ¬ S.2.1 t = true; rw [hf]; decide), if_neg (by exact h0)]
  exact if_neg h1
/-- bit t away -/
def pt_clr (m t : Nat) : Nat := if m.testBit t = true then m ^^^ 2 ^ t else m
theorem pt_clr_bit (m t j : Nat) : (pt_clr m t).testBit j = (m.testBit j && !(decide (t = j))) := by
  unfold pt_clr
  by_cases h : m.testBit t = true
  · rw [if_pos h, Nat.testBit_xor, Nat.testBit_two_pow]
    by_cases q : t = j
    · subst q; simp [h]
    · simp [q]
  · rw [if_neg h]
    by_cases q : t = j
    · subst q; simp at h; simp [h]
    · simp [q]
theorem pt_zero {m : Nat} (h : ∀ j, m.testBit j = false) : m = 0 := Nat.eq_of_testBit_eq (fun i => by rw [h i, Nat.zero_testBit])
theorem pt_clr_lt {m t n : Nat} (h : m < 2 ^ n) (ht : t < n) : pt_clr m t < 2 ^ n := by
  unfold pt_clr
  split
  · exact Nat.xor_lt_two_pow h (Nat.pow_lt_pow_right (by decide) ht)
  · exact h
def pt_T (op : Nat → List pu_Op) (s : Nat) (S : pu_S) (va al sh vo fi no : Nat → Nat) : Prop :=
  (∀ k, k < 4 → va k = S.2.2.1 (3 * k + s)) ∧
  (∀ t, t < 21 → vo t = S.1 t) ∧
  (∀ t, t < 21 → fi t = if S.2.1 t = true then 1 else 0) ∧
  (∀ t, t < 21 → ∀ i, i < 4 → no (4 * t + i) = S.2.2.2 t i) ∧
  (∀ k, k < 4 → al k < 21 ∧ ∀ t, 1 ≤ t → t < 21 → (al k = t ↔ (S.1 t = 1 ∧ S.2.1 t = false ∧ pu_need (op t) (3 * k + s) = 2))) ∧
  (∀ k, k < 4 → sh k < 2 ^ 21 ∧ ∀ t, t < 21 → ((sh k).testBit t = true ↔ (S.1 t = 1 ∧ S.2.1 t = false ∧ pu_need (op t) (3 * k + s) = 1))) ∧
  (S.1 0 = 0 ∧ ∀ t, 21 ≤ t → S.1 t = 0)
theorem pt_new (op : Nat → List pu_Op) (s : Nat) : pt_T op s pu_S0 (fun _ => 0) (fun _ => 0) (fun _ => 0) (fun _ => 0) (fun _ => 0) (fun _ => 0) := by
  refine ⟨fun k _ => rfl, fun t _ => rfl, fun t _ => rfl, fun t _ i _ => rfl, ?_, ?_, rfl, fun t _ => rfl⟩
  · intro k _
    refine ⟨by show (0 : Nat) < 21; decide, fun t h1 _ => ⟨fun q => ?_, fun q => absurd q.1 (by show ¬ ((0 : Nat) = 1); decide)⟩⟩
    have q : (0 : Nat) = t := q
    omega
  · intro k _
    refine ⟨by show (0 : Nat) < 2 ^ 21; decide, fun t _ => ⟨fun q => ?_, fun q => absurd q.1 (by show ¬ ((0 : Nat) = 1); decide)⟩⟩
    have q : (0 : Nat).testBit t = true := q
    rw [Nat.zero_testBit] at q
    cases q
theorem pt_bits {op : Nat → List pu_Op} {s : Nat} {S : pu_S} {va al sh vo fi no : Nat → Nat} (h : pt_T op s S va al sh vo fi no) {k : Nat} (hk : k < 4) {j : Nat} (hj : (sh k).testBit j = true) : j < 21 := by
  obtain ⟨-, -, -, -, -, h6, -⟩ := h
  have hl := (h6 k hk).1
  apply Classical.byContradiction
  intro q
  have : sh k < 2 ^ j := Nat.lt_of_lt_of_le hl (Nat.pow_le_pow_right (by decide) (by omega))
  rw [Nat.testBit_lt_two_pow this] at hj
  cases hj
/-- the look at the tables: is t hindered -/
theorem pt_hind {op : Nat → List pu_Op} {s : Nat} (hs : s < 3) {S : pu_S} {va al sh vo fi no : Nat → Nat} (h : pt_T op s S va al sh vo fi no) {t : Nat} (ht : t < 21) :
    (∃ k, k < 4 ∧ ((pu_need (op t) (3 * k + s) ≠ 0 ∧ al k ≠ 0 ∧ al k ≠ t) ∨ (pu_need (op t) (3 * k + s) = 2 ∧ pt_clr (sh k) t ≠ 0))) ↔ ¬ pu_free op s S t := by
  have hb := fun k hk j => pt_bits h (k := k) hk (j := j)
  obtain ⟨-, -, -, -, h5, h6, h7, h8⟩ := h
  constructor
  · rintro ⟨k, hk, q | q⟩ hfr
    · obtain ⟨q1, q2, q3⟩ := q
      obtain ⟨a1, a2⟩ := h5 k hk
      have := (a2 (al k) (by omega) a1).mp rfl
      refine hfr (al k) q3 this.1 this.2.1 ⟨3 * k + s, by omega, by omega, ?_⟩
      have := pu_need_le (op t) (3 * k + s)
      omega
    · obtain ⟨q1, q2⟩ := q
      have : ∃ j, (pt_clr (sh k) t).testBit j = true := by
        apply Classical.byContradiction
        intro z
        apply q2
        apply pt_zero
        intro j
        cases w : (pt_clr (sh k) t).testBit j with
        | false => rfl
        | true => exact absurd ⟨j, w⟩ z
      obtain ⟨j, hj⟩ := this
      rw [pt_clr_bit] at hj
      simp at hj
      obtain ⟨j1, j2⟩ := hj
      have := ((h6 k hk).2 j (hb k hk j j1)).mp j1
      exact hfr j (fun z => j2 z.symm) this.1 this.2.1 ⟨3 * k + s, by omega, by omega, Or.inl ⟨q1, by omega⟩⟩
  · intro hfr
    unfold pu_free at hfr
    have : ∃ u, u ≠ t ∧ S.1 u = 1 ∧ S.2.1 u = false ∧ pu_hin op s t u := by
      apply Classical.byContradiction
      intro z
      apply hfr
      intro u u1 u2 u3 u4
      exact z ⟨u, u1, u2, u3, u4⟩
    obtain ⟨u, u1, u2, u3, key, k1, k2, k3⟩ := this
    have hu1 : 1 ≤ u := by
      apply Classical.byContradiction
      intro z
      have : u = 0 := by omega
      rw [this, h7] at u2
      cases u2
    have hu2 : u < 21 := by
      apply Classical.byContradiction
      intro z
      rw [h8 u (by omega)] at u2
      cases u2
    have hk : key / 3 < 4 := by omega
    have he : 3 * (key / 3) + s = key := by omega
    have hle := pu_need_le (op u) key
    refine ⟨key / 3, hk, ?_⟩
    rw [he]
    by_cases w : pu_need (op u) key = 2
    · left
      have : al (key / 3) = u := ((h5 _ hk).2 u hu1 hu2).mpr ⟨u2, u3, by rw [he]; exact w⟩
      rw [this]
      exact ⟨by omega, by omega, u1⟩
    · right
      have w1 : pu_need (op u) key = 1 := by omega
      refine ⟨by omega, ?_⟩
      intro z
      have hb1 : (sh (key / 3)).testBit u = true := ((h6 _ hk).2 u hu2).mpr ⟨u2, u3, by rw [he]; exact w1⟩
      have : (pt_clr (sh (key / 3)) t).testBit u = true := by
        rw [pt_clr_bit, hb1]
        simp
        exact fun z => u1 z.symm
      rw [z, Nat.zero_testBit] at this
      cases this
theorem pt_yes {op : Nat → List pu_Op} {s : Nat} (hs : s < 3) {S : pu_S} {va al sh vo fi no : Nat → Nat} (h : pt_T op s S va al sh vo fi no) {t : Nat} (ht1 : 1 ≤ t) (ht2 : t < 21) (hf : S.2.1 t = false) (h0 : S.1 t = 0) (hfr : pu_free op s S t) {al' sh' vo' no' : Nat → Nat}
    (hal : ∀ k, k < 4 → al' k = if pu_need (op t) (3 * k + s) = 2 then t else al k) (hsh : ∀ k, k < 4 → sh' k = if pu_need (op t) (3 * k + s) = 1 then sh k ||| 2 ^ t else sh k) (hvo : ∀ u, u < 21 → vo' u = if u = t then 1 else vo u)
    (hno : ∀ u, u < 21 → ∀ i, i < 4 → no' (4 * u + i) = if u = t ∧ pu_sh (op t) i = s then pu_rs (pu_q s) (op t) S.2.2.1 i else no (4 * u + i)) : pt_T op s (pu_step op s S (0, t)) va al' sh' vo' fi no' := by
  rw [pu_step_yes hf h0 hfr]
  obtain ⟨h1, h2, h3, h4, h5, h6, h7, h8⟩ := h
  refine ⟨h1, ?_, h3, ?_, ?_, ?_, ?_, ?_⟩
  · intro u hu
    show vo' u = pu_up S.1 t 1 u
    rw [hvo u hu]
    by_cases z : u = t
    · rw [if_pos z, z, pu_up_self]
    · rw [if_neg z, pu_up_ne _ _ z]; exact h2 u hu
  · intro u hu i hi
    show no' (4 * u + i) = pu_up S.2.2.2 t _ u i
    rw [hno u hu i hi]
    by_cases z : u = t
    · subst z
      rw [pu_up_self]
      unfold pu_note
      by_cases his : pu_sh (op u) i = s
      · rw [if_pos ⟨rfl, his⟩, if_pos his]
      · rw [if_neg (fun w => his w.2), if_neg his]; exact h4 u hu i hi
    · rw [if_neg (fun w => z w.1), pu_up_ne _ _ z]; exact h4 u hu i hi
  · intro k hk
    rw [hal k hk]
    obtain ⟨a1, a2⟩ := h5 k hk
    refine ⟨by split <;> omega, ?_⟩
    intro u hu1 hu2
    show _ ↔ pu_up S.1 t 1 u = 1 ∧ S.2.1 u = false ∧ _
    by_cases w : pu_need (op t) (3 * k + s) = 2
    · rw [if_pos w]
      by_cases z : u = t
      · subst z
        rw [pu_up_self]
        exact ⟨fun _ => ⟨rfl, hf, w⟩, fun _ => rfl⟩
      · rw [pu_up_ne _ _ z]
        constructor
        · intro q; exact absurd q.symm z
        · intro q
          exact absurd ⟨3 * k + s, by omega, by omega, Or.inl ⟨w, by omega⟩⟩ (hfr u z q.1 q.2.1)
    · rw [if_neg w]
      by_cases z : u = t
      · subst z
        rw [a2 u hu1 hu2, pu_up_self]
        constructor
        · intro q; rw [h0] at q; exact absurd q.1 (by decide)
        · intro q; exact absurd q.2.2 w
      · rw [pu_up_ne _ _ z]; exact a2 u hu1 hu2
  · intro k hk
    rw [hsh k hk]
    obtain ⟨a1, a2⟩ := h6 k hk
    by_cases w : pu_need (op t) (3 * k + s) = 1
    · rw [if_pos w]
      refine ⟨Nat.or_lt_two_pow a1 (Nat.pow_lt_pow_right (by decide) ht2), ?_⟩
      intro u hu
      show _ ↔ pu_up S.1 t 1 u = 1 ∧ S.2.1 u = false ∧ _
      rw [Nat.testBit_or, Nat.testBit_two_pow]
      by_cases z : u = t
      · subst z
        rw [pu_up_self]
        simp [hf, w]
      · rw [pu_up_ne _ _ z]
        have zz : ¬ t = u := fun q => z q.symm
        simp only [zz, decide_false, Bool.or_false]
        exact a2 u hu
    · rw [if_neg w]
      refine ⟨a1, ?_⟩
      intro u hu
      show _ ↔ pu_up S.1 t 1 u = 1 ∧ S.2.1 u = false ∧ _
      by_cases z : u = t
      · subst z
        rw [a2 u hu, pu_up_self]
        constructor
        · intro q; rw [h0] at q; exact absurd q.1 (by decide)
        · intro q; exact absurd q.2.2 w
      · rw [pu_up_ne _ _ z]; exact a2 u hu
  · show pu_up S.1 t 1 0 = 0
    rw [pu_up_ne _ _ (by omega)]; exact h7
  · intro u hu
    show pu_up S.1 t 1 u = 0
    rw [pu_up_ne _ _ (by omega)]; exact h8 u hu
theorem pt_no {op : Nat → List pu_Op} {s : Nat} {S : pu_S} {va al sh vo fi no : Nat → Nat} (h : pt_T op s S va al sh vo fi no) {t : Nat} (ht1 : 1 ≤ t) (ht2 : t < 21) (hf : S.2.1 t = false) (h0 : S.1 t = 0) (hfr : ¬ pu_free op s S t) {vo' : Nat → Nat}
    (hvo : ∀ u, u < 21 → vo' u = if u = t then 2 else vo u) : pt_T op s (pu_step op s S (0, t)) va al sh vo' fi no := by
  rw [pu_step_no hf h0 hfr]
  obtain ⟨h1, h2, h3, h4, h5, h6, h7, h8⟩ := h
  refine ⟨h1, ?_, h3, h4, ?_, ?_, ?_, ?_⟩
  · intro u hu
    show vo' u = pu_up S.1 t 2 u
    rw [hvo u hu]
    by_cases z : u = t
    · rw [if_pos z, z, pu_up_self]
    · rw [if_neg z, pu_up_ne _ _ z]; exact h2 u hu
  · intro k hk
    obtain ⟨a1, a2⟩ := h5 k hk
    refine ⟨a1, ?_⟩
    intro u hu1 hu2
    show _ ↔ pu_up S.1 t 2 u = 1 ∧ S.2.1 u = false ∧ _
    by_cases z : u = t
    · subst z
      rw [a2 u hu1 hu2, pu_up_self, h0]
      constructor
      · intro q; exact absurd q.1 (by decide)
      · intro q; exact absurd q.1 (by decide)
    · rw [pu_up_ne _ _ z]; exact a2 u hu1 hu2
  · intro k hk
    obtain ⟨a1, a2⟩ := h6 k hk
    refine ⟨a1, ?_⟩
    intro u hu
    show _ ↔ pu_up S.1 t 2 u = 1 ∧ S.2.1 u = false ∧ _
    by_cases z : u = t
    · subst z
      rw [a2 u hu, pu_up_self, h0]
      constructor
      · intro q; exact absurd q.1 (by decide)
      · intro q; exact absurd q.1 (by decide)
    · rw [pu_up_ne _ _ z]; exact a2 u hu
  · show pu_up S.1 t 2 0 = 0
    rw [pu_up_ne _ _ (by omega)]; exact h7
  · intro u hu
    show pu_up S.1 t 2 u = 0
    rw [pu_up_ne _ _ (by omega)]; exact h8 u hu
/-- an end: the keys of t are free again; P is the state behind it -/
theorem pt_end {op : Nat → List pu_Op} {s : Nat} {S : pu_S} {va al sh vo fi no : Nat → Nat} (h : pt_T op s S va al sh vo fi no) {t : Nat} (ht1 : 1 ≤ t) (ht2 : t < 21) {P : pu_S} (hp1 : ∀ u, u ≠ t → P.1 u = S.1 u) (hp2 : P.2.1 = pu_up S.2.1 t true)
    {va' al' sh' vo' fi' no' : Nat → Nat} (hva : ∀ k, k < 4 → va' k = P.2.2.1 (3 * k + s)) (hvo : ∀ u, u < 21 → vo' u = P.1 u) (hfi : ∀ u, u < 21 → fi' u = if u = t then 1 else fi u) (hno : ∀ u, u < 21 → ∀ i, i < 4 → no' (4 * u + i) = P.2.2.2 u i)
    (hal : ∀ k, k < 4 → al' k = if al k = t then 0 else al k) (hsh : ∀ k, k < 4 → sh' k = pt_clr (sh k) t) : pt_T op s P va' al' sh' vo' fi' no' := by
  have hb := fun k hk j => pt_bits h (k := k) hk (j := j)
  obtain ⟨h1, h2, h3, h4, h5, h6, h7, h8⟩ := h
  refine ⟨hva, hvo, ?_, hno, ?_, ?_, ?_, ?_⟩
  · intro u hu
    rw [hfi u hu, hp2]
    by_cases z : u = t
    · rw [if_pos z, z, pu_up_self, if_pos rfl]
    · rw [if_neg z, pu_up_ne _ _ z]; exact h3 u hu
  · intro k hk
    rw [hal k hk]
    obtain ⟨a1, a2⟩ := h5 k hk
    refine ⟨by split <;> omega, ?_⟩
    intro u hu1 hu2
    rw [hp2]
    by_cases z : u = t
    · subst z
      rw [pu_up_self]
      constructor
      · intro q
        split at q <;> omega
      · intro q; exact absurd q.2.1 (by decide)
    · rw [pu_up_ne _ _ z, hp1 u z, ← a2 u hu1 hu2]
      constructor
      · intro q
        split at q
        · omega
        · exact q
      · intro q
        rw [if_neg (by omega)]; exact q
  · intro k hk
    rw [hsh k hk]
    obtain ⟨a1, a2⟩ := h6 k hk
    refine ⟨pt_clr_lt a1 ht2, ?_⟩
    intro u hu
    rw [hp2, pt_clr_bit]
    by_cases z : u = t
    · subst z
      rw [pu_up_self]
      simp
    · rw [pu_up_ne _ _ z, hp1 u z, ← a2 u hu]
      have zz : ¬ t = u := fun q => z q.symm
      simp [zz]
  · rw [hp1 0 (by omega)]; exact h7
  · intro u hu
    rw [hp1 u (by omega)]; exact h8 u hu
