/-! pure part seven: the calls of the abstract system keep what holds of it. -/
theorem pu_ex_vo_le (op : Nat → List pu_Op) (s u : Nat) : ∀ L, (pu_ex op s L).1 u ≤ 2 := by
  refine pu_snoc ?_ ?_
  · exact Nat.zero_le 2
  · intro L e ih
    obtain ⟨k, t⟩ := e
    rw [pu_ex_snoc]
    refine pu_step_cases op s _ k t (P := fun S' => S'.1 u ≤ 2) ?_ ?_ ?_ ?_ ?_ ?_
    · intro _; exact ih
    · intro _ _ _; exact ih
    · intro _ _ _ _
      show pu_up _ t 1 u ≤ 2
      unfold pu_up; split
      · decide
      · exact ih
    · intro _ _ _ _
      show pu_up _ t 2 u ≤ 2
      unfold pu_up; split
      · decide
      · exact ih
    · intro _ _; exact ih
    · intro _ _ _
      show pu_up (pu_ex op s L).1 t (if (pu_ex op s L).1 t = 0 then 2 else (pu_ex op s L).1 t) u ≤ 2
      by_cases z : u = t
      · subst z
        rw [pu_up_self]
        split
        · decide
        · exact ih
      · rw [pu_up_ne _ _ z]; exact ih
theorem ab_kv_le {B : Nat} {a : ab_S} (h : ab_I B a) {t s : Nat} (hs : s < 3) : ab_kv a t s ≤ 2 := by
  obtain ⟨⟨M, C, h1⟩, -⟩ := h
  obtain ⟨i1, i2, i3, i4, i5, i6, -⟩ := h1
  by_cases q : ab_kv a t s = 0
  · omega
  · rw [← i6 t s hs q]; exact pu_ex_vo_le _ _ _ _
theorem ab_kd_spec {B : Nat} {a : ab_S} (h : ab_I B a) {t : Nat} (q : ab_kd a t ≠ 0) : ab_cl a t = true ∧ 1 ≤ t ∧ t ≤ ab_n a ∧ ab_kd a t ≤ 2 := by
  obtain ⟨⟨M, C, h1⟩, -⟩ := h
  have hin := pu_I_in h1 (g := 3) (by decide) (e := (ab_kd a t, t))
  obtain ⟨i1, i2, i3, i4, i5, i6, -⟩ := h1
  have hd := i5 t q
  have := pu_ds_in t (C 3) (by rw [hd]; exact q)
  rw [hd] at this
  obtain ⟨a1, a2, a3, a4, -⟩ := hin this
  exact ⟨a1, a2, a3, a4⟩
theorem ab_kd_le {B : Nat} {a : ab_S} (h : ab_I B a) (t : Nat) : ab_kd a t ≤ 2 := by
  by_cases q : ab_kd a t = 0
  · omega
  · exact (ab_kd_spec h q).2.2.2
theorem ab_kv_cl {B : Nat} {a : ab_S} (h : ab_I B a) {t s : Nat} (hs : s < 3) (q : ab_kv a t s ≠ 0) : ab_cl a t = true := by
  obtain ⟨⟨M, C, h1⟩, -⟩ := h
  exact h1.2.2.2.2.2.2.2.2.2.2 t s hs q
theorem ab_log_cl (a : ab_S) (g : Nat) (e : pu_En) : ab_cl (ab_log a g e).2 = ab_cl a := by
  unfold ab_log
  split
  · rfl
  · split
    · rfl
    · split <;> rfl
theorem ab_log_n (a : ab_S) (g : Nat) (e : pu_En) : ab_n (ab_log a g e).2 = ab_n a := by
  unfold ab_log
  split
  · rfl
  · split
    · rfl
    · split <;> rfl
theorem ab_log_op (a : ab_S) (g : Nat) (e : pu_En) : ab_op (ab_log a g e).2 = ab_op a := by
  unfold ab_log
  split
  · rfl
  · split
    · rfl
    · split <;> rfl
theorem ab_I_touch {B : Nat} {a : ab_S} (h : ab_I B a) (t kind key : Int) (v : Nat) : ab_I B (ab_touch a t kind key v).2 := by
  unfold ab_touch
  split
  · rename_i q
    obtain ⟨q1, q2, q3, q4, q5, q6, q7⟩ := q
    exact ab_I_setop h q6 q7 (by show key.toNat < 12; omega) (by show kind.toNat < 3; omega)
  · exact h
theorem ab_I_prepare {B : Nat} {a : ab_S} (h : ab_I B a) (t s : Int) (back : Bool) : ab_I B (ab_prepare a t s back).2 := by
  unfold ab_prepare
  split
  · exact h
  · rename_i q
    have q := Classical.byContradiction q
    obtain ⟨⟨t1, t2⟩, s1, s2, tc⟩ := q
    have hs : s.toNat < 3 := by omega
    have ht1 : 1 ≤ t.toNat := by omega
    have ht2 : t.toNat ≤ ab_n a := by omega
    generalize s.toNat = x at hs tc
    generalize t.toNat = u at ht1 ht2 tc
    split
    · exact h
    · split
      · exact ab_I_close h u
      · rename_i _ hld
        have hf : ab_ld a x < 3 := ab_ld_lt hld
        try dsimp only
        have hb := ab_I_close h u
        have hcl : ab_cl (ab_close a u) u = true := pu_up_self _ _ _
        have key : ∀ lr : Int × ab_S, lr = (if (ab_ex (ab_close a u) x (ab_ld a x)).1 u = 0 then ab_log (ab_close a u) x (0, u) else (0, ab_close a u)) → ab_I B lr.2 ∧ ab_cl lr.2 u = true := by
          intro lr e
          subst e
          split
          · refine ⟨ab_I_logS hb hs ⟨hcl, ht1, ht2, Nat.zero_le 2⟩ (fun q => absurd rfl q) tc, ?_⟩
            rw [ab_log_cl]; exact hcl
          · exact ⟨hb, hcl⟩
        obtain ⟨k1, k2⟩ := key _ rfl
        have fin : ∀ lr : Int × ab_S, ab_I B lr.2 → ab_cl lr.2 u = true → ab_I B (if lr.1 ≠ 0 then lr else if back = false then (3, lr.2) else (((ab_ex lr.2 x (ab_ld a x)).1 u : Nat), ab_learn lr.2 u x (ab_ld a x))).2 := by
          intro lr k1 k2
          split
          · exact k1
          · split
            · exact k1
            · exact ab_I_learn k1 hs hf k2
        exact fin _ k1 k2
theorem ab_I_propose {B : Nat} {a : ab_S} (h : ab_I B a) {k t : Nat} (hc : ab_cl a t = true) (h1 : 1 ≤ t) (h2 : t ≤ ab_n a) (hk : k ≤ 2) (hk0 : k ≠ 0) (hy : k = 1 → ∀ s, s < 3 → ab_tc a t s = true → ab_kv a t s = 1) (back : Bool) : ab_I B (ab_propose a k t back).2 := by
  unfold ab_propose
  split
  · exact h
  · rename_i hld
    have hf : ab_ld a 3 < 3 := ab_ld_lt hld
    try dsimp only
    have key : ∀ lr : Int × ab_S, lr = (if ab_ds a (ab_ld a 3) t = 0 then ab_log a 3 (k, t) else (0, a)) → ab_I B lr.2 := by
      intro lr e
      subst e
      split
      · exact ab_I_logD h ⟨hc, h1, h2, hk, hk0⟩ hy
      · exact h
    have k1 := key _ rfl
    have fin : ∀ lr : Int × ab_S, ab_I B lr.2 → ab_I B (if lr.1 ≠ 0 then lr else if back = false then (3, lr.2) else ((ab_ds lr.2 (ab_ld a 3) t : Nat), ab_setkd lr.2 t (ab_ds lr.2 (ab_ld a 3) t))).2 := by
      intro lr k1
      split
      · exact k1
      · split
        · exact k1
        · exact ab_I_setkd k1 hf
    exact fin _ k1
theorem ab_I_decide {B : Nat} {a : ab_S} (h : ab_I B a) (t : Int) (back : Bool) : ab_I B (ab_decide a t back).2 := by
  unfold ab_decide
  split
  · exact h
  · rename_i q
    have q := Classical.byContradiction q
    obtain ⟨⟨t1, t2⟩, tl⟩ := q
    have ht1 : 1 ≤ t.toNat := by omega
    have ht2 : t.toNat ≤ ab_n a := by omega
    generalize t.toNat = u at ht1 ht2 tl
    split
    · exact h
    · split
      · exact h
      · split
        · rename_i hno
          obtain ⟨s, hs, hv⟩ := hno
          exact ab_I_propose h (ab_kv_cl h hs (by rw [hv]; decide)) ht1 ht2 (by decide) (by decide) (fun q => absurd q (by decide)) back
        · rename_i hno
          split
          · rename_i hall
            have hcl : ab_cl a u = true := by
              cases hop : ab_op a u with
              | nil => rw [hop] at tl; exact absurd rfl tl
              | cons o os =>
                have hm : o.2.1 % 3 < 3 := Nat.mod_lt _ (by decide)
                refine ab_kv_cl h hm (hall _ hm ?_)
                unfold ab_tc
                rw [hop]
                simp
            refine ab_I_propose h hcl ht1 ht2 (by decide) (by decide) ?_ back
            intro _ s hs htc
            have := hall s hs htc
            have := ab_kv_le h (t := u) hs
            have : ab_kv a u s ≠ 2 := fun q => hno ⟨s, hs, q⟩
            omega
          · exact h
theorem ab_I_timeout {B : Nat} {a : ab_S} (h : ab_I B a) (t : Int) (back : Bool) : ab_I B (ab_timeout a t back).2 := by
  unfold ab_timeout
  split
  · exact h
  · rename_i q
    have q := Classical.byContradiction q
    obtain ⟨⟨t1, t2⟩, tl⟩ := q
    have ht1 : 1 ≤ t.toNat := by omega
    have ht2 : t.toNat ≤ ab_n a := by omega
    generalize t.toNat = u at ht1 ht2 tl
    split
    · exact h
    · split
      · exact ab_I_close h u
      · exact ab_I_propose (ab_I_close h u) (pu_up_self _ _ _) ht1 ht2 (by decide) (by decide) (fun q => absurd q (by decide)) back
theorem ab_I_finish {B : Nat} {a : ab_S} (h : ab_I B a) (t s : Int) : ab_I B (ab_finish a t s).2 := by
  unfold ab_finish
  split
  · exact h
  · rename_i q
    have q := Classical.byContradiction q
    obtain ⟨⟨t1, t2⟩, s1, s2, tc⟩ := q
    have hs : s.toNat < 3 := by omega
    have ht1 : 1 ≤ t.toNat := by omega
    have ht2 : t.toNat ≤ ab_n a := by omega
    generalize s.toNat = x at hs tc
    generalize t.toNat = u at ht1 ht2 tc
    split
    · exact h
    · split
      · exact h
      · rename_i _ hkd
        split
        · exact h
        · split
          · exact h
          · try dsimp only
            obtain ⟨a1, a2, a3, a4⟩ := ab_kd_spec h hkd
            have k1 := ab_I_logS h hs (e := (ab_kd a u, u)) ⟨a1, a2, a3, a4⟩ (fun _ => rfl) tc
            split
            · exact k1
            · exact k1
theorem ab_I_crash {B : Nat} {a : ab_S} (h : ab_I B a) (g r : Int) : ab_I B (ab_crash a g r).2 := by
  unfold ab_crash
  split
  · exact ab_I_setup h _ _ _
  · exact h
theorem ab_I_restart {B : Nat} {a : ab_S} (h : ab_I B a) (g r : Int) : ab_I B (ab_restart a g r).2 := by
  unfold ab_restart
  split
  · exact ab_I_setup h _ _ _
  · exact h
theorem ab_I_halt {B : Nat} {a : ab_S} (h : ab_I B a) : ab_I B (ab_halt a).2 := by
  unfold ab_halt
  split
  · exact h
  · exact ab_I_forget h
theorem ab_I_resume {B : Nat} {a : ab_S} (h : ab_I B a) : ab_I B (ab_resume a).2 := by
  unfold ab_resume
  split
  · exact ab_I_setha h _
  · exact h
/-- the longest executed log of the decisions' group -/
def ab_long (a : ab_S) : Nat :=
  let b : Nat := if ab_dn a 3 0 < ab_dn a 3 1 then 1 else 0
  if ab_dn a 3 b < ab_dn a 3 2 then 2 else b
theorem ab_long_lt (a : ab_S) : ab_long a < 3 := by
  unfold ab_long
  dsimp only
  split <;> split <;> decide
theorem ab_long_max (a : ab_S) {r : Nat} (hr : r < 3) : ab_dn a 3 r ≤ ab_dn a 3 (ab_long a) := by
  unfold ab_long
  dsimp only
  rcases pu_lt3 hr with rfl | rfl | rfl
  all_goals
    by_cases h1 : ab_dn a 3 0 < ab_dn a 3 1
    · simp only [h1, if_true]
      by_cases h2 : ab_dn a 3 1 < ab_dn a 3 2
      · simp only [h2, if_true]; omega
      · simp only [h2, if_false]; omega
    · simp only [h1, if_false]
      by_cases h2 : ab_dn a 3 0 < ab_dn a 3 2
      · simp only [h2, if_true]; omega
      · simp only [h2, if_false]; omega
/-- the answer of result -/
theorem ab_result {B : Nat} {a : ab_S} (h : ab_I B a) {t s i : Nat} (hs : s < 3) (hi : pu_sh (ab_op a t) i = s) (hd : ab_kd a t = 1) (hv : ab_kv a t s = 1) :
    ab_rs a t i = (pu_sr (ab_op a) ((ab_lg a 3 (ab_long a)).take (ab_dn a 3 (ab_long a)))).2.2 t i := by
  obtain ⟨⟨M, C, h1⟩, -⟩ := h
  rw [pu_I_result h1 hs hi hd hv]
  obtain ⟨i1, -⟩ := h1
  obtain ⟨g1, g2, g3, g4, g5, g6, ⟨z, z1, z2⟩⟩ := i1 3 (by decide)
  have hl := ab_long_lt a
  have hm := ab_long_max a z1
  obtain ⟨b1, b2⟩ := g6 _ hl
  obtain ⟨b3, b4⟩ := g6 z z1
  have e1 : ((ab_lg a 3 z).take (ab_dn a 3 z)).length = ab_dn a 3 z := by rw [List.length_take]; omega
  have e2 : ((ab_lg a 3 (ab_long a)).take (ab_dn a 3 (ab_long a))).length = ab_dn a 3 (ab_long a) := by rw [List.length_take]; omega
  have e3 : C 3 = (ab_lg a 3 (ab_long a)).take (ab_dn a 3 (ab_long a)) := by
    obtain ⟨D, hD⟩ := b2
    have hlen : (C 3).length = ab_dn a 3 z := by rw [← z2]; exact e1
    have hD0 : D = [] := by
      have := congrArg List.length hD
      rw [List.length_append, e2, hlen] at this
      exact List.eq_nil_of_length_eq_zero (by omega)
    rw [← hD, hD0, List.append_nil]
  rw [e3]
