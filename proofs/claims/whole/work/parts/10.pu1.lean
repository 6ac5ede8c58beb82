/-! pure part one: operations, shard states, decisions, the serial order. No machine in it. -/
abbrev pu_Op : Type := Nat × Nat × Nat
abbrev pu_En : Type := Nat × Nat
abbrev pu_S : Type := (Nat → Nat) × (Nat → Bool) × (Nat → Nat) × (Nat → Nat → Nat)
def pu_up {α : Type} (f : Nat → α) (k : Nat) (v : α) : Nat → α := fun j => if j = k then v else f j
theorem pu_up_self {α : Type} (f : Nat → α) (k : Nat) (v : α) : pu_up f k v k = v := by simp [pu_up]
theorem pu_up_ne {α : Type} (f : Nat → α) {k j : Nat} (v : α) (h : j ≠ k) : pu_up f k v j = f j := by simp [pu_up, h]
/-- what a transaction needs of a key: 0 nothing, 1 shared, 2 alone -/
def pu_need (ops : List pu_Op) (k : Nat) : Nat :=
  if (ops.any fun o => o.2.1 == k && o.1 != 0) = true then 2 else if (ops.any fun o => o.2.1 == k) = true then 1 else 0
theorem pu_need_pos {ops : List pu_Op} {k : Nat} {o : pu_Op} (h : o ∈ ops) (hk : o.2.1 = k) : 0 < pu_need ops k := by
  unfold pu_need
  split
  · decide
  · split
    · decide
    · rename_i h1 h2
      exfalso
      apply h2
      rw [List.any_eq_true]
      exact ⟨o, h, by simp [hk]⟩
theorem pu_need_w {ops : List pu_Op} {k : Nat} (hn : pu_need ops k ≠ 2) {o : pu_Op} (h : o ∈ ops) (hk : o.2.1 = k) : o.1 = 0 := by
  unfold pu_need at hn
  split at hn
  · exact absurd rfl hn
  · rename_i h1
    apply Classical.byContradiction
    intro h0
    apply h1
    rw [List.any_eq_true]
    exact ⟨o, h, by simp [hk, h0]⟩
theorem pu_need_ex {ops : List pu_Op} {k : Nat} (hn : 0 < pu_need ops k) : ∃ o, o ∈ ops ∧ o.2.1 = k := by
  unfold pu_need at hn
  split at hn
  · rename_i h1
    rw [List.any_eq_true] at h1
    obtain ⟨o, ho, hp⟩ := h1
    simp at hp
    exact ⟨o, ho, hp.1⟩
  · split at hn
    · rename_i h2
      rw [List.any_eq_true] at h2
      obtain ⟨o, ho, hp⟩ := h2
      simp at hp
      exact ⟨o, ho, hp⟩
    · exact absurd hn (by decide)
theorem pu_need_le (ops : List pu_Op) (k : Nat) : pu_need ops k ≤ 2 := by
  unfold pu_need
  split
  · decide
  · split <;> decide
/-- one operation on the values -/
def pu_do (va : Nat → Nat) (o : pu_Op) : Nat → Nat :=
  if o.1 = 1 then pu_up va o.2.1 o.2.2 else if o.1 = 2 then pu_up va o.2.1 (va o.2.1 + o.2.2) else va
def pu_res (va : Nat → Nat) (o : pu_Op) : Nat := if o.1 = 2 then va o.2.1 + o.2.2 else va o.2.1
def pu_run (q : Nat → Bool) : List pu_Op → (Nat → Nat) → (Nat → Nat)
  | [], va => va
  | o :: os, va => pu_run q os (if q o.2.1 = true then pu_do va o else va)
def pu_rs (q : Nat → Bool) : List pu_Op → (Nat → Nat) → Nat → Nat
  | [], _, _ => 0
  | o :: _, va, 0 => pu_res va o
  | o :: os, va, i + 1 => pu_rs q os (if q o.2.1 = true then pu_do va o else va) i
theorem pu_do_at {va va' : Nat → Nat} {k : Nat} (h : va k = va' k) (o : pu_Op) : pu_do va o k = pu_do va' o k := by
  unfold pu_do
  by_cases hk : k = o.2.1
  · subst hk
    by_cases h1 : o.1 = 1
    · simp [h1, pu_up_self]
    · by_cases h2 : o.1 = 2
      · simp [h2, pu_up_self, h]
      · simp [h1, h2, h]
  · by_cases h1 : o.1 = 1
    · simp [h1, pu_up_ne _ _ hk, h]
    · by_cases h2 : o.1 = 2
      · simp [h2, pu_up_ne _ _ hk, h]
      · simp [h1, h2, h]
theorem pu_do_off (va : Nat → Nat) {o : pu_Op} {k : Nat} (hk : k ≠ o.2.1) : pu_do va o k = va k := by
  unfold pu_do
  by_cases h1 : o.1 = 1
  · simp [h1, pu_up_ne _ _ hk]
  · by_cases h2 : o.1 = 2
    · simp [h2, pu_up_ne _ _ hk]
    · simp [h1, h2]
/-- a run sees of a key only that key's value -/
theorem pu_run_at {q q' : Nat → Bool} {k : Nat} (hq : q k = q' k) : ∀ (ops : List pu_Op) (va va' : Nat → Nat), va k = va' k → pu_run q ops va k = pu_run q' ops va' k := by
  intro ops
  induction ops with
  | nil => intro va va' h; exact h
  | cons o os ih =>
    intro va va' h
    show pu_run q os _ k = pu_run q' os _ k
    apply ih
    by_cases hk : k = o.2.1
    · rw [← hk, hq]
      split
      · exact pu_do_at h o
      · exact h
    · have e1 : (if q o.2.1 = true then pu_do va o else va) k = va k := by
        split
        · exact pu_do_off va hk
        · rfl
      have e2 : (if q' o.2.1 = true then pu_do va' o else va') k = va' k := by
        split
        · exact pu_do_off va' hk
        · rfl
      rw [e1, e2, h]
theorem pu_rs_at {q q' : Nat → Bool} {k : Nat} (hq : q k = q' k) : ∀ (ops : List pu_Op) (va va' : Nat → Nat) (i : Nat) (o : pu_Op), ops[i]? = some o → o.2.1 = k → va k = va' k → pu_rs q ops va i = pu_rs q' ops va' i := by
  intro ops
  induction ops with
  | nil => intro va va' i o h; simp at h
  | cons p os ih =>
    intro va va' i o h hk hv
    cases i with
    | zero =>
      simp at h
      subst h
      show pu_res va p = pu_res va' p
      unfold pu_res
      rw [hk, hv]
    | succ i =>
      show pu_rs q os _ i = pu_rs q' os _ i
      refine ih _ _ i o (by simpa using h) hk ?_
      by_cases hk2 : k = p.2.1
      · rw [← hk2, hq]
        split
        · exact pu_do_at hv p
        · exact hv
      · have e1 : (if q p.2.1 = true then pu_do va p else va) k = va k := by
          split
          · exact pu_do_off va hk2
          · rfl
        have e2 : (if q' p.2.1 = true then pu_do va' p else va') k = va' k := by
          split
          · exact pu_do_off va' hk2
          · rfl
        rw [e1, e2, hv]
/-- who doesn't write a key leaves it -/
theorem pu_run_off {q : Nat → Bool} {k : Nat} : ∀ (ops : List pu_Op) (va : Nat → Nat), (∀ o, o ∈ ops → o.2.1 = k → o.1 = 0) → pu_run q ops va k = va k := by
  intro ops
  induction ops with
  | nil => intro va _; rfl
  | cons o os ih =>
    intro va h
    show pu_run q os _ k = va k
    rw [ih _ (fun p hp => h p (List.mem_cons_of_mem _ hp))]
    split
    · by_cases hk : k = o.2.1
      · have h0 := h o List.mem_cons_self hk.symm
        simp [pu_do, h0]
      · exact pu_do_off va hk
    · rfl
theorem pu_run_need {q : Nat → Bool} {k : Nat} {ops : List pu_Op} (va : Nat → Nat) (hn : pu_need ops k ≠ 2) : pu_run q ops va k = va k :=
  pu_run_off ops va (fun _ ho hk => pu_need_w hn ho hk)
/-- t and u can't both hold their keys of shard s -/
def pu_hin (op : Nat → List pu_Op) (s t u : Nat) : Prop := ∃ k, k < 12 ∧ k % 3 = s ∧ ((pu_need (op t) k = 2 ∧ 0 < pu_need (op u) k) ∨ (pu_need (op t) k = 1 ∧ pu_need (op u) k = 2))
theorem pu_hin_sym {op : Nat → List pu_Op} {s t u : Nat} (h : pu_hin op s t u) : pu_hin op s u t := by
  obtain ⟨k, h1, h2, h3⟩ := h
  have a := pu_need_le (op u) k
  exact ⟨k, h1, h2, by omega⟩
def pu_free (op : Nat → List pu_Op) (s : Nat) (S : pu_S) (t : Nat) : Prop := ∀ u, u ≠ t → S.1 u = 1 → S.2.1 u = false → ¬ pu_hin op s t u
def pu_q (s : Nat) : Nat → Bool := fun k => k % 3 == s
/-- the shard of operation i -/
def pu_sh (ops : List pu_Op) (i : Nat) : Nat := match ops[i]? with
  | some o => o.2.1 % 3
  | none => 3
def pu_note (s : Nat) (ops : List pu_Op) (va old : Nat → Nat) : Nat → Nat := fun i => if pu_sh ops i = s then pu_rs (pu_q s) ops va i else old i
noncomputable def pu_step (op : Nat → List pu_Op) (s : Nat) (S : pu_S) (e : pu_En) : pu_S := by
  classical exact
    if S.2.1 e.2 = true then S
    else if e.1 = 0 then
      (if S.1 e.2 ≠ 0 then S
       else if pu_free op s S e.2 then (pu_up S.1 e.2 1, S.2.1, S.2.2.1, pu_up S.2.2.2 e.2 (pu_note s (op e.2) S.2.2.1 (S.2.2.2 e.2)))
       else (pu_up S.1 e.2 2, S.2.1, S.2.2.1, S.2.2.2))
    else if e.1 = 1 then (S.1, pu_up S.2.1 e.2 true, pu_run (pu_q s) (op e.2) S.2.2.1, pu_up S.2.2.2 e.2 (pu_note s (op e.2) S.2.2.1 (S.2.2.2 e.2)))
    else (pu_up S.1 e.2 (if S.1 e.2 = 0 then 2 else S.1 e.2), pu_up S.2.1 e.2 true, S.2.2.1, S.2.2.2)
def pu_S0 : pu_S := (fun _ => 0, fun _ => false, fun _ => 0, fun _ _ => 0)
noncomputable def pu_ex (op : Nat → List pu_Op) (s : Nat) (L : List pu_En) : pu_S := L.foldl (pu_step op s) pu_S0
theorem pu_ex_nil (op : Nat → List pu_Op) (s : Nat) : pu_ex op s [] = pu_S0 := rfl
theorem pu_ex_snoc (op : Nat → List pu_Op) (s : Nat) (L : List pu_En) (e : pu_En) : pu_ex op s (L ++ [e]) = pu_step op s (pu_ex op s L) e := by
  unfold pu_ex
  rw [List.foldl_append]
  rfl
/-- induction over a list from its end -/
theorem pu_snoc {α : Type} {P : List α → Prop} (h0 : P []) (hs : ∀ L e, P L → P (L ++ [e])) : ∀ L, P L := by
  intro L
  have key : ∀ (M : List α), P M.reverse := by
    intro M
    induction M with
    | nil => exact h0
    | cons a M ih => rw [List.reverse_cons]; exact hs _ _ ih
  have := key L.reverse
  rwa [List.reverse_reverse] at this
/-- the five ways of a step -/
theorem pu_step_cases (op : Nat → List pu_Op) (s : Nat) (S : pu_S) (k t : Nat) {P : pu_S → Prop}
    (h1 : S.2.1 t = true → P S)
    (h2 : S.2.1 t = false → k = 0 → S.1 t ≠ 0 → P S)
    (h3 : S.2.1 t = false → k = 0 → S.1 t = 0 → pu_free op s S t → P (pu_up S.1 t 1, S.2.1, S.2.2.1, pu_up S.2.2.2 t (pu_note s (op t) S.2.2.1 (S.2.2.2 t))))
    (h4 : S.2.1 t = false → k = 0 → S.1 t = 0 → ¬ pu_free op s S t → P (pu_up S.1 t 2, S.2.1, S.2.2.1, S.2.2.2))
    (h5 : S.2.1 t = false → k = 1 → P (S.1, pu_up S.2.1 t true, pu_run (pu_q s) (op t) S.2.2.1, pu_up S.2.2.2 t (pu_note s (op t) S.2.2.1 (S.2.2.2 t))))
    (h6 : S.2.1 t = false → k ≠ 0 → k ≠ 1 → P (pu_up S.1 t (if S.1 t = 0 then 2 else S.1 t), pu_up S.2.1 t true, S.2.2.1, S.2.2.2)) : P (pu_step op s S (k, t)) := by
  unfold pu_step
  dsimp only
  by_cases f : S.2.1 t = true
  · rw [if_pos f]; exact h1 f
  · have f' : S.2.1 t = false := by simpa using f
    rw [if_neg f]
    by_cases k0 : k = 0
    · rw [if_pos k0]
      by_cases v : S.1 t ≠ 0
      · rw [if_pos v]; exact h2 f' k0 v
      · rw [if_neg v]
        have v' : S.1 t = 0 := by omega
        by_cases fr : pu_free op s S t
        · rw [if_pos fr]; exact h3 f' k0 v' fr
        · rw [if_neg fr]; exact h4 f' k0 v' fr
    · rw [if_neg k0]
      by_cases k1 : k = 1
      · rw [if_pos k1]; exact h5 f' k1
      · rw [if_neg k1]; exact h6 f' k0 k1
/-- votes and ends stay -/
theorem pu_step_vo (op : Nat → List pu_Op) (s : Nat) (S : pu_S) (e : pu_En) (u : Nat) (h : S.1 u ≠ 0) : (pu_step op s S e).1 u = S.1 u := by
  obtain ⟨k, t⟩ := e
  refine pu_step_cases op s S k t (P := fun S' => S'.1 u = S.1 u) ?_ ?_ ?_ ?_ ?_ ?_
  · intro _; rfl
  · intro _ _ _; rfl
  · intro _ _ h0 _
    have : u ≠ t := fun e => h (e ▸ h0)
    exact pu_up_ne _ _ this
  · intro _ _ h0 _
    have : u ≠ t := fun e => h (e ▸ h0)
    exact pu_up_ne _ _ this
  · intro _ _; rfl
  · intro _ _ _
    by_cases hu : u = t
    · subst hu
      show pu_up S.1 u _ u = S.1 u
      rw [pu_up_self, if_neg h]
    · exact pu_up_ne _ _ hu
theorem pu_step_fi (op : Nat → List pu_Op) (s : Nat) (S : pu_S) (e : pu_En) (u : Nat) (h : S.2.1 u = true) : (pu_step op s S e).2.1 u = true := by
  obtain ⟨k, t⟩ := e
  refine pu_step_cases op s S k t (P := fun S' => S'.2.1 u = true) ?_ ?_ ?_ ?_ ?_ ?_
  · intro _; exact h
  · intro _ _ _; exact h
  · intro _ _ _ _; exact h
  · intro _ _ _ _; exact h
  · intro hf _
    have : u ≠ t := fun e => by rw [e] at h; rw [h] at hf; cases hf
    show pu_up S.2.1 t true u = true
    rw [pu_up_ne _ _ this]; exact h
  · intro hf _ _
    have : u ≠ t := fun e => by rw [e] at h; rw [h] at hf; cases hf
    show pu_up S.2.1 t true u = true
    rw [pu_up_ne _ _ this]; exact h
theorem pu_ex_vo (op : Nat → List pu_Op) (s : Nat) (L : List pu_En) (u : Nat) (h : (pu_ex op s L).1 u ≠ 0) : ∀ D, (pu_ex op s (L ++ D)).1 u = (pu_ex op s L).1 u := by
  refine pu_snoc ?_ ?_
  · rw [List.append_nil]
  · intro D e ih
    rw [← List.append_assoc, pu_ex_snoc, pu_step_vo _ _ _ _ _ (by rw [ih]; exact h), ih]
theorem pu_ex_fi (op : Nat → List pu_Op) (s : Nat) (L : List pu_En) (u : Nat) (h : (pu_ex op s L).2.1 u = true) : ∀ D, (pu_ex op s (L ++ D)).2.1 u = true := by
  refine pu_snoc ?_ ?_
  · rw [List.append_nil]; exact h
  · intro D e ih
    rw [← List.append_assoc, pu_ex_snoc]
    exact pu_step_fi _ _ _ _ _ ih
/-- whose vote or end stands, of them there are entries -/
theorem pu_ex_vo_in (op : Nat → List pu_Op) (s u : Nat) : ∀ L, (pu_ex op s L).1 u ≠ 0 → ∃ k, (k, u) ∈ L := by
  refine pu_snoc ?_ ?_
  · intro h; exact absurd rfl h
  · intro L e ih h
    obtain ⟨k, t⟩ := e
    by_cases hu : u = t
    · exact ⟨k, by simp [hu]⟩
    · rw [pu_ex_snoc] at h
      have hs : (pu_step op s (pu_ex op s L) (k, t)).1 u = (pu_ex op s L).1 u := by
        refine pu_step_cases op s _ k t (P := fun S' => S'.1 u = (pu_ex op s L).1 u) ?_ ?_ ?_ ?_ ?_ ?_
        · intro _; rfl
        · intro _ _ _; rfl
        · intro _ _ _ _; exact pu_up_ne _ _ hu
        · intro _ _ _ _; exact pu_up_ne _ _ hu
        · intro _ _; rfl
        · intro _ _ _; exact pu_up_ne _ _ hu
      rw [hs] at h
      obtain ⟨k', hk⟩ := ih h
      exact ⟨k', List.mem_append_left _ hk⟩
theorem pu_ex_fi_in (op : Nat → List pu_Op) (s u : Nat) : ∀ L, (pu_ex op s L).2.1 u = true → ∃ k, k ≠ 0 ∧ (k, u) ∈ L := by
  refine pu_snoc ?_ ?_
  · intro h; cases h
  · intro L e ih h
    obtain ⟨k, t⟩ := e
    have hb : (pu_ex op s L).2.1 u = true ∨ (u = t ∧ k ≠ 0) := by
      rw [pu_ex_snoc] at h
      revert h
      refine pu_step_cases op s _ k t (P := fun S' => S'.2.1 u = true → (pu_ex op s L).2.1 u = true ∨ (u = t ∧ k ≠ 0)) ?_ ?_ ?_ ?_ ?_ ?_
      · intro _ h; exact Or.inl h
      · intro _ _ _ h; exact Or.inl h
      · intro _ _ _ _ h; exact Or.inl h
      · intro _ _ _ _ h; exact Or.inl h
      · intro _ k1 h
        by_cases hu : u = t
        · exact Or.inr ⟨hu, by omega⟩
        · have h : pu_up (pu_ex op s L).2.1 t true u = true := h
          rw [pu_up_ne _ _ hu] at h
          exact Or.inl h
      · intro _ k0 _ h
        by_cases hu : u = t
        · exact Or.inr ⟨hu, k0⟩
        · have h : pu_up (pu_ex op s L).2.1 t true u = true := h
          rw [pu_up_ne _ _ hu] at h
          exact Or.inl h
    rcases hb with hb | ⟨rfl, hk⟩
    · obtain ⟨k', h0, hk⟩ := ih hb
      exact ⟨k', h0, List.mem_append_left _ hk⟩
    · exact ⟨k, hk, by simp⟩
/-- locks: two that hold don't hinder each other -/
theorem pu_ex_lock (op : Nat → List pu_Op) (s : Nat) : ∀ L, ∀ t u, t ≠ u → (pu_ex op s L).1 t = 1 → (pu_ex op s L).2.1 t = false → (pu_ex op s L).1 u = 1 → (pu_ex op s L).2.1 u = false → ¬ pu_hin op s t u := by
  refine pu_snoc ?_ ?_
  · intro t u _ h; simp [pu_ex_nil, pu_S0] at h
  · intro L e ih
    obtain ⟨k, w⟩ := e
    rw [pu_ex_snoc]
    refine pu_step_cases op s _ k w (P := fun S' => ∀ t u, t ≠ u → S'.1 t = 1 → S'.2.1 t = false → S'.1 u = 1 → S'.2.1 u = false → ¬ pu_hin op s t u) ?_ ?_ ?_ ?_ ?_ ?_
    · intro _; exact ih
    · intro _ _ _; exact ih
    · intro _ _ _ fr t u htu a1 a2 b1 b2
      have a1 : pu_up (pu_ex op s L).1 w 1 t = 1 := a1
      have b1 : pu_up (pu_ex op s L).1 w 1 u = 1 := b1
      by_cases ht : t = w
      · have hu : u ≠ w := fun e => htu (ht.trans e.symm)
        rw [pu_up_ne _ _ hu] at b1
        rw [ht]
        exact fr u hu b1 b2
      · rw [pu_up_ne _ _ ht] at a1
        by_cases hu : u = w
        · rw [hu]
          exact fun h => fr t ht a1 a2 (pu_hin_sym h)
        · rw [pu_up_ne _ _ hu] at b1
          exact ih t u htu a1 a2 b1 b2
    · intro _ _ _ _ t u htu a1 a2 b1 b2
      have a1 : pu_up (pu_ex op s L).1 w 2 t = 1 := a1
      have b1 : pu_up (pu_ex op s L).1 w 2 u = 1 := b1
      have ht : t ≠ w := fun e => by rw [e, pu_up_self] at a1; cases a1
      have hu : u ≠ w := fun e => by rw [e, pu_up_self] at b1; cases b1
      rw [pu_up_ne _ _ ht] at a1
      rw [pu_up_ne _ _ hu] at b1
      exact ih t u htu a1 a2 b1 b2
    · intro _ _ t u htu a1 a2 b1 b2
      have a2 : pu_up (pu_ex op s L).2.1 w true t = false := a2
      have b2 : pu_up (pu_ex op s L).2.1 w true u = false := b2
      have ht : t ≠ w := fun e => by rw [e, pu_up_self] at a2; cases a2
      have hu : u ≠ w := fun e => by rw [e, pu_up_self] at b2; cases b2
      rw [pu_up_ne _ _ ht] at a2
      rw [pu_up_ne _ _ hu] at b2
      exact ih t u htu a1 a2 b1 b2
    · intro _ _ _ t u htu a1 a2 b1 b2
      have a1 : pu_up (pu_ex op s L).1 w _ t = 1 := a1
      have b1 : pu_up (pu_ex op s L).1 w _ u = 1 := b1
      have a2 : pu_up (pu_ex op s L).2.1 w true t = false := a2
      have b2 : pu_up (pu_ex op s L).2.1 w true u = false := b2
      have ht : t ≠ w := fun e => by rw [e, pu_up_self] at a2; cases a2
      have hu : u ≠ w := fun e => by rw [e, pu_up_self] at b2; cases b2
      rw [pu_up_ne _ _ ht] at a1 a2
      rw [pu_up_ne _ _ hu] at b1 b2
      exact ih t u htu a1 a2 b1 b2
/-- each commit that counts stands behind a yes -/
def pu_ok (op : Nat → List pu_Op) (s : Nat) (L : List pu_En) : Prop := ∀ (L1 L2 : List pu_En) (t : Nat), L = L1 ++ (1, t) :: L2 → (pu_ex op s L1).2.1 t = true ∨ (pu_ex op s L1).1 t = 1
theorem pu_ok_left {op : Nat → List pu_Op} {s : Nat} {L D : List pu_En} (h : pu_ok op s (L ++ D)) : pu_ok op s L := by
  intro L1 L2 t e
  exact h L1 (L2 ++ D) t (by rw [e]; simp)
theorem pu_ok_nil (op : Nat → List pu_Op) (s : Nat) : pu_ok op s [] := by
  intro L1 L2 t e
  cases L1 <;> simp at e
theorem pu_ok_snoc {op : Nat → List pu_Op} {s : Nat} {L : List pu_En} {e : pu_En} (h : pu_ok op s L) (he : e.1 = 1 → (pu_ex op s L).2.1 e.2 = true ∨ (pu_ex op s L).1 e.2 = 1) : pu_ok op s (L ++ [e]) := by
  intro L1 L2 t e1
  rcases List.eq_nil_or_concat L2 with h2 | ⟨L3, x, h2⟩
  · subst h2
    have := List.append_inj' e1 rfl
    obtain ⟨rfl, h3⟩ := this
    have h3 : e = (1, t) := by simpa using h3
    rw [h3] at he
    exact he rfl
  · subst h2
    rw [List.concat_eq_append] at e1
    have e2 : L ++ [e] = (L1 ++ (1, t) :: L3) ++ [x] := by rw [e1]; simp
    have := List.append_inj' e2 rfl
    exact h L1 L3 t this.1
/-- who holds: the noted results are those of its operations on the values as they are -/
theorem pu_ex_no (op : Nat → List pu_Op) (hop : ∀ t o, o ∈ op t → o.2.1 < 12) (s : Nat) : ∀ L, pu_ok op s L → ∀ t, (pu_ex op s L).1 t = 1 → (pu_ex op s L).2.1 t = false → ∀ i, pu_sh (op t) i = s → s < 3 → (pu_ex op s L).2.2.2 t i = pu_rs (pu_q s) (op t) (pu_ex op s L).2.2.1 i := by
  refine pu_snoc ?_ ?_
  · intro _ t h; simp [pu_ex_nil, pu_S0] at h
  · intro L e ih hok
    obtain ⟨k, w⟩ := e
    have hlk := pu_ex_lock op s L
    have ih := ih (pu_ok_left hok)
    have hw : k = 1 → (pu_ex op s L).2.1 w = true ∨ (pu_ex op s L).1 w = 1 := by
      intro hk; subst hk
      exact hok L [] w rfl
    rw [pu_ex_snoc]
    refine pu_step_cases op s _ k w (P := fun S' => ∀ t, S'.1 t = 1 → S'.2.1 t = false → ∀ i, pu_sh (op t) i = s → s < 3 → S'.2.2.2 t i = pu_rs (pu_q s) (op t) S'.2.2.1 i) ?_ ?_ ?_ ?_ ?_ ?_
    · intro _; exact ih
    · intro _ _ _; exact ih
    · intro _ _ _ _ t a1 a2 i hi hs
      have a1 : pu_up (pu_ex op s L).1 w 1 t = 1 := a1
      show pu_up (pu_ex op s L).2.2.2 w _ t i = _
      by_cases ht : t = w
      · subst ht
        rw [pu_up_self]
        simp [pu_note, hi]
      · rw [pu_up_ne _ _ ht] at a1 ⊢
        exact ih t a1 a2 i hi hs
    · intro _ _ _ _ t a1 a2 i hi hs
      have a1 : pu_up (pu_ex op s L).1 w 2 t = 1 := a1
      have ht : t ≠ w := fun e => by rw [e, pu_up_self] at a1; cases a1
      rw [pu_up_ne _ _ ht] at a1
      exact ih t a1 a2 i hi hs
    · intro hf hk t a1 a2 i hi hs
      have a2 : pu_up (pu_ex op s L).2.1 w true t = false := a2
      have ht : t ≠ w := fun e => by rw [e, pu_up_self] at a2; cases a2
      rw [pu_up_ne _ _ ht] at a2
      show pu_up (pu_ex op s L).2.2.2 w _ t i = pu_rs (pu_q s) (op t) (pu_run (pu_q s) (op w) (pu_ex op s L).2.2.1) i
      rw [pu_up_ne _ _ ht, ih t a1 a2 i hi hs]
      have hw1 : (pu_ex op s L).1 w = 1 := by
        rcases hw hk with h | h
        · rw [h] at hf; cases hf
        · exact h
      have hno := hlk t w ht a1 a2 hw1 hf
      cases hoi : (op t)[i]? with
      | none => rw [pu_sh, hoi] at hi; simp at hi; omega
      | some o =>
        rw [pu_sh, hoi] at hi
        have hi : o.2.1 % 3 = s := hi
        have hmem : o ∈ op t := List.mem_of_getElem? hoi
        refine pu_rs_at (k := o.2.1) rfl (op t) _ _ i o hoi rfl ?_
        rw [pu_run_need]
        intro h2
        apply hno
        have hp := pu_need_pos hmem rfl
        have hl := pu_need_le (op t) o.2.1
        exact ⟨o.2.1, hop t o hmem, hi, by omega⟩
    · intro _ _ _ t a1 a2 i hi hs
      have a1 : pu_up (pu_ex op s L).1 w _ t = 1 := a1
      have a2 : pu_up (pu_ex op s L).2.1 w true t = false := a2
      have ht : t ≠ w := fun e => by rw [e, pu_up_self] at a2; cases a2
      rw [pu_up_ne _ _ ht] at a1 a2
      exact ih t a1 a2 i hi hs
/-- what a yes has noted stays -/
theorem pu_ex_keep (op : Nat → List pu_Op) (hop : ∀ t o, o ∈ op t → o.2.1 < 12) (s : Nat) (hs : s < 3) (L : List pu_En) (t : Nat) (ht : (pu_ex op s L).1 t = 1) (i : Nat) (hi : pu_sh (op t) i = s) : ∀ D, pu_ok op s (L ++ D) → (pu_ex op s (L ++ D)).2.2.2 t i = (pu_ex op s L).2.2.2 t i := by
  refine pu_snoc ?_ ?_
  · intro _; rw [List.append_nil]
  · intro D e ih hok
    obtain ⟨k, w⟩ := e
    rw [← List.append_assoc] at hok ⊢
    have hok1 := pu_ok_left hok
    have ih := ih hok1
    have hv : (pu_ex op s (L ++ D)).1 t = 1 := by rw [pu_ex_vo op s L t (by rw [ht]; decide)]; exact ht
    have hno := pu_ex_no op hop s (L ++ D) hok1 t hv
    rw [pu_ex_snoc]
    refine pu_step_cases op s _ k w (P := fun S' => S'.2.2.2 t i = (pu_ex op s L).2.2.2 t i) ?_ ?_ ?_ ?_ ?_ ?_
    · intro _; exact ih
    · intro _ _ _; exact ih
    · intro _ _ h0 _
      have hw : t ≠ w := fun e => by rw [e] at hv; rw [hv] at h0; cases h0
      show pu_up (pu_ex op s (L ++ D)).2.2.2 w _ t i = _
      rw [pu_up_ne _ _ hw]; exact ih
    · intro _ _ _ _; exact ih
    · intro hf _
      show pu_up (pu_ex op s (L ++ D)).2.2.2 w _ t i = _
      by_cases hw : t = w
      · subst hw
        rw [pu_up_self]
        simp only [pu_note, hi, if_true]
        rw [← ih, hno hf i hi hs]
      · rw [pu_up_ne _ _ hw]; exact ih
    · intro _ _ _; exact ih
/-- an execution sees only the operations of those that it names -/
theorem pu_ex_congr {op op' : Nat → List pu_Op} (s : Nat) : ∀ L, (∀ e, e ∈ L → op e.2 = op' e.2) → pu_ex op s L = pu_ex op' s L := by
  refine pu_snoc ?_ ?_
  · intro _; rfl
  · intro L e ih h
    have ih := ih (fun e' he => h e' (List.mem_append_left _ he))
    have hw : op e.2 = op' e.2 := h e (by simp)
    rw [pu_ex_snoc, pu_ex_snoc, ih]
    have hfr : pu_free op s (pu_ex op' s L) e.2 ↔ pu_free op' s (pu_ex op' s L) e.2 := by
      have key : ∀ u, (pu_ex op' s L).1 u = 1 → op u = op' u := by
        intro u hu
        obtain ⟨k, hk⟩ := pu_ex_vo_in op' s u L (by rw [hu]; decide)
        exact h (k, u) (List.mem_append_left _ hk)
      unfold pu_free
      constructor
      · intro hh u h1 h2 h3 h4
        apply hh u h1 h2 h3
        unfold pu_hin at h4 ⊢
        rw [hw, key u h2]; exact h4
      · intro hh u h1 h2 h3 h4
        apply hh u h1 h2 h3
        unfold pu_hin at h4 ⊢
        rw [← hw, ← key u h2]; exact h4
    unfold pu_step
    by_cases q : pu_free op' s (pu_ex op' s L) e.2
    · have q' := hfr.mpr q
      simp only [hw, q, q', if_true]
    · have q' : ¬ pu_free op s (pu_ex op' s L) e.2 := fun z => q (hfr.mp z)
      simp only [hw, q, q', if_false]
