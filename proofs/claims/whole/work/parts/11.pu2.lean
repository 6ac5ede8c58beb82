/-! pure part two: decisions, the serial order, and what holds between the groups. -/
def pu_ds (L : List pu_En) : Nat → Nat := L.foldl (fun d e => if d e.2 = 0 then pu_up d e.2 e.1 else d) (fun _ => 0)
theorem pu_ds_snoc (L : List pu_En) (e : pu_En) : pu_ds (L ++ [e]) = if pu_ds L e.2 = 0 then pu_up (pu_ds L) e.2 e.1 else pu_ds L := by
  unfold pu_ds
  rw [List.foldl_append]
  rfl
theorem pu_ds_snoc_ne (L : List pu_En) (e : pu_En) (t : Nat) (h : pu_ds L t ≠ 0) : pu_ds (L ++ [e]) t = pu_ds L t := by
  rw [pu_ds_snoc]
  split
  · rename_i h0
    have : t ≠ e.2 := fun q => h (q ▸ h0)
    exact pu_up_ne _ _ this
  · rfl
theorem pu_ds_app (L : List pu_En) (t : Nat) (h : pu_ds L t ≠ 0) : ∀ D, pu_ds (L ++ D) t = pu_ds L t := by
  refine pu_snoc ?_ ?_
  · rw [List.append_nil]
  · intro D e ih
    rw [← List.append_assoc, pu_ds_snoc_ne _ _ _ (by rw [ih]; exact h), ih]
theorem pu_ds_in (t : Nat) : ∀ L, pu_ds L t ≠ 0 → (pu_ds L t, t) ∈ L := by
  refine pu_snoc ?_ ?_
  · intro h; exact absurd rfl h
  · intro L e ih
    rw [pu_ds_snoc]
    split
    · by_cases ht : t = e.2
      · subst ht
        rw [pu_up_self]
        intro _
        exact List.mem_append_right _ (by simp)
      · rw [pu_up_ne _ _ ht]
        intro h
        exact List.mem_append_left _ (ih h)
    · intro h
      exact List.mem_append_left _ (ih h)
abbrev pu_Z : Type := (Nat → Nat) × (Nat → Nat) × (Nat → Nat → Nat)
def pu_all : Nat → Bool := fun _ => true
/-- the committed, one after another: decisions, values, results -/
def pu_zs (op : Nat → List pu_Op) (Z : pu_Z) (e : pu_En) : pu_Z :=
  if Z.1 e.2 = 0 then
    (pu_up Z.1 e.2 e.1, if e.1 = 1 then pu_run pu_all (op e.2) Z.2.1 else Z.2.1, if e.1 = 1 then pu_up Z.2.2 e.2 (pu_rs pu_all (op e.2) Z.2.1) else Z.2.2)
  else Z
def pu_Z0 : pu_Z := (fun _ => 0, fun _ => 0, fun _ _ => 0)
def pu_sr (op : Nat → List pu_Op) (L : List pu_En) : pu_Z := L.foldl (pu_zs op) pu_Z0
theorem pu_sr_snoc (op : Nat → List pu_Op) (L : List pu_En) (e : pu_En) : pu_sr op (L ++ [e]) = pu_zs op (pu_sr op L) e := by
  unfold pu_sr
  rw [List.foldl_append]
  rfl
theorem pu_sr_ds (op : Nat → List pu_Op) : ∀ L, (pu_sr op L).1 = pu_ds L := by
  refine pu_snoc rfl ?_
  intro L e ih
  rw [pu_sr_snoc, pu_ds_snoc]
  unfold pu_zs
  rw [ih]
  split
  · rfl
  · exact ih
theorem pu_sr_congr {op op' : Nat → List pu_Op} : ∀ L, (∀ e, e ∈ L → op e.2 = op' e.2) → pu_sr op L = pu_sr op' L := by
  refine pu_snoc ?_ ?_
  · intro _; rfl
  · intro L e ih h
    have ih := ih (fun e' he => h e' (List.mem_append_left _ he))
    have hw : op e.2 = op' e.2 := h e (by simp)
    rw [pu_sr_snoc, pu_sr_snoc, ih]
    unfold pu_zs
    rw [hw]
/-- a result stands once its transaction is decided -/
theorem pu_sr_keep (op : Nat → List pu_Op) (L : List pu_En) (t : Nat) (h : pu_ds L t ≠ 0) : ∀ D, (pu_sr op (L ++ D)).2.2 t = (pu_sr op L).2.2 t := by
  refine pu_snoc ?_ ?_
  · rw [List.append_nil]
  · intro D e ih
    rw [← List.append_assoc, pu_sr_snoc]
    unfold pu_zs
    split
    · rename_i h0
      have hd : pu_ds (L ++ D) t ≠ 0 := by rw [pu_ds_app L t h]; exact h
      have ht : t ≠ e.2 := by
        intro q
        rw [pu_sr_ds, ← q] at h0
        exact hd h0
      dsimp only
      split
      · rw [pu_up_ne _ _ ht]; exact ih
      · exact ih
    · exact ih
/-- what holds between the shards' executed logs C 0, C 1, C 2 and the decisions' C 3 -/
def pu_J (op : Nat → List pu_Op) (C : Nat → List pu_En) : Prop :=
  (∀ s, s < 3 → pu_ok op s (C s)) ∧
  (∀ t, pu_ds (C 3) t = 1 → ∀ o, o ∈ op t → (pu_ex op (o.2.1 % 3) (C (o.2.1 % 3))).1 t = 1) ∧
  (∀ s, s < 3 → ∀ t, (pu_ex op s (C s)).2.1 t = true → pu_ds (C 3) t ≠ 0) ∧
  (∀ k, k < 12 →
    (∃ u, pu_ds (C 3) u = 1 ∧ (pu_ex op (k % 3) (C (k % 3))).2.1 u = false ∧ pu_need (op u) k = 2 ∧ (pu_sr op (C 3)).2.1 k = pu_run (pu_q (k % 3)) (op u) (pu_ex op (k % 3) (C (k % 3))).2.2.1 k) ∨
    ((∀ u, pu_ds (C 3) u = 1 → (pu_ex op (k % 3) (C (k % 3))).2.1 u = false → pu_need (op u) k ≠ 2) ∧ (pu_sr op (C 3)).2.1 k = (pu_ex op (k % 3) (C (k % 3))).2.2.1 k)) ∧
  (∀ t, pu_ds (C 3) t = 1 → ∀ s, s < 3 → ∀ i, pu_sh (op t) i = s → (pu_sr op (C 3)).2.2 t i = (pu_ex op s (C s)).2.2.2 t i)
theorem pu_J_nil (op : Nat → List pu_Op) : pu_J op (fun _ => []) := by
  refine ⟨fun s _ => pu_ok_nil op s, ?_, ?_, ?_, ?_⟩
  · intro t h; exact absurd h (show ¬ ((0 : Nat) = 1) by decide)
  · intro s _ t h; cases h
  · intro k _
    right
    exact ⟨fun u h => absurd h (show ¬ ((0 : Nat) = 1) by decide), rfl⟩
  · intro t h; exact absurd h (show ¬ ((0 : Nat) = 1) by decide)
/-- writes of a touched key: a yes voter that is decided touches the key's shard -/
theorem pu_J_yes {op : Nat → List pu_Op} {C : Nat → List pu_En} (h : pu_J op C) {u k : Nat} (hu : pu_ds (C 3) u = 1) (hn : 0 < pu_need (op u) k) : (pu_ex op (k % 3) (C (k % 3))).1 u = 1 := by
  obtain ⟨o, ho, rfl⟩ := pu_need_ex hn
  exact h.2.1 u hu o ho
/-- a shard executes one more entry -/
theorem pu_J_shard {op : Nat → List pu_Op} (hop : ∀ t o, o ∈ op t → o.2.1 < 12) {C : Nat → List pu_En} (h : pu_J op C) {s : Nat} (hs : s < 3) {e : pu_En}
    (hc : e.1 = 1 → pu_ds (C 3) e.2 = 1 ∧ ((pu_ex op s (C s)).2.1 e.2 = true ∨ (pu_ex op s (C s)).1 e.2 = 1)) (ha : e.1 ≠ 0 → e.1 ≠ 1 → pu_ds (C 3) e.2 ≠ 0 ∧ pu_ds (C 3) e.2 ≠ 1) :
    pu_J op (pu_up C s (C s ++ [e])) := by
  obtain ⟨j1, j2, j3, j4, j5⟩ := h
  have h3 : (3 : Nat) ≠ s := by omega
  have e3 : pu_up C s (C s ++ [e]) 3 = C 3 := pu_up_ne _ _ h3
  have es : pu_up C s (C s ++ [e]) s = C s ++ [e] := pu_up_self _ _ _
  have eo : ∀ s', s' ≠ s → pu_up C s (C s ++ [e]) s' = C s' := fun s' q => pu_up_ne _ _ q
  have hok : pu_ok op s (C s ++ [e]) := pu_ok_snoc (j1 s hs) (fun q => (hc q).2)
  have hlk := pu_ex_lock op s (C s)
  have hno := pu_ex_no op hop s (C s) (j1 s hs)
  obtain ⟨k, w⟩ := e
  -- the step itself
  have key : ∀ S', S' = pu_ex op s (C s ++ [(k, w)]) →
      (∀ t, S'.2.1 t = true → pu_ds (C 3) t ≠ 0) ∧
      (∀ key, key < 12 → key % 3 = s → (∃ u, pu_ds (C 3) u = 1 ∧ S'.2.1 u = false ∧ pu_need (op u) key = 2 ∧ (pu_sr op (C 3)).2.1 key = pu_run (pu_q s) (op u) S'.2.2.1 key) ∨ ((∀ u, pu_ds (C 3) u = 1 → S'.2.1 u = false → pu_need (op u) key ≠ 2) ∧ (pu_sr op (C 3)).2.1 key = S'.2.2.1 key)) ∧
      (∀ t, pu_ds (C 3) t = 1 → ∀ i, pu_sh (op t) i = s → (pu_sr op (C 3)).2.2 t i = S'.2.2.2 t i) := by
    intro S' hS'
    rw [pu_ex_snoc] at hS'
    subst hS'
    have a3 := j3 s hs
    have a4 : ∀ key, key < 12 → key % 3 = s → (∃ u, pu_ds (C 3) u = 1 ∧ (pu_ex op s (C s)).2.1 u = false ∧ pu_need (op u) key = 2 ∧ (pu_sr op (C 3)).2.1 key = pu_run (pu_q s) (op u) (pu_ex op s (C s)).2.2.1 key) ∨ ((∀ u, pu_ds (C 3) u = 1 → (pu_ex op s (C s)).2.1 u = false → pu_need (op u) key ≠ 2) ∧ (pu_sr op (C 3)).2.1 key = (pu_ex op s (C s)).2.2.1 key) := by
      intro key hk hks
      have := j4 key hk
      rw [hks] at this
      exact this
    have a5 : ∀ t, pu_ds (C 3) t = 1 → ∀ i, pu_sh (op t) i = s → (pu_sr op (C 3)).2.2 t i = (pu_ex op s (C s)).2.2.2 t i := fun t ht i hi => j5 t ht s hs i hi
    have ayes : ∀ u key, key % 3 = s → pu_ds (C 3) u = 1 → 0 < pu_need (op u) key → (pu_ex op s (C s)).1 u = 1 := by
      intro u key hks hu hn
      obtain ⟨o, ho, rfl⟩ := pu_need_ex hn
      have := j2 u hu o ho
      rw [hks] at this
      exact this
    refine pu_step_cases op s _ k w (P := fun S' => (∀ t, S'.2.1 t = true → pu_ds (C 3) t ≠ 0) ∧
      (∀ key, key < 12 → key % 3 = s → (∃ u, pu_ds (C 3) u = 1 ∧ S'.2.1 u = false ∧ pu_need (op u) key = 2 ∧ (pu_sr op (C 3)).2.1 key = pu_run (pu_q s) (op u) S'.2.2.1 key) ∨ ((∀ u, pu_ds (C 3) u = 1 → S'.2.1 u = false → pu_need (op u) key ≠ 2) ∧ (pu_sr op (C 3)).2.1 key = S'.2.2.1 key)) ∧
      (∀ t, pu_ds (C 3) t = 1 → ∀ i, pu_sh (op t) i = s → (pu_sr op (C 3)).2.2 t i = S'.2.2.2 t i)) ?_ ?_ ?_ ?_ ?_ ?_
    · intro _; exact ⟨a3, a4, a5⟩
    · intro _ _ _; exact ⟨a3, a4, a5⟩
    · intro hf hk h0 _
      refine ⟨a3, a4, fun t ht i hi => ?_⟩
      show _ = pu_up (pu_ex op s (C s)).2.2.2 w _ t i
      by_cases hw : t = w
      · exfalso
        subst hw
        cases hoi : (op t)[i]? with
        | none => rw [pu_sh, hoi] at hi; simp at hi; omega
        | some o =>
          rw [pu_sh, hoi] at hi
          have hi : o.2.1 % 3 = s := hi
          have := ayes t o.2.1 hi ht (pu_need_pos (List.mem_of_getElem? hoi) rfl)
          rw [h0] at this
          cases this
      · rw [pu_up_ne _ _ hw]; exact a5 t ht i hi
    · intro _ _ _ _; exact ⟨a3, a4, a5⟩
    · intro hf hk
      obtain ⟨hd, hv⟩ := hc hk
      have hv : (pu_ex op s (C s)).1 w = 1 := by
        rcases hv with q | q
        · have q : (pu_ex op s (C s)).2.1 w = true := q
          rw [hf] at q; cases q
        · exact q
      have hd : pu_ds (C 3) w = 1 := hd
      refine ⟨?_, ?_, ?_⟩
      · intro t ht
        have ht : pu_up (pu_ex op s (C s)).2.1 w true t = true := ht
        by_cases hw : t = w
        · rw [hw, hd]; decide
        · rw [pu_up_ne _ _ hw] at ht
          exact a3 t ht
      · intro key hkey hks
        show (∃ u, pu_ds (C 3) u = 1 ∧ pu_up (pu_ex op s (C s)).2.1 w true u = false ∧ pu_need (op u) key = 2 ∧ (pu_sr op (C 3)).2.1 key = pu_run (pu_q s) (op u) (pu_run (pu_q s) (op w) (pu_ex op s (C s)).2.2.1) key) ∨ ((∀ u, pu_ds (C 3) u = 1 → pu_up (pu_ex op s (C s)).2.1 w true u = false → pu_need (op u) key ≠ 2) ∧ (pu_sr op (C 3)).2.1 key = pu_run (pu_q s) (op w) (pu_ex op s (C s)).2.2.1 key)
        rcases a4 key hkey hks with ⟨u, u1, u2, u3, u4⟩ | ⟨u1, u2⟩
        · by_cases hu : u = w
          · right
            subst hu
            refine ⟨fun x x1 x2 x3 => ?_, u4⟩
            have hx : x ≠ u := fun q => by rw [q, pu_up_self] at x2; cases x2
            rw [pu_up_ne _ _ hx] at x2
            have hxv := ayes x key hks x1 (by omega)
            exact hlk x u hx hxv x2 hv hf ⟨key, hkey, hks, by omega⟩
          · left
            refine ⟨u, u1, by rw [pu_up_ne _ _ hu]; exact u2, u3, ?_⟩
            rw [u4]
            refine pu_run_at rfl _ _ _ ?_
            rw [pu_run_need]
            intro hw2
            have huv := ayes u key hks u1 (by omega)
            exact hlk u w hu huv u2 hv hf ⟨key, hkey, hks, by omega⟩
        · right
          refine ⟨fun x x1 x2 => ?_, ?_⟩
          · have hx : x ≠ w := fun q => by rw [q, pu_up_self] at x2; cases x2
            rw [pu_up_ne _ _ hx] at x2
            exact u1 x x1 x2
          · rw [u2, pu_run_need _ (u1 w hd hf)]
      · intro t ht i hi
        show _ = pu_up (pu_ex op s (C s)).2.2.2 w _ t i
        by_cases hw : t = w
        · subst hw
          rw [pu_up_self]
          simp only [pu_note, hi, if_true]
          rw [← hno t hv hf i hi hs]
          exact a5 t ht i hi
        · rw [pu_up_ne _ _ hw]; exact a5 t ht i hi
    · intro hf k0 k1
      obtain ⟨d0, d1⟩ := ha k0 k1
      have d0 : pu_ds (C 3) w ≠ 0 := d0
      have d1 : pu_ds (C 3) w ≠ 1 := d1
      refine ⟨?_, ?_, ?_⟩
      · intro t ht
        have ht : pu_up (pu_ex op s (C s)).2.1 w true t = true := ht
        by_cases hw : t = w
        · rw [hw]; exact d0
        · rw [pu_up_ne _ _ hw] at ht
          exact a3 t ht
      · intro key hkey hks
        show (∃ u, pu_ds (C 3) u = 1 ∧ pu_up (pu_ex op s (C s)).2.1 w true u = false ∧ pu_need (op u) key = 2 ∧ (pu_sr op (C 3)).2.1 key = pu_run (pu_q s) (op u) (pu_ex op s (C s)).2.2.1 key) ∨ ((∀ u, pu_ds (C 3) u = 1 → pu_up (pu_ex op s (C s)).2.1 w true u = false → pu_need (op u) key ≠ 2) ∧ (pu_sr op (C 3)).2.1 key = (pu_ex op s (C s)).2.2.1 key)
        rcases a4 key hkey hks with ⟨u, u1, u2, u3, u4⟩ | ⟨u1, u2⟩
        · left
          have hu : u ≠ w := fun q => d1 (q ▸ u1)
          exact ⟨u, u1, by rw [pu_up_ne _ _ hu]; exact u2, u3, u4⟩
        · right
          refine ⟨fun x x1 x2 => ?_, u2⟩
          have hx : x ≠ w := fun q => d1 (q ▸ x1)
          rw [pu_up_ne _ _ hx] at x2
          exact u1 x x1 x2
      · exact a5
  obtain ⟨k3, k4, k5⟩ := key _ rfl
  refine ⟨?_, ?_, ?_, ?_, ?_⟩
  · intro s' hs'
    by_cases q : s' = s
    · subst q; rw [es]; exact hok
    · rw [eo s' q]; exact j1 s' hs'
  · intro t ht o ho
    rw [e3] at ht
    have := j2 t ht o ho
    by_cases q : o.2.1 % 3 = s
    · rw [q, es, pu_ex_snoc]
      rw [q] at this
      rw [pu_step_vo _ _ _ _ _ (by rw [this]; decide)]
      exact this
    · rw [eo _ q]; exact this
  · intro s' hs' t ht
    rw [e3]
    by_cases q : s' = s
    · subst q; rw [es] at ht; exact k3 t ht
    · rw [eo s' q] at ht; exact j3 s' hs' t ht
  · intro key hkey
    rw [e3]
    by_cases q : key % 3 = s
    · rw [q, es]; exact k4 key hkey q
    · rw [eo _ q]; exact j4 key hkey
  · intro t ht s' hs' i hi
    rw [e3] at ht ⊢
    by_cases q : s' = s
    · subst q; rw [es]; exact k5 t ht i hi
    · rw [eo s' q]; exact j5 t ht s' hs' i hi
/-- the decisions' group executes one more entry -/
theorem pu_J_dec {op : Nat → List pu_Op} (hop : ∀ t o, o ∈ op t → o.2.1 < 12) {C : Nat → List pu_En} (h : pu_J op C) {e : pu_En}
    (hc : e.1 = 1 → ∀ o, o ∈ op e.2 → (pu_ex op (o.2.1 % 3) (C (o.2.1 % 3))).1 e.2 = 1) (hk0 : e.1 ≠ 0) : pu_J op (pu_up C 3 (C 3 ++ [e])) := by
  obtain ⟨k, w⟩ := e
  have hk0 : k ≠ 0 := hk0
  have hc : k = 1 → ∀ o, o ∈ op w → (pu_ex op (o.2.1 % 3) (C (o.2.1 % 3))).1 w = 1 := hc
  have e3 : pu_up C 3 (C 3 ++ [(k, w)]) 3 = C 3 ++ [(k, w)] := pu_up_self _ _ _
  have eo : ∀ s', s' < 3 → pu_up C 3 (C 3 ++ [(k, w)]) s' = C s' := fun s' q => pu_up_ne _ _ (by omega)
  have em : ∀ x : Nat, pu_up C 3 (C 3 ++ [(k, w)]) (x % 3) = C (x % 3) := fun x => eo _ (Nat.mod_lt _ (by decide))
  by_cases hd : pu_ds (C 3) w = 0
  · have hds : pu_ds (C 3 ++ [(k, w)]) = pu_up (pu_ds (C 3)) w k := by rw [pu_ds_snoc]; exact if_pos hd
    have hsr : pu_sr op (C 3 ++ [(k, w)]) = (pu_up (pu_sr op (C 3)).1 w k, if k = 1 then pu_run pu_all (op w) (pu_sr op (C 3)).2.1 else (pu_sr op (C 3)).2.1, if k = 1 then pu_up (pu_sr op (C 3)).2.2 w (pu_rs pu_all (op w) (pu_sr op (C 3)).2.1) else (pu_sr op (C 3)).2.2) := by
      rw [pu_sr_snoc]
      exact if_pos (by rw [pu_sr_ds]; exact hd)
    obtain ⟨j1, j2, j3, j4, j5⟩ := h
    have hfi : ∀ s, s < 3 → (pu_ex op s (C s)).2.1 w = false := by
      intro s hs
      cases q : (pu_ex op s (C s)).2.1 w with
      | false => rfl
      | true => exact absurd hd (j3 s hs w q)
    have hne : ∀ u, pu_ds (C 3) u = 1 → u ≠ w := fun u hu q => by rw [q, hd] at hu; cases hu
    have hval : k = 1 → ∀ key, key < 12 → 0 < pu_need (op w) key → (∀ u, pu_ds (C 3) u = 1 → (pu_ex op (key % 3) (C (key % 3))).2.1 u = false → pu_need (op u) key ≠ 2) ∧ (pu_sr op (C 3)).2.1 key = (pu_ex op (key % 3) (C (key % 3))).2.2.1 key := by
      intro hk key hkey hn
      rcases j4 key hkey with ⟨u, u1, u2, u3, u4⟩ | q
      · exfalso
        have hu := hne u u1
        obtain ⟨o, ho, rfl⟩ := pu_need_ex hn
        have hwv := hc hk o ho
        obtain ⟨o2, ho2, h22⟩ := pu_need_ex (show 0 < pu_need (op u) o.2.1 by omega)
        have huv := j2 u u1 o2 ho2
        rw [h22] at huv
        exact pu_ex_lock op (o.2.1 % 3) (C (o.2.1 % 3)) u w hu huv u2 hwv (hfi _ (Nat.mod_lt _ (by decide))) ⟨o.2.1, hkey, rfl, by omega⟩
      · exact q
    refine ⟨?_, ?_, ?_, ?_, ?_⟩
    · intro s hs; rw [eo s hs]; exact j1 s hs
    · intro t ht o ho
      rw [e3, hds] at ht
      rw [em]
      by_cases q : t = w
      · subst q
        rw [pu_up_self] at ht
        exact hc ht o ho
      · rw [pu_up_ne _ _ q] at ht
        exact j2 t ht o ho
    · intro s hs t ht
      rw [eo s hs] at ht
      rw [e3, hds]
      by_cases q : t = w
      · subst q
        rw [pu_up_self]
        exact hk0
      · rw [pu_up_ne _ _ q]; exact j3 s hs t ht
    · intro key hkey
      rw [e3, hds, hsr, em]
      dsimp only
      by_cases hk : k = 1
      · rw [if_pos hk]
        by_cases hn : pu_need (op w) key = 2
        · left
          refine ⟨w, by rw [pu_up_self]; exact hk, hfi _ (Nat.mod_lt _ (by decide)), hn, ?_⟩
          refine pu_run_at ?_ _ _ _ (hval hk key hkey (by omega)).2
          simp [pu_all, pu_q]
        · rw [pu_run_need _ hn]
          rcases j4 key hkey with ⟨u, u1, u2, u3, u4⟩ | ⟨u1, u2⟩
          · left
            exact ⟨u, by rw [pu_up_ne _ _ (hne u u1)]; exact u1, u2, u3, u4⟩
          · right
            refine ⟨fun x x1 x2 => ?_, u2⟩
            by_cases q : x = w
            · rw [q]; exact hn
            · rw [pu_up_ne _ _ q] at x1
              exact u1 x x1 x2
      · rw [if_neg hk]
        rcases j4 key hkey with ⟨u, u1, u2, u3, u4⟩ | ⟨u1, u2⟩
        · left
          exact ⟨u, by rw [pu_up_ne _ _ (hne u u1)]; exact u1, u2, u3, u4⟩
        · right
          refine ⟨fun x x1 x2 => ?_, u2⟩
          by_cases q : x = w
          · exfalso
            rw [q, pu_up_self] at x1
            exact hk x1
          · rw [pu_up_ne _ _ q] at x1
            exact u1 x x1 x2
    · intro t ht s hs i hi
      rw [e3, hds] at ht
      rw [e3, hsr, eo s hs]
      dsimp only
      by_cases q : t = w
      · subst q
        rw [pu_up_self] at ht
        rw [if_pos ht, pu_up_self]
        cases hoi : (op t)[i]? with
        | none => rw [pu_sh, hoi] at hi; simp at hi; omega
        | some o =>
          have hi2 := hi
          rw [pu_sh, hoi] at hi2
          have hi2 : o.2.1 % 3 = s := hi2
          have hmem : o ∈ op t := List.mem_of_getElem? hoi
          have hv := hc ht o hmem
          rw [hi2] at hv
          rw [pu_ex_no op hop s (C s) (j1 s hs) t hv (hfi s hs) i hi hs]
          refine pu_rs_at (k := o.2.1) ?_ (op t) _ _ i o hoi rfl ?_
          · simp [pu_all, pu_q, hi2]
          · have := (hval ht o.2.1 (hop t o hmem) (pu_need_pos hmem rfl)).2
            rw [hi2] at this
            exact this
      · rw [pu_up_ne _ _ q] at ht
        split
        · rw [pu_up_ne _ _ q]; exact j5 t ht s hs i hi
        · exact j5 t ht s hs i hi
  · have hds : pu_ds (C 3 ++ [(k, w)]) = pu_ds (C 3) := by rw [pu_ds_snoc]; exact if_neg hd
    have hsr : pu_sr op (C 3 ++ [(k, w)]) = pu_sr op (C 3) := by
      rw [pu_sr_snoc]
      exact if_neg (by rw [pu_sr_ds]; exact hd)
    obtain ⟨j1, j2, j3, j4, j5⟩ := h
    refine ⟨?_, ?_, ?_, ?_, ?_⟩
    · intro s hs; rw [eo s hs]; exact j1 s hs
    · intro t ht o ho
      rw [e3, hds] at ht
      rw [em]
      exact j2 t ht o ho
    · intro s hs t ht
      rw [eo s hs] at ht
      rw [e3, hds]; exact j3 s hs t ht
    · intro key hkey
      rw [e3, hds, hsr, em]; exact j4 key hkey
    · intro t ht s hs i hi
      rw [e3, hds] at ht
      rw [e3, hsr, eo s hs]; exact j5 t ht s hs i hi
