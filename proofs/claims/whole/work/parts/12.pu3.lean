/-! pure part three: a group of three replicas keeps what was executed. -/
def pu_le (A B : List pu_En) : Prop := ∃ D, A ++ D = B
theorem pu_le_rfl (A : List pu_En) : pu_le A A := ⟨[], List.append_nil A⟩
theorem pu_le_trans {A B D : List pu_En} (h1 : pu_le A B) (h2 : pu_le B D) : pu_le A D := by
  obtain ⟨x, rfl⟩ := h1
  obtain ⟨y, rfl⟩ := h2
  exact ⟨x ++ y, by rw [List.append_assoc]⟩
theorem pu_le_app (A B : List pu_En) : pu_le A (A ++ B) := ⟨B, rfl⟩
theorem pu_le_len {A B : List pu_En} (h : pu_le A B) : A.length ≤ B.length := by
  obtain ⟨x, rfl⟩ := h
  simp
theorem pu_le_take {A B : List pu_En} (h : pu_le A B) : B.take A.length = A := by
  obtain ⟨x, rfl⟩ := h
  simp
theorem pu_le_take_le (A : List pu_En) (n : Nat) : pu_le (A.take n) A := ⟨A.drop n, List.take_append_drop n A⟩
/-- two that go on to one list: the shorter goes on to the longer -/
theorem pu_le_two {A B X : List pu_En} (h1 : pu_le A X) (h2 : pu_le B X) (h : A.length ≤ B.length) : pu_le A B := by
  have e1 := pu_le_take h1
  have e2 := pu_le_take h2
  refine ⟨B.drop A.length, ?_⟩
  have : B.take A.length = A := by
    rw [← e2, List.take_take, Nat.min_eq_left h]
    exact e1
  rw [← this]
  have hl : (B.take A.length).length = A.length := by rw [this]
  rw [hl]
  exact List.take_append_drop _ _
theorem pu_le_take_eq {A B : List pu_En} (h : pu_le A B) {n : Nat} (hn : n ≤ A.length) : B.take n = A.take n := by
  obtain ⟨x, rfl⟩ := h
  rw [List.take_append_of_le_length hn]
theorem pu_le_mem {A B : List pu_En} (h : pu_le A B) {e : pu_En} (he : e ∈ A) : e ∈ B := by
  obtain ⟨x, rfl⟩ := h
  exact List.mem_append_left _ he
/-- a group: M the greatest view, C what was executed -/
def pu_G (M : Nat) (vi : Nat → Nat) (lg : Nat → List pu_En) (dn : Nat → Nat) (C : List pu_En) : Prop :=
  (∀ r, r < 3 → vi r ≤ M) ∧ vi (M % 3) = M ∧ (∃ y, y < 3 ∧ y ≠ M % 3 ∧ vi y = M ∧ pu_le C (lg y)) ∧ pu_le C (lg (M % 3)) ∧ (∀ r, r < 3 → vi r = M → pu_le (lg r) (lg (M % 3))) ∧
  (∀ r, r < 3 → dn r ≤ (lg r).length ∧ pu_le ((lg r).take (dn r)) C) ∧ ∃ r, r < 3 ∧ (lg r).take (dn r) = C
theorem pu_G_nil : pu_G 0 (fun _ => 0) (fun _ => []) (fun _ => 0) [] := by
  refine ⟨fun r _ => Nat.le_refl 0, rfl, ⟨1, by decide, by decide, rfl, pu_le_rfl _⟩, pu_le_rfl _, fun r _ _ => pu_le_rfl _, fun r _ => ⟨Nat.le_refl 0, pu_le_rfl _⟩, 0, by decide, rfl⟩
def pu_cnt (up : Nat → Bool) : Nat := (if up 0 = true then 1 else 0) + (if up 1 = true then 1 else 0) + (if up 2 = true then 1 else 0)
def pu_top (up : Nat → Bool) (vi : Nat → Nat) : Nat := max (max (if up 0 = true then vi 0 else 0) (if up 1 = true then vi 1 else 0)) (if up 2 = true then vi 2 else 0)
theorem pu_lt3 {r : Nat} (h : r < 3) : r = 0 ∨ r = 1 ∨ r = 2 := by omega
theorem pu_top_le {up : Nat → Bool} {vi : Nat → Nat} {r : Nat} (hr : r < 3) (hu : up r = true) : vi r ≤ pu_top up vi := by
  unfold pu_top
  rcases pu_lt3 hr with rfl | rfl | rfl <;> rw [hu] <;> simp <;> omega
theorem pu_top_of {up : Nat → Bool} {vi : Nat → Nat} {M : Nat} (h : ∀ r, r < 3 → vi r ≤ M) : pu_top up vi ≤ M := by
  unfold pu_top
  have h0 := h 0 (by decide)
  have h1 := h 1 (by decide)
  have h2 := h 2 (by decide)
  split <;> split <;> split <;> omega
/-- of two replicas one is up, if two of three are -/
theorem pu_two {up : Nat → Bool} (h : 2 ≤ pu_cnt up) {x y : Nat} (hx : x < 3) (hy : y < 3) (hxy : y ≠ x) : up x = true ∨ up y = true := by
  unfold pu_cnt at h
  cases h0 : up 0 <;> cases h1 : up 1 <;> cases h2 : up 2 <;> simp [h0, h1, h2] at h <;>
    (rcases pu_lt3 hx with rfl | rfl | rfl <;> rcases pu_lt3 hy with rfl | rfl | rfl <;> simp_all)
theorem pu_other {up : Nat → Bool} (h : 2 ≤ pu_cnt up) {x : Nat} (hx : x < 3) : ∃ y, y < 3 ∧ y ≠ x ∧ up y = true := by
  unfold pu_cnt at h
  cases h0 : up 0 <;> cases h1 : up 1 <;> cases h2 : up 2 <;> simp [h0, h1, h2] at h <;>
    (rcases pu_lt3 hx with rfl | rfl | rfl <;> first | exact ⟨0, by decide, by decide, h0⟩ | exact ⟨1, by decide, by decide, h1⟩ | exact ⟨2, by decide, by decide, h2⟩)
theorem pu_G_top {M : Nat} {vi : Nat → Nat} {lg : Nat → List pu_En} {dn : Nat → Nat} {C : List pu_En} (h : pu_G M vi lg dn C) {up : Nat → Bool} (hc : 2 ≤ pu_cnt up) : pu_top up vi = M := by
  obtain ⟨g1, g2, ⟨y, y1, y2, y3, -⟩, -⟩ := h
  have a := pu_top_of (up := up) g1
  have hm : M % 3 < 3 := Nat.mod_lt _ (by decide)
  rcases pu_two hc hm y1 y2 with q | q
  · have := pu_top_le (vi := vi) hm q
    omega
  · have := pu_top_le (vi := vi) y1 q
    omega
/-- those that are up take the list L and the view v, and execute it -/
theorem pu_G_spread {M : Nat} {vi : Nat → Nat} {lg : Nat → List pu_En} {dn : Nat → Nat} {C : List pu_En} (h : pu_G M vi lg dn C) {up : Nat → Bool} (hc : 2 ≤ pu_cnt up) {L : List pu_En} {v : Nat}
    (hL : pu_le C L) (hv : up (v % 3) = true) (hq : M < v ∨ (M = v ∧ ∀ r, r < 3 → up r = false → vi r = M → pu_le (lg r) L)) :
    pu_G v (fun r => if up r = true then v else vi r) (fun r => if up r = true then L else lg r) (fun r => if up r = true then L.length else dn r) L := by
  obtain ⟨g1, g2, ⟨y, y1, y2, y3, y4⟩, g4, g5, g6, g7⟩ := h
  have hm : v % 3 < 3 := Nat.mod_lt _ (by decide)
  refine ⟨?_, ?_, ?_, ?_, ?_, ?_, ?_⟩
  · intro r hr
    dsimp only
    have := g1 r hr
    split <;> omega
  · dsimp only; rw [if_pos hv]
  · obtain ⟨z, z1, z2, z3⟩ := pu_other hc hm
    refine ⟨z, z1, z2, ?_, ?_⟩
    · dsimp only; rw [if_pos z3]
    · dsimp only; rw [if_pos z3]; exact pu_le_rfl _
  · dsimp only; rw [if_pos hv]; exact pu_le_rfl _
  · intro r hr
    dsimp only
    rw [if_pos hv]
    by_cases hu : up r = true
    · rw [if_pos hu, if_pos hu]; intro _; exact pu_le_rfl _
    · rw [if_neg hu, if_neg hu]
      intro hvr
      have := g1 r hr
      rcases hq with q | ⟨q1, q2⟩
      · omega
      · exact q2 r hr (by simpa using hu) (by omega)
  · intro r hr
    dsimp only
    by_cases hu : up r = true
    · rw [if_pos hu, if_pos hu]
      exact ⟨Nat.le_refl _, by rw [List.take_length]; exact pu_le_rfl _⟩
    · rw [if_neg hu, if_neg hu]
      exact ⟨(g6 r hr).1, pu_le_trans (g6 r hr).2 hL⟩
  · refine ⟨v % 3, hm, ?_⟩
    dsimp only
    rw [if_pos hv, if_pos hv, List.take_length]
/-- one that is alone appends -/
theorem pu_G_alone {M : Nat} {vi : Nat → Nat} {lg : Nat → List pu_En} {dn : Nat → Nat} {C : List pu_En} (h : pu_G M vi lg dn C) {f : Nat} (hf : f < 3) (e : pu_En) (hq : f = M % 3 ∨ vi f ≠ M) : pu_G M vi (pu_up lg f (lg f ++ [e])) dn C := by
  obtain ⟨g1, g2, ⟨y, y1, y2, y3, y4⟩, g4, g5, g6, ⟨z, z1, z2⟩⟩ := h
  have hup : ∀ r, pu_le (lg r) (pu_up lg f (lg f ++ [e]) r) := by
    intro r
    by_cases q : r = f
    · subst q; rw [pu_up_self]; exact pu_le_app _ _
    · rw [pu_up_ne _ _ q]; exact pu_le_rfl _
  have htk : ∀ r, r < 3 → (pu_up lg f (lg f ++ [e]) r).take (dn r) = (lg r).take (dn r) := fun r hr => pu_le_take_eq (hup r) (g6 r hr).1
  refine ⟨g1, g2, ⟨y, y1, y2, y3, pu_le_trans y4 (hup y)⟩, pu_le_trans g4 (hup _), ?_, ?_, ⟨z, z1, by rw [htk z z1]; exact z2⟩⟩
  · intro r hr hv
    by_cases q : r = f
    · rcases hq with q2 | q2
      · rw [q, q2]; exact pu_le_rfl _
      · rw [q] at hv; exact absurd hv q2
    · rw [pu_up_ne _ _ q]
      exact pu_le_trans (g5 r hr hv) (hup _)
  · intro r hr
    rw [htk r hr]
    exact ⟨Nat.le_trans (g6 r hr).1 (pu_le_len (hup r)), (g6 r hr).2⟩
/-- the best log of those that are up holds what was executed -/
theorem pu_G_best {M : Nat} {vi : Nat → Nat} {lg : Nat → List pu_En} {dn : Nat → Nat} {C : List pu_En} (h : pu_G M vi lg dn C) {up : Nat → Bool} (hc : 2 ≤ pu_cnt up) {b : Nat} (hb : b < 3) (hbv : vi b = M)
    (hbest : ∀ r, r < 3 → up r = true → vi r = M → (lg r).length ≤ (lg b).length) : pu_le C (lg b) := by
  obtain ⟨g1, g2, ⟨y, y1, y2, y3, y4⟩, g4, g5, -⟩ := h
  have hm : M % 3 < 3 := Nat.mod_lt _ (by decide)
  rcases pu_two hc hm y1 y2 with q | q
  · have hl := hbest _ hm q g2
    exact pu_le_trans g4 (pu_le_two (pu_le_rfl _) (g5 b hb hbv) hl)
  · have hl := hbest _ y1 q y3
    exact pu_le_trans y4 (pu_le_two (g5 y y1 y3) (g5 b hb hbv) hl)
/-- what a replica has executed stands in C, and an exchanged log that holds C holds it -/
theorem pu_G_exec {M : Nat} {vi : Nat → Nat} {lg : Nat → List pu_En} {dn : Nat → Nat} {C : List pu_En} (h : pu_G M vi lg dn C) {r : Nat} (hr : r < 3) {L : List pu_En} (hL : pu_le C L) : L.take (dn r) = (lg r).take (dn r) ∧ dn r ≤ L.length := by
  obtain ⟨-, -, -, -, -, g6, -⟩ := h
  obtain ⟨h1, h2⟩ := g6 r hr
  have h3 := pu_le_trans h2 hL
  have h4 := pu_le_take h3
  have h5 : ((lg r).take (dn r)).length = dn r := by rw [List.length_take]; omega
  rw [h5] at h4
  exact ⟨h4, by have := pu_le_len h3; omega⟩
/-- the leader, where two or three are up, is the replica of the greatest view -/
theorem pu_G_leads {M : Nat} {vi : Nat → Nat} {lg : Nat → List pu_En} {dn : Nat → Nat} {C : List pu_En} (h : pu_G M vi lg dn C) {up : Nat → Bool} (hc : pu_cnt up < 2) (hu : up (pu_top up vi % 3) = true) : pu_top up vi % 3 = M % 3 ∨ vi (pu_top up vi % 3) ≠ M := by
  obtain ⟨g1, -⟩ := h
  by_cases q : vi (pu_top up vi % 3) = M
  · left
    have hm : pu_top up vi % 3 < 3 := Nat.mod_lt _ (by decide)
    have a := pu_top_le (vi := vi) hm hu
    have b := pu_top_of (up := up) g1
    have : pu_top up vi = M := by omega
    rw [this]
  · exact Or.inr q
