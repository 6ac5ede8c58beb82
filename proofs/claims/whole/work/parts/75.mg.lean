/-! the reference's groups, seen in the numbers -/
theorem pu_cnt_one {up : Nat → Bool} (h : ¬ 2 ≤ pu_cnt up) {f i : Nat} (hf : f < 3) (hi : i < 3) (h1 : up f = true) (h2 : up i = true) : i = f := by
  unfold pu_cnt at h
  rcases pu_lt3 hf with rfl | rfl | rfl <;> rcases pu_lt3 hi with rfl | rfl | rfl <;> simp_all <;> omega
theorem ab_ld_0 {a : ab_S} {g : Nat} (h : pu_cnt (ab_up a g) = 0) : ab_ld a g = 3 := by
  unfold ab_ld
  rw [if_neg]
  intro q
  have hm : ab_top a g % 3 < 3 := Nat.mod_lt _ (by decide)
  revert q
  generalize ab_top a g % 3 = x at hm
  intro q
  unfold pu_cnt at h
  rcases pu_lt3 hm with rfl | rfl | rfl <;> rw [if_pos q] at h <;> omega
theorem ab_leader_c (a : ab_S) {g : Nat} (hg : g < 4) : (ab_ld a g = 3 ∧ Int32.ofInt (ab_leader a (nI g).toInt) = -1) ∨ (ab_ld a g < 3 ∧ ab_ld a g = ab_top a g % 3 ∧ ab_up a g (ab_ld a g) = true ∧ Int32.ofInt (ab_leader a (nI g).toInt) = nI (ab_ld a g)) := by
  have e : (nI g).toInt = (g : Int) := nI_toInt (by omega)
  rw [e]
  unfold ab_leader
  have e2 : ((g : Int)).toNat = g := rfl
  rw [e2]
  by_cases q : ab_up a g (ab_top a g % 3) = true
  · have e3 : ab_ld a g = ab_top a g % 3 := by unfold ab_ld; rw [if_pos q]
    have hm : ab_top a g % 3 < 3 := Nat.mod_lt _ (by decide)
    refine Or.inr ⟨by omega, e3, by rw [e3]; exact q, ?_⟩
    rw [if_pos ⟨by omega, by omega, by omega⟩]
    rfl
  · have e3 : ab_ld a g = 3 := by unfold ab_ld; rw [if_neg q]
    refine Or.inl ⟨e3, ?_⟩
    rw [if_neg (fun z => z.2.2 e3)]
    rfl
theorem ab_good_ex {a : ab_S} {g : Nat} (h : 2 ≤ pu_cnt (ab_up a g)) (h0 : ab_good a g 0 = false) (h1 : ab_good a g 1 = false) (h2 : ab_good a g 2 = false) : False := by
  unfold ab_good ab_top pu_top at h0 h1 h2
  unfold pu_cnt at h
  cases u0 : ab_up a g 0 <;> cases u1 : ab_up a g 1 <;> cases u2 : ab_up a g 2 <;> simp [u0, u1, u2] at h h0 h1 h2 <;> omega
def ab_sq (c : ab_S) (g f v i : Nat) : ab_S := if 2 ≤ pu_cnt (ab_up c g) then ab_sp c g (ab_lg c g f) v i else c
theorem ab_sq_up (c : ab_S) (g f v i : Nat) : ab_up (ab_sq c g f v i) = ab_up c := by
  unfold ab_sq
  split <;> rfl
theorem ab_sq_lgf {c : ab_S} {g f v i : Nat} (hf : f < 3) (hu : ab_up c g f = true) : ab_lg (ab_sq c g f v i) g f = ab_lg c g f := by
  unfold ab_sq
  split
  · exact ab_sp_f hf hu
  · rfl
theorem ab_sq_dn (c : ab_S) (g f v : Nat) {i : Nat} (hi : i < 3) : ab_dn (ab_sq c g f v i) g i = ab_dn c g i := by
  unfold ab_sq
  split
  · exact (ab_sp_vi c g (ab_lg c g f) v i (by omega)).2.2
  · rfl
theorem ab_sq_len {c : ab_S} {g f v i : Nat} (hg : g < 4) (hf : f < 3) (h : ∀ g r, g < 4 → r < 3 → (ab_lg c g r).length ≤ 60) : ∀ g' r', g' < 4 → r' < 3 → (ab_lg (ab_sq c g f v i) g' r').length ≤ 60 := by
  intro g' r' h1 h2
  unfold ab_sq
  split
  · show (pu_up (ab_lg c) g _ g' r').length ≤ 60
    by_cases q : g' = g
    · rw [q, pu_up_self]
      split
      · exact h g f hg hf
      · exact h g r' hg h2
    · rw [pu_up_ne _ _ q]; exact h g' r' h1 h2
  · exact h g' r' h1 h2
theorem ab_sq_skip {c : ab_S} {g f v i : Nat} (hu : ab_up c g i = false) : ab_sq c g f v i = ab_sq c g f v (i + 1) := by
  unfold ab_sq
  rw [← ab_sp_skip c g (ab_lg c g f) v i hu]
theorem ab_setvi_id (a : ab_S) (g r : Nat) : ab_setvi a g r (ab_vi a g r) = a := by
  unfold ab_setvi
  rw [pu_up_id, pu_up_id]
  rfl
theorem ab_sq_step {c : ab_S} {g f v i : Nat} (hf : f < 3) (hi : i < 3) (huf : ab_up c g f = true) (hu : ab_up c g i = true) (hv : 2 ≤ pu_cnt (ab_up c g) ∨ v = ab_vi c g f) : ab_setdn (ab_setvi (ab_setlg (ab_sq c g f v i) g i (ab_lg c g f)) g i v) g i (if 2 ≤ pu_cnt (ab_up c g) then (ab_lg c g f).length else ab_dn c g i) = ab_sq c g f v (i + 1) := by
  unfold ab_sq
  by_cases q : 2 ≤ pu_cnt (ab_up c g)
  · rw [if_pos q, if_pos q, if_pos q]
    exact ab_sp_step c g _ v i hi hu
  · rw [if_neg q, if_neg q, if_neg q]
    have e := pu_cnt_one q hf hi huf hu
    subst e
    rw [ab_setlg_id]
    rcases hv with hv | hv
    · exact absurd hv q
    · rw [hv, ab_setvi_id, ab_setdn_id]
theorem ab_sq_3 (c : ab_S) (g f v : Nat) : ab_sq c g f v 3 = if 2 ≤ pu_cnt (ab_up c g) then ab_spread c g (ab_lg c g f) v else c := by
  unfold ab_sq
  rw [ab_sp_all]
theorem mr_sq0 {σ : gx_M} {c : ab_S} (h : mr σ c) (g f v : Nat) : mr σ (ab_sq c g f v 0) := by
  unfold ab_sq
  split
  · obtain ⟨h1, h2, h3, h4⟩ := h
    refine ⟨h1, h2, ?_, h4⟩
    intro g' r' hg' hr'
    have z := h3 g' r' hg' hr'
    by_cases q : g' = g
    · subst q
      obtain ⟨e1, e2, e3⟩ := ab_sp_vi c g' (ab_lg c g' f) v 0 (r := r') (by omega)
      rw [e1, e2, e3]
      exact z
    · show _ ∧ _ = pu_up (ab_vi c) g _ g' r' ∧ _ = (pu_up (ab_lg c) g _ g' r').length ∧ _ = pu_up (ab_dn c) g _ g' r' ∧ ∀ i e, (pu_up (ab_lg c) g _ g' r')[i]? = some e → _
      rw [pu_up_ne _ _ q, pu_up_ne _ _ q, pu_up_ne _ _ q]
      exact z
  · exact h
theorem mr_put {τ υ : gx_M} {a : ab_S} {g i f v : Nat} {L : List pu_En} (h : mr τ a) (hg : g < 4) (hi : i < 3) (hf : f < 3) (hL : ab_lg a g f = L) (hw : ∀ g r, g < 4 → r < 3 → (ab_lg a g r).length ≤ 60) (hv : ∀ n, n ≠ 234 → υ n = gx_w τ 231 (3 * g + i) v n)
    (hl : ∀ x, υ 234 x = if 60 * (3 * g + i) ≤ x ∧ x < 60 * (3 * g + i) + L.length then τ 234 (60 * (3 * g + f) + (x - 60 * (3 * g + i))) else τ 234 x) (D : Nat) :
    mr (gx_w (gx_w υ 232 (3 * g + i) L.length) 233 (3 * g + i) D) (ab_setdn (ab_setvi (ab_setlg a g i L) g i v) g i D) := by
  obtain ⟨y1, y2, y3, y4, y5⟩ := h.2.2.1 g i hg hi
  obtain ⟨z1, z2, z3, z4, z5⟩ := h.2.2.1 g f hg hf
  have hL6 : L.length ≤ 60 := by rw [← hL]; exact hw g f hg hf
  have e1 : ∀ g' r', ab_lg (ab_setdn (ab_setvi (ab_setlg a g i L) g i v) g i D) g' r' = if g' = g ∧ r' = i then L else ab_lg a g' r' := fun g' r' => pu_up2 _ _ _ _ _ _
  have e2 : ∀ g' r', ab_vi (ab_setdn (ab_setvi (ab_setlg a g i L) g i v) g i D) g' r' = if g' = g ∧ r' = i then v else ab_vi a g' r' := fun g' r' => pu_up2 _ _ _ _ _ _
  have e3 : ∀ g' r', ab_dn (ab_setdn (ab_setvi (ab_setlg a g i L) g i v) g i D) g' r' = if g' = g ∧ r' = i then D else ab_dn a g' r' := fun g' r' => pu_up2 _ _ _ _ _ _
  refine mr_one h hg hi hw (fun n q => ?_) (fun n j q1 q2 => ?_) (fun j q => ?_) ?_ (fun g' r' _ _ q => ⟨rfl, by rw [e2, if_neg q], by rw [e1, if_neg q], by rw [e3, if_neg q]⟩) rfl rfl rfl rfl rfl rfl
  · rw [gx_w_row _ _ _ (by omega), gx_w_row _ _ _ (by omega), hv n (by omega), gx_w_row _ _ _ (by omega)]
  · rw [gx_w_at, if_neg (by omega), gx_w_at, if_neg (by omega), hv n q1, gx_w_at, if_neg (by omega)]
  · rw [gx_w_row _ _ _ (by decide), gx_w_row _ _ _ (by decide), hl, if_neg (by omega)]
  · rw [e1, e2, e3, if_pos ⟨rfl, rfl⟩, if_pos ⟨rfl, rfl⟩, if_pos ⟨rfl, rfl⟩, gx_w_self, gx_w_row _ _ _ (show (230 : Nat) ≠ 233 by decide), gx_w_row _ _ _ (show (230 : Nat) ≠ 232 by decide), hv 230 (by decide), gx_w_row _ _ _ (show (230 : Nat) ≠ 231 by decide), gx_w_row _ _ _ (show (231 : Nat) ≠ 233 by decide), gx_w_row _ _ _ (show (231 : Nat) ≠ 232 by decide), hv 231 (by decide), gx_w_self, gx_w_row _ _ _ (show (232 : Nat) ≠ 233 by decide), gx_w_self, gx_w_row _ _ _ (show (234 : Nat) ≠ 233 by decide), gx_w_row _ _ _ (show (234 : Nat) ≠ 232 by decide)]
    refine ⟨y1, rfl, rfl, rfl, fun x en hx => ?_⟩
    have hlt := (List.getElem?_eq_some_iff.mp hx).1
    rw [hl, if_pos ⟨by omega, by omega⟩, show 60 * (3 * g + i) + x - 60 * (3 * g + i) = x by omega]
    exact z5 x en (by rw [hL]; exact hx)
