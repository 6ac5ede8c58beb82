/-! bounds and small equalities for a group's walk -/
theorem pu_ds_le {L : List pu_En} (h : ∀ e, e ∈ L → e.1 ≤ 2) (t : Nat) : pu_ds L t ≤ 2 := by
  by_cases q : pu_ds L t = 0
  · omega
  · exact h _ (pu_ds_in t L q)
theorem ab_ds_le {a : ab_S} (hw : ab_W a) {ri : Nat} (h1 : ri < 3) (t dd : Nat) : ab_ds (ab_setdn a 3 ri dd) ri t ≤ 2 := by
  unfold ab_ds
  rw [ab_setdn_dn]
  exact pu_ds_le (fun e he => ((hw.2.2 3 ri (by decide) h1).2.2.2 e (List.mem_of_mem_take he)).2.2) t
theorem ab_W_mid {a : ab_S} (hw : ab_W a) {g i v : Nat} {L : List pu_En} (hi : i < 3) (hL : L.length ≤ 60) (hLe : ∀ e, e ∈ L → 1 ≤ e.2 ∧ e.2 ≤ 20 ∧ e.1 ≤ 2) (hv : v < 2 ^ 30) (hd : ab_dn a g i ≤ L.length) :
    ab_W (ab_setvi (ab_setlg (ab_sp a g L v i) g i L) g i v) := by
  obtain ⟨h1, h2, h3⟩ := hw
  refine ⟨h1, h2, fun g' r' hg hr => ?_⟩
  obtain ⟨b1, b2, b3, b4⟩ := h3 g' r' hg hr
  have elg : ab_lg (ab_setvi (ab_setlg (ab_sp a g L v i) g i L) g i v) g' r' = if g' = g ∧ r' = i then L else ab_lg (ab_sp a g L v i) g' r' := pu_up2 _ _ _ _ _ _
  have evi : ab_vi (ab_setvi (ab_setlg (ab_sp a g L v i) g i L) g i v) g' r' = if g' = g ∧ r' = i then v else ab_vi (ab_sp a g L v i) g' r' := pu_up2 _ _ _ _ _ _
  have edn : ab_dn (ab_setvi (ab_setlg (ab_sp a g L v i) g i L) g i v) g' r' = ab_dn (ab_sp a g L v i) g' r' := rfl
  rw [elg, evi, edn]
  by_cases q : g' = g ∧ r' = i
  · obtain ⟨rfl, rfl⟩ := q
    rw [if_pos ⟨rfl, rfl⟩, if_pos ⟨rfl, rfl⟩, (ab_sp_vi a g' L v r' (r := r') (by omega)).2.2]
    exact ⟨hL, hv, hd, hLe⟩
  · rw [if_neg q, if_neg q]
    by_cases z : g' = g
    · subst z
      by_cases y : (r' < i ∨ 3 ≤ r') ∧ ab_up a g' r' = true
      · obtain ⟨s1, s2, s3⟩ := ab_sp_in a g' L v i (r := r') (by omega) y.2
        rw [s1, s2, s3]
        exact ⟨hL, hv, Nat.le_refl _, hLe⟩
      · have s1 : ab_lg (ab_sp a g' L v i) g' r' = ab_lg a g' r' := by
          show pu_up (ab_lg a) g' _ g' r' = _
          rw [pu_up_self, if_neg y]
        have s2 : ab_vi (ab_sp a g' L v i) g' r' = ab_vi a g' r' := by
          show pu_up (ab_vi a) g' _ g' r' = _
          rw [pu_up_self, if_neg y]
        have s3 : ab_dn (ab_sp a g' L v i) g' r' = ab_dn a g' r' := by
          show pu_up (ab_dn a) g' _ g' r' = _
          rw [pu_up_self, if_neg y]
        rw [s1, s2, s3]
        exact ⟨b1, b2, b3, b4⟩
    · have s1 : ab_lg (ab_sp a g L v i) g' r' = ab_lg a g' r' := by
        show pu_up (ab_lg a) g _ g' r' = _
        rw [pu_up_ne _ _ z]
      have s2 : ab_vi (ab_sp a g L v i) g' r' = ab_vi a g' r' := by
        show pu_up (ab_vi a) g _ g' r' = _
        rw [pu_up_ne _ _ z]
      have s3 : ab_dn (ab_sp a g L v i) g' r' = ab_dn a g' r' := by
        show pu_up (ab_dn a) g _ g' r' = _
        rw [pu_up_ne _ _ z]
      rw [s1, s2, s3]
      exact ⟨b1, b2, b3, b4⟩
theorem ab_sp_f {a : ab_S} {g f v i : Nat} (hf : f < 3) (hu : ab_up a g f = true) : ab_lg (ab_sp a g (ab_lg a g f) v i) g f = ab_lg a g f := by
  show pu_up (ab_lg a) g _ g f = _
  rw [pu_up_self]
  split <;> rfl
theorem ab_sp_0 (a : ab_S) (g : Nat) (L : List pu_En) (v : Nat) {σ : gx_M} (h : xr σ a) : xr σ (ab_sp a g L v 0) := by
  have e : ∀ g' r', r' < 3 → ab_vi (ab_sp a g L v 0) g' r' = ab_vi a g' r' ∧ ab_lg (ab_sp a g L v 0) g' r' = ab_lg a g' r' ∧ ab_dn (ab_sp a g L v 0) g' r' = ab_dn a g' r' := by
    intro g' r' hr
    by_cases z : g' = g
    · subst z; exact ab_sp_vi a g' L v 0 (by omega)
    · refine ⟨?_, ?_, ?_⟩
      · show pu_up (ab_vi a) g _ g' r' = _
        rw [pu_up_ne _ _ z]
      · show pu_up (ab_lg a) g _ g' r' = _
        rw [pu_up_ne _ _ z]
      · show pu_up (ab_dn a) g _ g' r' = _
        rw [pu_up_ne _ _ z]
  obtain ⟨x1, x2, x3, x4, x5, x6⟩ := h
  refine ⟨x1, x2, ?_, ?_, ?_, x6⟩
  · intro g' r' hg hr
    obtain ⟨e1, e2, e3⟩ := e g' r' hr
    rw [e1, e2, e3]
    exact x3 g' r' hg hr
  · intro s r hs hr
    have : ab_ex (ab_sp a g L v 0) s r = ab_ex a s r := by
      obtain ⟨e1, e2, e3⟩ := e s r hr
      unfold ab_ex
      rw [e2, e3]
      rfl
    rw [this]
    exact x4 s r hs hr
  · intro r hr t ht
    have : ab_ds (ab_sp a g L v 0) r = ab_ds a r := by
      obtain ⟨e1, e2, e3⟩ := e 3 r hr
      unfold ab_ds
      rw [e2, e3]
    rw [this]
    exact x5 r hr t ht
theorem ab_spread_setlg (a : ab_S) {g f : Nat} (hu : ab_up a g f = true) (L' L : List pu_En) (v : Nat) : ab_spread (ab_setlg a g f L') g L v = ab_spread a g L v := by
  show ab_mk (ab_n a) (ab_op a) (ab_cl a) (ab_up a) (pu_up (ab_vi a) g _) (pu_up (pu_up (ab_lg a) g (pu_up (ab_lg a g) f L')) g (fun r => if ab_up a g r = true then L else pu_up (ab_lg a) g (pu_up (ab_lg a g) f L') g r)) (pu_up (ab_dn a) g _) (ab_ha a) (ab_kv a) (ab_kd a) (ab_rs a) = _
  have : pu_up (pu_up (ab_lg a) g (pu_up (ab_lg a g) f L')) g (fun r => if ab_up a g r = true then L else pu_up (ab_lg a) g (pu_up (ab_lg a g) f L') g r) = pu_up (ab_lg a) g (fun r => if ab_up a g r = true then L else ab_lg a g r) := by
    rw [pu_up_up]
    congr 1
    funext r
    by_cases q : ab_up a g r = true
    · rw [if_pos q, if_pos q]
    · rw [if_neg q, if_neg q, pu_up_self, pu_up_ne _ _ (fun z => q (by rw [z]; exact hu))]
  rw [this]
  rfl
theorem ab_W_app {a : ab_S} (hw : ab_W a) {g f : Nat} {en : pu_En} (hl : (ab_lg a g f).length < 60) (he : 1 ≤ en.2 ∧ en.2 ≤ 20 ∧ en.1 ≤ 2) : ab_W (ab_setlg a g f (ab_lg a g f ++ [en])) := by
  obtain ⟨h1, h2, h3⟩ := hw
  refine ⟨h1, h2, fun g' r' hg hr => ?_⟩
  obtain ⟨b1, b2, b3, b4⟩ := h3 g' r' hg hr
  have elg : ab_lg (ab_setlg a g f (ab_lg a g f ++ [en])) g' r' = if g' = g ∧ r' = f then ab_lg a g f ++ [en] else ab_lg a g' r' := pu_up2 _ _ _ _ _ _
  have edn : ab_dn (ab_setlg a g f (ab_lg a g f ++ [en])) g' r' = ab_dn a g' r' := rfl
  have evi : ab_vi (ab_setlg a g f (ab_lg a g f ++ [en])) g' r' = ab_vi a g' r' := rfl
  rw [elg, edn, evi]
  by_cases q : g' = g ∧ r' = f
  · obtain ⟨rfl, rfl⟩ := q
    rw [if_pos ⟨rfl, rfl⟩, List.length_append]
    refine ⟨by simp; omega, b2, by simp; omega, fun e he' => ?_⟩
    rcases List.mem_append.mp he' with z | z
    · exact b4 e z
    · have : e = en := by simpa using z
      rw [this]; exact he
  · rw [if_neg q]; exact ⟨b1, b2, b3, b4⟩
