/-! pure part six: each step of the abstract system keeps what holds of it. -/
theorem ab_ld_spec {a : ab_S} {g : Nat} (h : ab_ld a g ≠ 3) : ab_ld a g = ab_top a g % 3 ∧ ab_up a g (ab_top a g % 3) = true := by
  unfold ab_ld at h ⊢
  split at h
  · rename_i q
    rw [if_pos q]
    exact ⟨rfl, q⟩
  · exact absurd rfl h
theorem ab_ld_lt {a : ab_S} {g : Nat} (h : ab_ld a g ≠ 3) : ab_ld a g < 3 := by
  rw [(ab_ld_spec h).1]
  exact Nat.mod_lt _ (by decide)
theorem ab_I_new : ab_I 0 ab_new := by
  refine ⟨⟨_, _, pu_I_nil (fun _ => []) (fun _ => rfl) _ _⟩, by decide, ?_, ?_, ?_⟩
  · intro t
    refine ⟨by show ([] : List pu_Op).length ≤ 4; decide, ?_⟩
    intro o ho
    have ho : o ∈ ([] : List pu_Op) := ho
    cases ho
  · intro g r _ _
    show ([] : List pu_En).length ≤ 60
    decide
  · intro g r _ _
    exact Nat.le_refl 0
theorem ab_I_mono {B B' : Nat} {a : ab_S} (h : ab_I B a) (hB : B ≤ B') : ab_I B' a := by
  obtain ⟨h1, h2, h3, h4, h5⟩ := h
  exact ⟨h1, h2, h3, h4, fun g r hg hr => Nat.le_trans (h5 g r hg hr) hB⟩
theorem ab_I_open {B : Nat} {a : ab_S} (h : ab_I B a) : ab_I B (ab_open a).2 := by
  obtain ⟨⟨M, C, h1⟩, h2, h3, h4, h5⟩ := h
  unfold ab_open
  split
  · exact ⟨⟨M, C, h1⟩, h2, h3, h4, h5⟩
  · refine ⟨⟨M, C, pu_I_more h1 (Nat.le_succ _) (fun t q => q)⟩, ?_, h3, h4, h5⟩
    show ab_n a + 1 ≤ 20
    omega
theorem ab_I_close {B : Nat} {a : ab_S} (h : ab_I B a) (t : Nat) : ab_I B (ab_close a t) := by
  obtain ⟨⟨M, C, h1⟩, h2, h3, h4, h5⟩ := h
  refine ⟨⟨M, C, pu_I_more h1 (Nat.le_refl _) (fun u q => ?_)⟩, h2, h3, h4, h5⟩
  show pu_up (ab_cl a) t true u = true
  by_cases z : u = t
  · rw [z, pu_up_self]
  · rw [pu_up_ne _ _ z]; exact q
theorem ab_I_setup {B : Nat} {a : ab_S} (h : ab_I B a) (g r : Nat) (b : Bool) : ab_I B (ab_setup a g r b) := h
theorem ab_I_setha {B : Nat} {a : ab_S} (h : ab_I B a) (b : Bool) : ab_I B (ab_setha a b) := h
theorem ab_I_forget {B : Nat} {a : ab_S} (h : ab_I B a) : ab_I B (ab_forget a) := by
  obtain ⟨⟨M, C, h1⟩, h2, h3, h4, h5⟩ := h
  exact ⟨⟨M, C, pu_I_forget h1⟩, h2, h3, h4, h5⟩
theorem ab_I_setkd {B : Nat} {a : ab_S} (h : ab_I B a) {r t : Nat} (hr : r < 3) : ab_I B (ab_setkd a t (ab_ds a r t)) := by
  obtain ⟨⟨M, C, h1⟩, h2, h3, h4, h5⟩ := h
  exact ⟨⟨M, C, pu_I_decision h1 hr rfl⟩, h2, h3, h4, h5⟩
theorem ab_I_learn {B : Nat} {a : ab_S} (h : ab_I B a) {s r t : Nat} (hs : s < 3) (hr : r < 3) (hc : ab_cl a t = true) : ab_I B (ab_learn a t s r) := by
  obtain ⟨⟨M, C, h1⟩, h2, h3, h4, h5⟩ := h
  refine ⟨⟨M, C, pu_I_vote h1 hs hr hc rfl (rs' := pu_up (ab_rs a) t (fun i => if pu_sh (ab_op a t) i = s then (ab_ex a s r).2.2.2 t i else ab_rs a t i)) ?_ ?_ ?_⟩, h2, h3, h4, h5⟩
  · intro i hi
    rw [pu_up_self, if_pos hi]
    rfl
  · intro i hi
    rw [pu_up_self, if_neg hi]
  · intro u i hu
    rw [pu_up_ne _ _ hu]
theorem ab_I_setop {B : Nat} {a : ab_S} (h : ab_I B a) {t : Nat} (hc : ab_cl a t = false) (hl : (ab_op a t).length < 4) {o : pu_Op} (ho : o.2.1 < 12) (ho2 : o.1 < 3) : ab_I B (ab_setop a t (ab_op a t ++ [o])) := by
  obtain ⟨⟨M, C, h1⟩, h2, h3, h4, h5⟩ := h
  refine ⟨⟨M, C, pu_I_touch h1 hc ho⟩, h2, ?_, h4, h5⟩
  intro u
  show (pu_up (ab_op a) t (ab_op a t ++ [o]) u).length ≤ 4 ∧ ∀ x, x ∈ pu_up (ab_op a) t (ab_op a t ++ [o]) u → x.1 < 3
  by_cases z : u = t
  · rw [z, pu_up_self]
    refine ⟨by rw [List.length_append]; simp; omega, ?_⟩
    intro x hx
    rcases List.mem_append.mp hx with y | y
    · exact (h3 t).2 x y
    · have : x = o := by simpa using y
      rw [this]; exact ho2
  · rw [pu_up_ne _ _ z]; exact h3 u
/-- to log, in a shard -/
theorem ab_I_logS {B : Nat} {a : ab_S} (h : ab_I B a) {s : Nat} (hs : s < 3) {e : pu_En} (he : ab_cl a e.2 = true ∧ 1 ≤ e.2 ∧ e.2 ≤ ab_n a ∧ e.1 ≤ 2) (hk : e.1 ≠ 0 → ab_kd a e.2 = e.1) (ht : ab_tc a e.2 s = true) : ab_I B (ab_log a s e).2 := by
  have h0 := h
  obtain ⟨⟨M, C, h1⟩, h2, h3, h4, h5⟩ := h
  have hI := h1
  obtain ⟨i1, i2, i3, i4, i5, i6, i7, i8, i9, i10, i11⟩ := h1
  have hG := i1 s (by omega)
  have kc : e.1 = 1 → pu_ds (C 3) e.2 = 1 ∧ (pu_ex (ab_op a) s (C s)).1 e.2 = 1 := by
    intro q
    have hd : ab_kd a e.2 = 1 := by rw [hk (by omega)]; exact q
    have hds : pu_ds (C 3) e.2 = 1 := by rw [i5 e.2 (by rw [hd]; decide)]; exact hd
    refine ⟨hds, ?_⟩
    unfold ab_tc at ht
    rw [List.any_eq_true] at ht
    obtain ⟨o, ho, hos⟩ := ht
    have hos : o.2.1 % 3 = s := by simpa using hos
    have := i2.2.1 e.2 hds o ho
    rw [hos] at this
    exact this
  have ka : e.1 = 2 → pu_ds (C 3) e.2 = 2 := by
    intro q
    have hd : ab_kd a e.2 = 2 := by rw [hk (by omega)]; exact q
    rw [i5 e.2 (by rw [hd]; decide)]; exact hd
  unfold ab_log
  by_cases c1 : ab_ld a s = 3
  · rw [if_pos c1]; exact h0
  rw [if_neg c1]
  by_cases c2 : 60 ≤ (ab_lg a s (ab_ld a s)).length
  · rw [if_pos c2]; exact h0
  rw [if_neg c2]
  obtain ⟨l1, l2⟩ := ab_ld_spec c1
  have l3 := ab_ld_lt c1
  by_cases c3 : pu_cnt (ab_up a s) < 2
  · rw [if_pos c3]
    have hq : ab_ld a s = M s % 3 ∨ ab_vi a s (ab_ld a s) ≠ M s := by
      have := pu_G_leads hG c3 l2
      rw [l1]
      exact this
    refine ⟨⟨M, C, pu_I_aloneS hI hs l3 hq he kc ka⟩, h2, h3, ?_, h5⟩
    intro g r hg hr
    show (pu_up (ab_lg a) s (pu_up (ab_lg a s) (ab_ld a s) (ab_lg a s (ab_ld a s) ++ [e])) g r).length ≤ 60
    by_cases z : g = s
    · rw [z, pu_up_self]
      by_cases y : r = ab_ld a s
      · rw [y, pu_up_self, List.length_append]
        simp
        omega
      · rw [pu_up_ne _ _ y]; exact h4 s r (by omega) hr
    · rw [pu_up_ne _ _ z]; exact h4 g r hg hr
  · rw [if_neg c3]
    have c3 : 2 ≤ pu_cnt (ab_up a s) := by omega
    have hM : ab_top a s = M s := pu_G_top hG c3
    have lM : ab_ld a s = M s % 3 := by rw [l1, hM]
    obtain ⟨g1, g2, g3, g4, g5, g6, g7⟩ := hG
    have hv : ab_vi a s (ab_ld a s) = M s := by rw [lM]; exact g2
    rw [hv, lM]
    have hup : ab_up a s (M s % 3) = true := by rw [← hM]; exact l2
    have hex : pu_ok (ab_op a) s (ab_lg a s (M s % 3) ++ [e]) := by
      refine pu_ok_snoc (i9 s hs) (fun q => Or.inr ?_)
      obtain ⟨D, hD⟩ := g4
      have := (kc q).2
      rw [← hD, pu_ex_vo _ _ _ _ (by rw [this]; decide)]
      exact this
    refine ⟨⟨pu_up M s (M s), pu_up C s (ab_lg a s (M s % 3) ++ [e]), pu_I_spreadS hI hs c3 (pu_le_trans g4 (pu_le_app _ _)) hup (Or.inr ⟨rfl, fun r hr _ hvr => pu_le_trans (g5 r hr hvr) (pu_le_app _ _)⟩) ?_ hex⟩, h2, h3, ?_, ?_⟩
    · intro x hx
      rcases List.mem_append.mp hx with y | y
      · obtain ⟨a1, a2, a3, a4, -⟩ := i4 s (by omega) (M s % 3) (by rw [← lM]; exact l3) x y
        refine ⟨a1, a2, a3, a4, ?_, ?_⟩
        · intro q
          obtain ⟨k, w⟩ := x
          have q : k = 1 := q
          subst q
          exact (i8 s hs (M s % 3) (by rw [← lM]; exact l3) w).1 y
        · intro q
          obtain ⟨k, w⟩ := x
          have q : k = 2 := q
          subst q
          exact (i8 s hs (M s % 3) (by rw [← lM]; exact l3) w).2 y
      · have : x = e := by simpa using y
        rw [this]
        exact ⟨he.1, he.2.1, he.2.2.1, he.2.2.2, fun q => (kc q).1, ka⟩
    · intro g r hg hr
      show (pu_up (ab_lg a) s (fun r => if ab_up a s r = true then ab_lg a s (M s % 3) ++ [e] else ab_lg a s r) g r).length ≤ 60
      by_cases z : g = s
      · rw [z, pu_up_self]
        try dsimp only
        split
        · rw [List.length_append]
          rw [lM] at c2
          simp
          omega
        · exact h4 s r (by omega) hr
      · rw [pu_up_ne _ _ z]; exact h4 g r hg hr
    · intro g r hg hr
      show pu_up (ab_vi a) s (fun r => if ab_up a s r = true then M s else ab_vi a s r) g r ≤ B
      by_cases z : g = s
      · rw [z, pu_up_self]
        try dsimp only
        split
        · rw [← hv]; exact h5 s _ (by omega) l3
        · exact h5 s r (by omega) hr
      · rw [pu_up_ne _ _ z]; exact h5 g r hg hr
/-- to log, in the decisions' group -/
theorem ab_I_logD {B : Nat} {a : ab_S} (h : ab_I B a) {e : pu_En} (he : ab_cl a e.2 = true ∧ 1 ≤ e.2 ∧ e.2 ≤ ab_n a ∧ e.1 ≤ 2 ∧ e.1 ≠ 0) (hk : e.1 = 1 → ∀ s, s < 3 → ab_tc a e.2 s = true → ab_kv a e.2 s = 1) : ab_I B (ab_log a 3 e).2 := by
  have h0 := h
  obtain ⟨⟨M, C, h1⟩, h2, h3, h4, h5⟩ := h
  have hI := h1
  obtain ⟨i1, i2, i3, i4, i5, i6, i7, i8, i9, i10, i11⟩ := h1
  have hG := i1 3 (by decide)
  have kc : e.1 = 1 → ∀ o, o ∈ ab_op a e.2 → (pu_ex (ab_op a) (o.2.1 % 3) (C (o.2.1 % 3))).1 e.2 = 1 := by
    intro q o ho
    have hm : o.2.1 % 3 < 3 := Nat.mod_lt _ (by decide)
    have ht : ab_tc a e.2 (o.2.1 % 3) = true := by
      unfold ab_tc
      rw [List.any_eq_true]
      exact ⟨o, ho, by simp⟩
    have hv := hk q _ hm ht
    rw [i6 e.2 _ hm (by rw [hv]; decide)]
    exact hv
  unfold ab_log
  by_cases c1 : ab_ld a 3 = 3
  · rw [if_pos c1]; exact h0
  rw [if_neg c1]
  by_cases c2 : 60 ≤ (ab_lg a 3 (ab_ld a 3)).length
  · rw [if_pos c2]; exact h0
  rw [if_neg c2]
  obtain ⟨l1, l2⟩ := ab_ld_spec c1
  have l3 := ab_ld_lt c1
  by_cases c3 : pu_cnt (ab_up a 3) < 2
  · rw [if_pos c3]
    have hq : ab_ld a 3 = M 3 % 3 ∨ ab_vi a 3 (ab_ld a 3) ≠ M 3 := by
      have := pu_G_leads hG c3 l2
      rw [l1]
      exact this
    refine ⟨⟨M, C, pu_I_aloneD hI l3 hq he kc⟩, h2, h3, ?_, h5⟩
    intro g r hg hr
    show (pu_up (ab_lg a) 3 (pu_up (ab_lg a 3) (ab_ld a 3) (ab_lg a 3 (ab_ld a 3) ++ [e])) g r).length ≤ 60
    by_cases z : g = 3
    · rw [z, pu_up_self]
      by_cases y : r = ab_ld a 3
      · rw [y, pu_up_self, List.length_append]
        simp
        omega
      · rw [pu_up_ne _ _ y]; exact h4 3 r (by omega) hr
    · rw [pu_up_ne _ _ z]; exact h4 g r hg hr
  · rw [if_neg c3]
    have c3 : 2 ≤ pu_cnt (ab_up a 3) := by omega
    have hM : ab_top a 3 = M 3 := pu_G_top hG c3
    have lM : ab_ld a 3 = M 3 % 3 := by rw [l1, hM]
    obtain ⟨g1, g2, g3, g4, g5, g6, g7⟩ := hG
    have hv : ab_vi a 3 (ab_ld a 3) = M 3 := by rw [lM]; exact g2
    rw [hv, lM]
    have hup : ab_up a 3 (M 3 % 3) = true := by rw [← hM]; exact l2
    refine ⟨⟨pu_up M 3 (M 3), pu_up C 3 (ab_lg a 3 (M 3 % 3) ++ [e]), pu_I_spreadD hI c3 (pu_le_trans g4 (pu_le_app _ _)) hup (Or.inr ⟨rfl, fun r hr _ hvr => pu_le_trans (g5 r hr hvr) (pu_le_app _ _)⟩) ?_⟩, h2, h3, ?_, ?_⟩
    · intro x hx
      rcases List.mem_append.mp hx with y | y
      · obtain ⟨a1, a2, a3, a4, a5⟩ := i4 3 (by omega) (M 3 % 3) (by rw [← lM]; exact l3) x y
        refine ⟨a1, a2, a3, a4, a5 rfl, ?_⟩
        intro q
        obtain ⟨k, w⟩ := x
        have q : k = 1 := q
        subst q
        exact i7 (M 3 % 3) (by rw [← lM]; exact l3) w y
      · have : x = e := by simpa using y
        rw [this]
        exact ⟨he.1, he.2.1, he.2.2.1, he.2.2.2.1, he.2.2.2.2, kc⟩
    · intro g r hg hr
      show (pu_up (ab_lg a) 3 (fun r => if ab_up a 3 r = true then ab_lg a 3 (M 3 % 3) ++ [e] else ab_lg a 3 r) g r).length ≤ 60
      by_cases z : g = 3
      · rw [z, pu_up_self]
        try dsimp only
        split
        · rw [List.length_append]
          rw [lM] at c2
          simp
          omega
        · exact h4 3 r (by omega) hr
      · rw [pu_up_ne _ _ z]; exact h4 g r hg hr
    · intro g r hg hr
      show pu_up (ab_vi a) 3 (fun r => if ab_up a 3 r = true then M 3 else ab_vi a 3 r) g r ≤ B
      by_cases z : g = 3
      · rw [z, pu_up_self]
        try dsimp only
        split
        · rw [← hv]; exact h5 3 _ (by omega) l3
        · exact h5 3 r (by omega) hr
      · rw [pu_up_ne _ _ z]; exact h5 g r hg hr
theorem ab_best_spec {a : ab_S} {g z : Nat} (hz : z < 3) (hg : ab_good a g z = true) : ab_best a g < 3 ∧ ab_good a g (ab_best a g) = true ∧ ∀ r, r < 3 → ab_good a g r = true → (ab_lg a g r).length ≤ (ab_lg a g (ab_best a g)).length := by
  unfold ab_best
  dsimp only
  cases h0 : ab_good a g 0 <;> cases h1 : ab_good a g 1 <;> cases h2 : ab_good a g 2
  all_goals first
    | (exfalso; rcases pu_lt3 hz with rfl | rfl | rfl <;> simp_all; done)
    | skip
  all_goals simp only [reduceCtorEq, true_and, false_and, true_or, false_or, or_true, or_false, and_true, and_false, if_true, if_false, ite_true, ite_false]
  all_goals (try split)
  all_goals (try split)
  all_goals (refine ⟨by decide, by assumption, ?_⟩; intro r hr hgr; rcases pu_lt3 hr with rfl | rfl | rfl <;> simp_all <;> omega)
theorem ab_next_spec {a : ab_S} {g : Nat} (h : 2 ≤ pu_cnt (ab_up a g)) : ab_up a g (ab_next a g % 3) = true ∧ ab_top a g < ab_next a g ∧ ab_next a g ≤ ab_top a g + 3 := by
  unfold ab_next
  by_cases h1 : ab_up a g ((ab_top a g + 1) % 3) = true
  · rw [if_pos h1]; exact ⟨h1, by omega, by omega⟩
  · rw [if_neg h1]
    by_cases h2 : ab_up a g ((ab_top a g + 2) % 3) = true
    · rw [if_pos h2]; exact ⟨h2, by omega, by omega⟩
    · exfalso
      have := pu_two h (x := (ab_top a g + 1) % 3) (y := (ab_top a g + 2) % 3) (Nat.mod_lt _ (by decide)) (Nat.mod_lt _ (by decide)) (by omega)
      rcases this with q | q
      · exact h1 q
      · exact h2 q
theorem ab_I_elect {B : Nat} {a : ab_S} (h : ab_I B a) (g : Int) : ab_I (B + 3) (ab_elect a g).2 := by
  unfold ab_elect
  split
  · exact ab_I_mono h (by omega)
  · rename_i hc
    have hc : 0 ≤ g ∧ g ≤ 3 ∧ 2 ≤ pu_cnt (ab_up a g.toNat) := Classical.byContradiction hc
    obtain ⟨c1, c2, c3⟩ := hc
    have hg : g.toNat < 4 := by omega
    generalize g.toNat = x at hg c3
    obtain ⟨⟨M, C, h1⟩, h2, h3, h4, h5⟩ := h
    have hI := h1
    obtain ⟨i1, i2, i3, i4, i5, i6, i7, i8, i9, i10, i11⟩ := h1
    have hG := i1 x hg
    have hM : ab_top a x = M x := pu_G_top hG c3
    obtain ⟨n1, n2, n3⟩ := ab_next_spec c3
    obtain ⟨g1, g2, ⟨y, y1, y2, y3, y4⟩, g4, g5, g6, g7⟩ := id hG
    have hgood : ∃ z, z < 3 ∧ ab_good a x z = true := by
      rcases pu_two c3 (Nat.mod_lt (M x) (show 0 < 3 by decide)) y1 y2 with q | q
      · exact ⟨M x % 3, Nat.mod_lt _ (by decide), by unfold ab_good; rw [q, hM, g2]; simp⟩
      · exact ⟨y, y1, by unfold ab_good; rw [q, hM, y3]; simp⟩
    obtain ⟨z, z1, z2⟩ := hgood
    obtain ⟨b1, b2, b3⟩ := ab_best_spec z1 z2
    have b2' : ab_up a x (ab_best a x) = true ∧ ab_vi a x (ab_best a x) = M x := by
      unfold ab_good at b2
      rw [hM] at b2
      simpa using b2
    have hbest : ∀ r, r < 3 → ab_up a x r = true → ab_vi a x r = M x → (ab_lg a x r).length ≤ (ab_lg a x (ab_best a x)).length := by
      intro r hr hu hv
      apply b3 r hr
      unfold ab_good
      rw [hu, hv, hM]; simp
    have hle := pu_G_best hG c3 b1 b2'.2 hbest
    have hMn : M x < ab_next a x := by omega
    have len : ∀ (g r : Nat), g < 4 → r < 3 → (pu_up (ab_lg a) x (fun r => if ab_up a x r = true then ab_lg a x (ab_best a x) else ab_lg a x r) g r).length ≤ 60 := by
      intro g r hg' hr
      by_cases q : g = x
      · rw [q, pu_up_self]
        try dsimp only
        split
        · exact h4 x _ hg b1
        · exact h4 x r hg hr
      · rw [pu_up_ne _ _ q]; exact h4 g r hg' hr
    have vie : ∀ (g r : Nat), g < 4 → r < 3 → pu_up (ab_vi a) x (fun r => if ab_up a x r = true then ab_next a x else ab_vi a x r) g r ≤ B + 3 := by
      intro g r hg' hr
      have hB : M x ≤ B := by rw [← g2]; exact h5 x _ hg (Nat.mod_lt _ (by decide))
      by_cases q : g = x
      · rw [q, pu_up_self]
        try dsimp only
        split
        · omega
        · have := h5 x r hg hr; omega
      · rw [pu_up_ne _ _ q]
        have := h5 g r hg' hr; omega
    by_cases hx : x = 3
    · subst hx
      refine ⟨⟨pu_up M 3 (ab_next a 3), pu_up C 3 (ab_lg a 3 (ab_best a 3)), pu_I_spreadD hI c3 hle n1 (Or.inl hMn) ?_⟩, h2, h3, len, vie⟩
      intro e he
      obtain ⟨a1, a2, a3, a4, a5⟩ := i4 3 (by omega) _ b1 e he
      refine ⟨a1, a2, a3, a4, a5 rfl, ?_⟩
      intro q
      obtain ⟨k, w⟩ := e
      have q : k = 1 := q
      subst q
      exact i7 _ b1 w he
    · have hs : x < 3 := by omega
      refine ⟨⟨pu_up M x (ab_next a x), pu_up C x (ab_lg a x (ab_best a x)), pu_I_spreadS hI hs c3 hle n1 (Or.inl hMn) ?_ ?_⟩, h2, h3, len, vie⟩
      · intro e he
        obtain ⟨a1, a2, a3, a4, -⟩ := i4 x hg _ b1 e he
        refine ⟨a1, a2, a3, a4, ?_, ?_⟩
        · intro q
          obtain ⟨k, w⟩ := e
          have q : k = 1 := q
          subst q
          exact (i8 x hs _ b1 w).1 he
        · intro q
          obtain ⟨k, w⟩ := e
          have q : k = 2 := q
          subst q
          exact (i8 x hs _ b1 w).2 he
      · obtain ⟨D, hD⟩ := g5 _ b1 b2'.2
        refine pu_ok_left (D := D) ?_
        rw [hD]
        exact i9 x hs
