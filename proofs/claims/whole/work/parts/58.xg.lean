/-! a group's replicas, seen in the numbers: a log is copied, a view is set, an entry is appended -/
def ab_setvi (a : ab_S) (g r v : Nat) : ab_S := ab_mk (ab_n a) (ab_op a) (ab_cl a) (ab_up a) (pu_up (ab_vi a) g (pu_up (ab_vi a g) r v)) (ab_lg a) (ab_dn a) (ab_ha a) (ab_kv a) (ab_kd a) (ab_rs a)
theorem pu_up2 {α : Type} (f : Nat → Nat → α) (g r : Nat) (v : α) (g' r' : Nat) : pu_up f g (pu_up (f g) r v) g' r' = if g' = g ∧ r' = r then v else f g' r' := by
  by_cases q : g' = g
  · rw [q, pu_up_self]
    by_cases z : r' = r
    · rw [z, pu_up_self, if_pos ⟨rfl, rfl⟩]
    · rw [pu_up_ne _ _ z, if_neg (fun y => z y.2)]
  · rw [pu_up_ne _ _ q, if_neg (fun y => q y.1)]
/-- a change of one replica's rows, with the rest of the abstract state as it was -/
theorem xr_one {σ τ : gx_M} {a b : ab_S} (h : xr σ a) {gi ri : Nat} (h0 : gi < 4) (h1 : ri < 3) (hc : ∀ n, n ≠ nRp gi ri → n ≠ nLg gi ri → τ n = σ n)
    (hr : τ (nRp gi ri) 2 = xb (ab_up b gi ri) ∧ τ (nRp gi ri) 3 = ab_vi b gi ri ∧ τ (nRp gi ri) 4 = (ab_lg b gi ri).length ∧ τ (nRp gi ri) 5 = ab_dn b gi ri ∧ ∀ i e, (ab_lg b gi ri)[i]? = some e → τ (nLg gi ri) i = 3 * e.2 + e.1)
    (ho : ∀ g r, g < 4 → r < 3 → ¬ (g = gi ∧ r = ri) → ab_up b g r = ab_up a g r ∧ ab_vi b g r = ab_vi a g r ∧ ab_lg b g r = ab_lg a g r ∧ ab_dn b g r = ab_dn a g r)
    (ht : (ab_lg b gi ri).take (ab_dn b gi ri) = (ab_lg a gi ri).take (ab_dn a gi ri))
    (e0 : ab_n b = ab_n a) (e1 : ab_op b = ab_op a) (e2 : ab_cl b = ab_cl a) (e5 : ab_ha b = ab_ha a) (e6 : ab_kv b = ab_kv a) (e7 : ab_kd b = ab_kd a) (e8 : ab_rs b = ab_rs a) : xr τ b := by
  have ex : ∀ g r, g < 4 → r < 3 → (ab_lg b g r).take (ab_dn b g r) = (ab_lg a g r).take (ab_dn a g r) := by
    intro g r hg hr'
    by_cases q : g = gi ∧ r = ri
    · rw [q.1, q.2]; exact ht
    · obtain ⟨-, -, o3, o4⟩ := ho g r hg hr' q
      rw [o3, o4]
  refine xr_R h (fun n q => hc n (fun z => q ⟨gi, ri, h0, h1, Or.inl z⟩) (fun z => q ⟨gi, ri, h0, h1, Or.inr z⟩)) ?_ e0 e1 e2 (fun s r hs hr' => ?_) (fun r hr' => ?_) e5 e6 e7 e8
  · intro g r hg hr'
    by_cases q : g = gi ∧ r = ri
    · rw [q.1, q.2]; exact hr
    · obtain ⟨o1, o2, o3, o4⟩ := ho g r hg hr' q
      rw [o1, o2, o3, o4, hc (nRp g r) (fun z => q (nRp_inj hg hr' h0 h1 z)) (nRp_Lg hg hr' h0 h1), hc (nLg g r) (nRp_Lg h0 h1 hg hr').symm (fun z => q (nLg_inj hg hr' h0 h1 z))]
      exact h.2.2.1 g r hg hr'
  · unfold ab_ex
    rw [e1, ex s r (by omega) hr']
  · unfold ab_ds
    rw [ex 3 r (by decide) hr']
theorem xr_up {σ : gx_M} {a : ab_S} (h : xr σ a) {gi ri : Nat} (h0 : gi < 4) (h1 : ri < 3) (b : Bool) : xr (gx_w σ (nRp gi ri) 2 (xb b)) (ab_setup a gi ri b) := by
  obtain ⟨y1, y2, y3, y4, y5⟩ := h.2.2.1 gi ri h0 h1
  have e : ∀ g r, ab_up (ab_setup a gi ri b) g r = if g = gi ∧ r = ri then b else ab_up a g r := fun g r => pu_up2 _ _ _ _ _ _
  refine xr_one h h0 h1 (fun n q _ => gx_w_row _ _ _ q) ?_ (fun g r _ _ q => ⟨by rw [e, if_neg q], rfl, rfl, rfl⟩) rfl rfl rfl rfl rfl rfl rfl rfl
  rw [gx_w_self, gx_w_col _ _ _ (show (3 : Nat) ≠ 2 by decide), gx_w_col _ _ _ (show (4 : Nat) ≠ 2 by decide), gx_w_col _ _ _ (show (5 : Nat) ≠ 2 by decide), gx_w_row _ _ _ (nRp_Lg h0 h1 h0 h1).symm, e, if_pos ⟨rfl, rfl⟩]
  exact ⟨rfl, y2, y3, y4, y5⟩
theorem xr_setvi {σ : gx_M} {a : ab_S} (h : xr σ a) {gi ri : Nat} (h0 : gi < 4) (h1 : ri < 3) (v : Nat) : xr (gx_w σ (nRp gi ri) 3 v) (ab_setvi a gi ri v) := by
  obtain ⟨y1, y2, y3, y4, y5⟩ := h.2.2.1 gi ri h0 h1
  have e : ∀ g r, ab_vi (ab_setvi a gi ri v) g r = if g = gi ∧ r = ri then v else ab_vi a g r := fun g r => pu_up2 _ _ _ _ _ _
  refine xr_one h h0 h1 (fun n q _ => gx_w_row _ _ _ q) ?_ (fun g r _ _ q => ⟨rfl, by rw [e, if_neg q], rfl, rfl⟩) rfl rfl rfl rfl rfl rfl rfl rfl
  rw [gx_w_self, gx_w_col _ _ _ (show (2 : Nat) ≠ 3 by decide), gx_w_col _ _ _ (show (4 : Nat) ≠ 3 by decide), gx_w_col _ _ _ (show (5 : Nat) ≠ 3 by decide), gx_w_row _ _ _ (nRp_Lg h0 h1 h0 h1).symm, e, if_pos ⟨rfl, rfl⟩]
  exact ⟨y1, rfl, y3, y4, y5⟩
/-- the log of replica f is copied to replica r -/
theorem xr_copy {σ : gx_M} {a : ab_S} (h : xr σ a) {gi ri f : Nat} (h0 : gi < 4) (h1 : ri < 3) (hf : f < 3) (hfr : f ≠ ri) (hl : (ab_lg a gi f).length ≤ 60) (ht : (ab_lg a gi f).take (ab_dn a gi ri) = (ab_lg a gi ri).take (ab_dn a gi ri)) :
    xr (gx_w (gx_cp σ (nLg gi f) (nLg gi ri) (ab_lg a gi f).length) (nRp gi ri) 4 (ab_lg a gi f).length) (ab_setlg a gi ri (ab_lg a gi f)) := by
  obtain ⟨y1, y2, y3, y4, y5⟩ := h.2.2.1 gi ri h0 h1
  obtain ⟨z1, z2, z3, z4, z5⟩ := h.2.2.1 gi f h0 hf
  have e : ∀ g r, ab_lg (ab_setlg a gi ri (ab_lg a gi f)) g r = if g = gi ∧ r = ri then ab_lg a gi f else ab_lg a g r := fun g r => pu_up2 _ _ _ _ _ _
  have nl := nRp_Lg h0 h1 h0 h1
  have e2 : ab_dn (ab_setlg a gi ri (ab_lg a gi f)) gi ri = ab_dn a gi ri := rfl
  have cp : ∀ n, n ≠ nLg gi ri → gx_cp σ (nLg gi f) (nLg gi ri) (ab_lg a gi f).length n = σ n := fun n q => va_up_ne _ _ q
  refine xr_one h h0 h1 (fun n q1 q2 => by rw [gx_w_row _ _ _ q1, cp n q2]) ?_ (fun g r _ _ q => ⟨rfl, rfl, by rw [e, if_neg q], rfl⟩) (by rw [e, if_pos ⟨rfl, rfl⟩, e2]; exact ht) rfl rfl rfl rfl rfl rfl rfl
  rw [gx_w_self, gx_w_col _ _ _ (show (2 : Nat) ≠ 4 by decide), gx_w_col _ _ _ (show (3 : Nat) ≠ 4 by decide), gx_w_col _ _ _ (show (5 : Nat) ≠ 4 by decide), gx_w_row _ _ _ nl.symm, e, if_pos ⟨rfl, rfl⟩, cp _ nl]
  refine ⟨y1, y2, rfl, y4, fun i en hi => ?_⟩
  have hlt : i < (ab_lg a gi f).length := (List.getElem?_eq_some_iff.mp hi).1
  show va_up σ (nLg gi ri) _ (nLg gi ri) i = _
  rw [va_up_self, if_pos hlt]
  exact z5 i en hi
/-- an entry is appended -/
theorem xr_app {σ : gx_M} {a : ab_S} (h : xr σ a) {gi ri : Nat} (h0 : gi < 4) (h1 : ri < 3) (en : pu_En) (hd : ab_dn a gi ri ≤ (ab_lg a gi ri).length) :
    xr (gx_w (gx_w σ (nLg gi ri) (ab_lg a gi ri).length (en.2 * 3 + en.1)) (nRp gi ri) 4 ((ab_lg a gi ri).length + 1)) (ab_setlg a gi ri (ab_lg a gi ri ++ [en])) := by
  obtain ⟨y1, y2, y3, y4, y5⟩ := h.2.2.1 gi ri h0 h1
  have e : ∀ g r, ab_lg (ab_setlg a gi ri (ab_lg a gi ri ++ [en])) g r = if g = gi ∧ r = ri then ab_lg a gi ri ++ [en] else ab_lg a g r := fun g r => pu_up2 _ _ _ _ _ _
  have nl := nRp_Lg h0 h1 h0 h1
  have e2 : ab_dn (ab_setlg a gi ri (ab_lg a gi ri ++ [en])) gi ri = ab_dn a gi ri := rfl
  refine xr_one h h0 h1 (fun n q1 q2 => by rw [gx_w_row _ _ _ q1, gx_w_row _ _ _ q2]) ?_ (fun g r _ _ q => ⟨rfl, rfl, by rw [e, if_neg q], rfl⟩) (by rw [e, if_pos ⟨rfl, rfl⟩, e2, List.take_append_of_le_length hd]) rfl rfl rfl rfl rfl rfl rfl
  rw [gx_w_self, gx_w_col _ _ _ (show (2 : Nat) ≠ 4 by decide), gx_w_col _ _ _ (show (3 : Nat) ≠ 4 by decide), gx_w_col _ _ _ (show (5 : Nat) ≠ 4 by decide), gx_w_row _ _ _ nl.symm, e, if_pos ⟨rfl, rfl⟩, gx_w_row _ _ _ nl]
  refine ⟨y1, y2, by rw [List.length_append]; rfl, y4, fun i x hi => ?_⟩
  by_cases q : i = (ab_lg a gi ri).length
  · subst q
    rw [gx_w_self]
    rw [List.getElem?_append_right (Nat.le_refl _)] at hi
    have : x = en := by simpa using hi.symm
    rw [this]; omega
  · have hlt : i < (ab_lg a gi ri ++ [en]).length := (List.getElem?_eq_some_iff.mp hi).1
    rw [List.length_append] at hlt
    have hlt2 : i < (ab_lg a gi ri).length := by simp at hlt; omega
    rw [gx_w_col _ _ _ q]
    rw [List.getElem?_append_left hlt2] at hi
    exact y5 i x hi
/-- the first i replicas have taken L and v -/
def ab_sp (a : ab_S) (g : Nat) (L : List pu_En) (v i : Nat) : ab_S :=
  ab_mk (ab_n a) (ab_op a) (ab_cl a) (ab_up a) (pu_up (ab_vi a) g (fun r => if (r < i ∨ 3 ≤ r) ∧ ab_up a g r = true then v else ab_vi a g r)) (pu_up (ab_lg a) g (fun r => if (r < i ∨ 3 ≤ r) ∧ ab_up a g r = true then L else ab_lg a g r)) (pu_up (ab_dn a) g (fun r => if (r < i ∨ 3 ≤ r) ∧ ab_up a g r = true then L.length else ab_dn a g r)) (ab_ha a) (ab_kv a) (ab_kd a) (ab_rs a)
theorem ab_sp_all (a : ab_S) (g : Nat) (L : List pu_En) (v : Nat) : ab_sp a g L v 3 = ab_spread a g L v := by
  unfold ab_sp ab_spread
  have e : ∀ r, ((r < 3 ∨ 3 ≤ r) ∧ ab_up a g r = true) = (ab_up a g r = true) := by
    intro r
    apply propext
    exact ⟨fun q => q.2, fun q => ⟨by omega, q⟩⟩
  simp only [e]
theorem ab_sp_vi (a : ab_S) (g : Nat) (L : List pu_En) (v i : Nat) {r : Nat} (h : ¬ (r < i ∨ 3 ≤ r)) : ab_vi (ab_sp a g L v i) g r = ab_vi a g r ∧ ab_lg (ab_sp a g L v i) g r = ab_lg a g r ∧ ab_dn (ab_sp a g L v i) g r = ab_dn a g r := by
  refine ⟨?_, ?_, ?_⟩
  · show pu_up (ab_vi a) g _ g r = _
    rw [pu_up_self, if_neg (fun q => h q.1)]
  · show pu_up (ab_lg a) g _ g r = _
    rw [pu_up_self, if_neg (fun q => h q.1)]
  · show pu_up (ab_dn a) g _ g r = _
    rw [pu_up_self, if_neg (fun q => h q.1)]
theorem ab_sp_in (a : ab_S) (g : Nat) (L : List pu_En) (v i : Nat) {r : Nat} (h : r < i) (hu : ab_up a g r = true) : ab_vi (ab_sp a g L v i) g r = v ∧ ab_lg (ab_sp a g L v i) g r = L ∧ ab_dn (ab_sp a g L v i) g r = L.length := by
  refine ⟨?_, ?_, ?_⟩
  · show pu_up (ab_vi a) g _ g r = _
    rw [pu_up_self, if_pos ⟨Or.inl h, hu⟩]
  · show pu_up (ab_lg a) g _ g r = _
    rw [pu_up_self, if_pos ⟨Or.inl h, hu⟩]
  · show pu_up (ab_dn a) g _ g r = _
    rw [pu_up_self, if_pos ⟨Or.inl h, hu⟩]
theorem pu_fun3 {α : Type} (f : Nat → Nat → α) (up : Nat → Bool) (g i : Nat) (x : α) (hi : i < 3) (hu : up i = true) : pu_up (pu_up f g (fun r => if (r < i ∨ 3 ≤ r) ∧ up r = true then x else f g r)) g (pu_up (pu_up f g (fun r => if (r < i ∨ 3 ≤ r) ∧ up r = true then x else f g r) g) i x) = pu_up f g (fun r => if (r < i + 1 ∨ 3 ≤ r) ∧ up r = true then x else f g r) := by
  rw [pu_up_self, pu_up_up]
  funext g'
  by_cases q : g' = g
  · rw [q, pu_up_self, pu_up_self]
    funext r
    by_cases z : r = i
    · rw [z, pu_up_self, if_pos ⟨by omega, hu⟩]
    · rw [pu_up_ne _ _ z]
      have : ((r < i ∨ 3 ≤ r) ∧ up r = true) = ((r < i + 1 ∨ 3 ≤ r) ∧ up r = true) := by
        apply propext
        constructor
        · intro y; exact ⟨by omega, y.2⟩
        · intro y; exact ⟨by omega, y.2⟩
      simp only [this]
  · rw [pu_up_ne _ _ q, pu_up_ne _ _ q]
theorem pu_fun3' {α : Type} (f : Nat → Nat → α) (up : Nat → Bool) (g i : Nat) (x : α) (hu : up i = false) : pu_up f g (fun r => if (r < i ∨ 3 ≤ r) ∧ up r = true then x else f g r) = pu_up f g (fun r => if (r < i + 1 ∨ 3 ≤ r) ∧ up r = true then x else f g r) := by
  congr 1
  funext r
  have : ((r < i ∨ 3 ≤ r) ∧ up r = true) = ((r < i + 1 ∨ 3 ≤ r) ∧ up r = true) := by
    apply propext
    constructor
    · intro y; exact ⟨by omega, y.2⟩
    · intro y
      refine ⟨?_, y.2⟩
      by_cases z : r = i
      · rw [z, hu] at y; exact absurd y.2 (by decide)
      · omega
  simp only [this]
theorem ab_sp_step (a : ab_S) (g : Nat) (L : List pu_En) (v i : Nat) (hi : i < 3) (hu : ab_up a g i = true) : ab_setdn (ab_setvi (ab_setlg (ab_sp a g L v i) g i L) g i v) g i L.length = ab_sp a g L v (i + 1) := by
  show ab_mk (ab_n a) (ab_op a) (ab_cl a) (ab_up a) (pu_up (pu_up (ab_vi a) g _) g (pu_up (pu_up (ab_vi a) g _ g) i v)) (pu_up (pu_up (ab_lg a) g _) g (pu_up (pu_up (ab_lg a) g _ g) i L)) (pu_up (pu_up (ab_dn a) g _) g (pu_up (pu_up (ab_dn a) g _ g) i L.length)) (ab_ha a) (ab_kv a) (ab_kd a) (ab_rs a) = _
  rw [pu_fun3 _ _ _ _ _ hi hu, pu_fun3 _ _ _ _ _ hi hu, pu_fun3 _ _ _ _ _ hi hu]
  rfl
theorem ab_sp_skip (a : ab_S) (g : Nat) (L : List pu_En) (v i : Nat) (hu : ab_up a g i = false) : ab_sp a g L v i = ab_sp a g L v (i + 1) := by
  unfold ab_sp
  rw [pu_fun3' _ _ _ _ _ hu, pu_fun3' _ _ _ _ _ hu, pu_fun3' _ _ _ _ _ hu]
theorem ab_sp_zero (a : ab_S) (g : Nat) (L : List pu_En) (v : Nat) {r : Nat} (h : r < 3) : True := trivial
theorem ab_setlg_id (a : ab_S) (g r : Nat) : ab_setlg a g r (ab_lg a g r) = a := by
  unfold ab_setlg
  rw [pu_up_id, pu_up_id]
  rfl
/-- greatest view and count, one by one -/
def gvf (up : Nat → Bool) (vi : Nat → Nat) : Nat → Nat
  | 0 => 0
  | i + 1 => if up i = true then max (gvf up vi i) (vi i) else gvf up vi i
def cuf (up : Nat → Bool) : Nat → Nat
  | 0 => 0
  | i + 1 => if up i = true then cuf up i + 1 else cuf up i
theorem gvf_top (up : Nat → Bool) (vi : Nat → Nat) : gvf up vi 3 = pu_top up vi := by
  unfold pu_top
  cases h0 : up 0 <;> cases h1 : up 1 <;> cases h2 : up 2 <;> simp [gvf, h0, h1, h2]
theorem cuf_cnt (up : Nat → Bool) : cuf up 3 = pu_cnt up := by
  unfold pu_cnt
  cases h0 : up 0 <;> cases h1 : up 1 <;> cases h2 : up 2 <;> simp [cuf, h0, h1, h2]
theorem gvf_lt {up : Nat → Bool} {vi : Nat → Nat} {B : Nat} (hB : 0 < B) (h : ∀ r, r < 3 → vi r < B) : ∀ i, i ≤ 3 → gvf up vi i < B := by
  intro i
  induction i with
  | zero => intro _; exact hB
  | succ i ih =>
    intro hi
    have := ih (by omega)
    have := h i (by omega)
    show (if up i = true then max (gvf up vi i) (vi i) else gvf up vi i) < B
    split <;> omega
