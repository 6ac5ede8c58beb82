/-! who holds a key, the serial order: pure -/
def hcn (P : Nat → Bool) : Nat → Nat
  | 0 => 0
  | m + 1 => hcn P m + (if P m = true then 1 else 0)
theorem hcn_le (P : Nat → Bool) : ∀ m, hcn P m ≤ m := by
  intro m
  induction m with
  | zero => exact Nat.le_refl _
  | succ m ih =>
    show hcn P m + (if P m = true then 1 else 0) ≤ m + 1
    split <;> omega
theorem hcn_ext (P : Nat → Bool) {m : Nat} (h : ∀ t, m ≤ t → P t = false) : ∀ k, hcn P (m + k) = hcn P m := by
  intro k
  induction k with
  | zero => rfl
  | succ k ih =>
    show hcn P (m + k) + (if P (m + k) = true then 1 else 0) = _
    rw [h (m + k) (by omega), ih]
    rfl
theorem hcn_sum (P : Nat → Bool) : ∀ m, ((List.range m).map (fun t => if P t = true then 1 else 0)).sum = hcn P m := by
  intro m
  induction m with
  | zero => rfl
  | succ m ih =>
    rw [List.range_succ, List.map_append, List.sum_append, ih]
    simp [hcn]
noncomputable def hcP (op : Nat → List pu_Op) (S : pu_S) (y : Nat) : Nat → Bool := by
  classical exact fun t => decide (S.1 t = 1 ∧ S.2.1 t = false ∧ pu_need (op t) y = 1)
theorem hcP_iff {op : Nat → List pu_Op} {S : pu_S} {y t : Nat} : hcP op S y t = true ↔ (S.1 t = 1 ∧ S.2.1 t = false ∧ pu_need (op t) y = 1) := by
  unfold hcP
  simp
def hcQ (op : Nat → List pu_Op) (S : pu_S) (y : Nat) (r : Int32) : Prop :=
  (∃ t, 1 ≤ t ∧ t < 21 ∧ S.1 t = 1 ∧ S.2.1 t = false ∧ pu_need (op t) y = 2 ∧ r = nI t) ∨ ((∀ t, S.1 t = 1 → S.2.1 t = false → pu_need (op t) y ≠ 2) ∧ r = -(nI (hcn (hcP op S y) 24)))
theorem hcQ_eq {op : Nat → List pu_Op} {S : pu_S} {y s : Nat} {va al sh vo fi no : Nat → Nat} (hT : pt_T op s S va al sh vo fi no) (hy : y < 12) (hs : y % 3 = s) {r : Int32} (h : hcQ op S y r) : r = if al (y / 3) ≠ 0 then nI (al (y / 3)) else -(nI (bc_pop 24 (sh (y / 3)))) := by
  obtain ⟨-, -, -, -, h5, h6, h7, h8⟩ := hT
  obtain ⟨a1, a2⟩ := h5 (y / 3) (by omega)
  obtain ⟨b1, b2⟩ := h6 (y / 3) (by omega)
  have ey : 3 * (y / 3) + s = y := by omega
  rw [ey] at a2 b2
  rcases h with ⟨t, t1, t2, t3, t4, t5, rfl⟩ | ⟨q, rfl⟩
  · have e := (a2 t t1 t2).mpr ⟨t3, t4, t5⟩
    rw [e, if_pos (by omega)]
  · have e : al (y / 3) = 0 := by
      apply Classical.byContradiction
      intro z
      obtain ⟨z1, z2, z3⟩ := (a2 (al (y / 3)) (by omega) a1).mp rfl
      exact q _ z1 z2 z3
    rw [if_neg (by omega)]
    have e2 : bc_pop 24 (sh (y / 3)) = hcn (hcP op S y) 24 := by
      rw [← hcn_sum, bc_pop_bits 24 (sh (y / 3)) 0 (fun t => if hcP op S y t = true then 1 else 0)]
      · simp only [Nat.zero_add]
      · intro t ht
        rw [Nat.zero_add]
        have : hcP op S y t = true ↔ (sh (y / 3)).testBit t = true := by
          by_cases z : t < 21
          · rw [hcP_iff, b2 t z]
          · constructor
            · intro w
              rw [hcP_iff, h8 t (by omega)] at w
              exact absurd w.1 (by decide)
            · intro w
              have := Nat.testBit_lt_two_pow (x := sh (y / 3)) (i := t) (Nat.lt_of_lt_of_le b1 (Nat.pow_le_pow_right (by decide) (by omega)))
              rw [this] at w
              exact absurd w (by decide)
        by_cases z : (sh (y / 3)).testBit t = true
        · rw [if_pos z, if_pos (this.mpr z)]
        · rw [if_neg z, if_neg (fun w => z (this.mp w))]
    rw [e2]
/-- the serial order, as the reference keeps it -/
def zF (Z : pu_Z) (t i : Nat) : Int64 := if Z.1 t = 1 then (nI (Z.2.2 t i)).toInt64 else 1099511627776
def zM (σ : gx_M) (Z : pu_Z) : Prop := (∀ u, u < 21 → σ 239 u = if Z.1 u = 0 then 0 else Z.1 u + 1) ∧ ∀ y, y < 12 → σ 240 y = Z.2.1 y
theorem zs_skip {op : Nat → List pu_Op} {Z : pu_Z} {e : pu_En} (h : Z.1 e.2 ≠ 0) : pu_zs op Z e = Z := by
  unfold pu_zs
  rw [if_neg h]
theorem zs_com {op : Nat → List pu_Op} {Z : pu_Z} {e : pu_En} (h : Z.1 e.2 = 0) (h1 : e.1 = 1) : pu_zs op Z e = (pu_up Z.1 e.2 1, pu_run pu_all (op e.2) Z.2.1, pu_up Z.2.2 e.2 (pu_rs pu_all (op e.2) Z.2.1)) := by
  unfold pu_zs
  rw [if_pos h, h1, if_pos rfl, if_pos rfl]
theorem zs_abo {op : Nat → List pu_Op} {Z : pu_Z} {e : pu_En} (h : Z.1 e.2 = 0) (h1 : e.1 ≠ 1) : pu_zs op Z e = (pu_up Z.1 e.2 e.1, Z.2.1, Z.2.2) := by
  unfold pu_zs
  rw [if_pos h, if_neg h1, if_neg h1]
theorem zF_stop {op : Nat → List pu_Op} {L : List pu_En} {j t i : Nat} (h : (pu_sr op (L.take j)).1 t ≠ 0) (n : Nat) (hcn : j ≤ n) : zF (pu_sr op (L.take n)) t i = zF (pu_sr op (L.take j)) t i := by
  obtain ⟨D, hD⟩ : ∃ D, L.take n = L.take j ++ D := by
    refine ⟨(L.take n).drop j, ?_⟩
    have e : L.take j = (L.take n).take j := by rw [List.take_take, Nat.min_eq_left hcn]
    rw [e]
    exact (List.take_append_drop j (L.take n)).symm
  rw [pu_sr_ds] at h
  unfold zF
  rw [hD, pu_sr_ds, pu_sr_ds, pu_ds_app _ _ h, pu_sr_keep op _ t h]
theorem zM_w {σ : gx_M} {Z : pu_Z} (h : zM σ Z) {t k : Nat} (hk : k ≠ 0) {va : Nat → Nat} {rs : Nat → Nat → Nat} (hv : ∀ y, y < 12 → σ 240 y = va y) : zM (gx_w σ 239 t (k + 1)) (pu_up Z.1 t k, va, rs) := by
  refine ⟨fun u hu => ?_, fun y hy => by rw [gx_w_row _ _ _ (by decide)]; exact hv y hy⟩
  show _ = if pu_up Z.1 t k u = 0 then 0 else pu_up Z.1 t k u + 1
  by_cases q : u = t
  · rw [q, gx_w_self, pu_up_self, if_neg hk]
  · rw [gx_w_col _ _ _ q, pu_up_ne _ _ q]; exact h.1 u hu
theorem zM_same {σ : gx_M} {Z : pu_Z} (h : zM σ Z) {t v : Nat} (ht : t < 21) (hv : v = σ 239 t) : zM (gx_w σ 239 t v) Z := by
  refine ⟨fun u hu => ?_, fun y hy => by rw [gx_w_row _ _ _ (by decide)]; exact h.2 y hy⟩
  by_cases q : u = t
  · rw [q, gx_w_self, hv]; exact h.1 t ht
  · rw [gx_w_col _ _ _ q]; exact h.1 u hu
theorem ab_result1 {B : Nat} {a : ab_S} (h : ab_I B a) {t : Nat} (hd : ab_kd a t = 1) : (pu_sr (ab_op a) ((ab_lg a 3 (ab_long a)).take (ab_dn a 3 (ab_long a)))).1 t = 1 := by
  obtain ⟨⟨M, C, h1⟩, -⟩ := h
  have hds := h1.2.2.2.2.1 t (by rw [hd]; decide)
  obtain ⟨i1, -⟩ := h1
  obtain ⟨g1, g2, g3, g4, g5, g6, ⟨z, z1, z2⟩⟩ := i1 3 (by decide)
  have hl := ab_long_lt a
  have hm := ab_long_max a z1
  obtain ⟨b1, b2⟩ := g6 _ hl
  obtain ⟨b3, b4⟩ := g6 z z1
  have e1 : ((ab_lg a 3 z).take (ab_dn a 3 z)).length = ab_dn a 3 z := by rw [List.length_take]; omega
  have e2 : ((ab_lg a 3 (ab_long a)).take (ab_dn a 3 (ab_long a))).length = ab_dn a 3 (ab_long a) := by rw [List.length_take]; omega
  have e3 : C 3 = (ab_lg a 3 (ab_long a)).take (ab_dn a 3 (ab_long a)) := by
    obtain ⟨D, hD⟩ := b2
    have hlen : (C 3).length = ab_dn a 3 z := by rw [← z2]; exact e1
    have hD0 : D = [] := by
      have := congrArg List.length hD
      rw [List.length_append, e2, hlen] at this
      exact List.eq_nil_of_length_eq_zero (by omega)
    rw [← hD, hD0, List.append_nil]
  rw [pu_sr_ds, ← e3, hds, hd]
