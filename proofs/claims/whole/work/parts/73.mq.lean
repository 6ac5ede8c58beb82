/-! the reference's scratch cells: one entry executed -/
theorem mS_w {σ : gx_M} {S : pu_S} (h : mS σ S) (t v : Nat) (no : Nat → Nat → Nat) : mS (gx_w σ 237 t v) (pu_up S.1 t v, S.2.1, S.2.2.1, no) := by
  refine ⟨fun u hu => ?_, fun k hk => ?_⟩
  · rw [gx_w_row _ _ _ (show (238 : Nat) ≠ 237 by decide)]
    refine ⟨?_, (h.1 u hu).2⟩
    show _ = pu_up S.1 t v u
    by_cases q : u = t
    · rw [q, gx_w_self, pu_up_self]
    · rw [gx_w_col _ _ _ q, pu_up_ne _ _ q]; exact (h.1 u hu).1
  · rw [gx_w_row _ _ _ (by decide)]; exact h.2 k hk
theorem mS_v {σ : gx_M} {S : pu_S} (h : mS σ S) {t v : Nat} (hv : v = S.1 t) : mS (gx_w σ 237 t v) S := by
  have q := mS_w h t v S.2.2.2
  rw [hv, pu_up_id] at q
  rw [hv]
  exact q
theorem mE {σ : gx_M} {S : pu_S} (h : mS σ S) (t d v : Nat) : (∀ u, u < 21 → gx_w (gx_w (gx_w σ 238 t 1) 239 t d) 237 t v 237 u = pu_up S.1 t v u) ∧ (∀ u, u < 21 → gx_w (gx_w (gx_w σ 238 t 1) 239 t d) 237 t v 238 u = xb (pu_up S.2.1 t true u)) ∧ mC σ (gx_w (gx_w (gx_w σ 238 t 1) 239 t d) 237 t v) ∧ ∀ k, k < 12 → gx_w (gx_w (gx_w σ 238 t 1) 239 t d) 237 t v 240 k = S.2.2.1 k := by
  refine ⟨fun u hu => ?_, fun u hu => ?_, mC_trans (mC_w (by omega)) (mC_trans (mC_w (by omega)) (mC_w (by omega))), fun k hk => ?_⟩
  · by_cases q : u = t
    · rw [q, gx_w_self, pu_up_self]
    · rw [gx_w_col _ _ _ q, pu_up_ne _ _ q, gx_w_row _ _ _ (by decide), gx_w_row _ _ _ (by decide)]; exact (h.1 u hu).1
  · rw [gx_w_row _ _ _ (by decide), gx_w_row _ _ _ (by decide)]
    by_cases q : u = t
    · rw [q, gx_w_self, pu_up_self]; rfl
    · rw [gx_w_col _ _ _ q, pu_up_ne _ _ q]; exact (h.1 u hu).2
  · rw [gx_w_row _ _ _ (by decide), gx_w_row _ _ _ (by decide), gx_w_row _ _ _ (by decide)]; exact h.2 k hk
/-- the scratch cells say the decisions -/
def mD (σ : gx_M) (D : Nat → Nat) : Prop := ∀ t, t < 21 → σ 239 t = D t ∧ σ 238 t = (if D t = 0 then 0 else 1) ∧ σ 237 t ≤ 2
theorem mD_w {σ : gx_M} {D : Nat → Nat} (h : mD σ D) {t k v d : Nat} (hd : D t = 0) (hk : k ≠ 0) (hdk : d = k) (hv : v ≤ 2) : mD (gx_w (gx_w (gx_w σ 238 t 1) 239 t d) 237 t v) (if D t = 0 then pu_up D t k else D) := by
  intro u hu
  rw [if_pos hd]
  obtain ⟨h1, h2, h3⟩ := h u hu
  by_cases q : u = t
  · rw [q, gx_w_self, gx_w_row _ _ _ (show (239 : Nat) ≠ 237 by decide), gx_w_self, gx_w_row _ _ _ (show (238 : Nat) ≠ 237 by decide), gx_w_row _ _ _ (show (238 : Nat) ≠ 239 by decide), gx_w_self, pu_up_self, if_neg hk]
    exact ⟨hdk, rfl, hv⟩
  · rw [gx_w_col _ _ _ q, pu_up_ne _ _ q, gx_w_row _ _ _ (show (239 : Nat) ≠ 237 by decide), gx_w_col _ _ _ q, gx_w_row _ _ _ (show (239 : Nat) ≠ 238 by decide), gx_w_row _ _ _ (show (238 : Nat) ≠ 237 by decide), gx_w_row _ _ _ (show (238 : Nat) ≠ 239 by decide), gx_w_col _ _ _ q, gx_w_row _ _ _ (show (237 : Nat) ≠ 239 by decide), gx_w_row _ _ _ (show (237 : Nat) ≠ 238 by decide)]
    exact ⟨h1, h2, h3⟩
theorem mC_3 (σ : gx_M) (t d v : Nat) : mC σ (gx_w (gx_w (gx_w σ 238 t 1) 239 t d) 237 t v) := mC_trans (mC_w (by omega)) (mC_trans (mC_w (by omega)) (mC_w (by omega)))
