/-! the answers of the abstract system, and its calls by cases -/
noncomputable def ab_vote (a : ab_S) (t s : Int) : Nat := by
  classical exact if ab_is a t ∧ 0 ≤ s ∧ s ≤ 2 then ab_kv a t.toNat s.toNat else 0
noncomputable def ab_outcome (a : ab_S) (t : Int) : Nat := by
  classical exact if ab_is a t then ab_kd a t.toNat else 0
noncomputable def ab_leader (a : ab_S) (g : Int) : Int := by
  classical exact if 0 ≤ g ∧ g ≤ 3 ∧ ab_ld a g.toNat ≠ 3 then (ab_ld a g.toNat : Int) else -1
noncomputable def ab_at (f : Nat → Nat → Nat) (g r : Int) : Int := by
  classical exact if ab_rep g r then (f g.toNat r.toNat : Int) else -1
noncomputable def ab_value (a : ab_S) (key r : Int) : Nat := by
  classical exact if (0 ≤ key ∧ key ≤ 11) ∧ 0 ≤ r ∧ r ≤ 2 then (ab_ex a (key.toNat % 3) r.toNat).2.2.1 key.toNat else 0
theorem gi_ofInt (n : Nat) : Int32.ofInt (n : Int) = nI n := rfl
theorem ab_touch_f {a : ab_S} {t kind key : Int} {v : Nat} (h : ¬ (ab_is a t ∧ 0 ≤ kind ∧ kind ≤ 2 ∧ 0 ≤ key ∧ key ≤ 11 ∧ ab_cl a t.toNat = false ∧ (ab_op a t.toNat).length < 4)) : ab_touch a t kind key v = (false, a) := by
  unfold ab_touch
  exact if_neg h
theorem ab_touch_t {a : ab_S} {t kind key : Int} {v : Nat} (h : ab_is a t ∧ 0 ≤ kind ∧ kind ≤ 2 ∧ 0 ≤ key ∧ key ≤ 11 ∧ ab_cl a t.toNat = false ∧ (ab_op a t.toNat).length < 4) : ab_touch a t kind key v = (true, ab_setop a t.toNat (ab_op a t.toNat ++ [(kind.toNat, key.toNat, v)])) := by
  unfold ab_touch
  exact if_pos h
def ab_ok (a : ab_S) (t s : Int) : Prop := ab_is a t ∧ 0 ≤ s ∧ s ≤ 2 ∧ ab_tc a t.toNat s.toNat = true
def ab_okd (a : ab_S) (t : Int) : Prop := ab_is a t ∧ (ab_op a t.toNat).length ≠ 0
theorem ab_prepare_bad {a : ab_S} {t s : Int} {b : Bool} (h : ¬ ab_ok a t s) : ab_prepare a t s b = (-1, a) := by
  unfold ab_prepare
  exact if_pos h
theorem ab_prepare_ha {a : ab_S} {t s : Int} {b : Bool} (h : ab_ok a t s) (hh : ab_ha a = true) : ab_prepare a t s b = (-2, a) := by
  unfold ab_prepare
  rw [if_neg (fun z => z h)]
  exact if_pos hh
theorem ab_prepare_nl {a : ab_S} {t s : Int} {b : Bool} (h : ab_ok a t s) (hh : ab_ha a = false) (hl : ab_ld a s.toNat = 3) : ab_prepare a t s b = (-3, ab_close a t.toNat) := by
  unfold ab_prepare
  rw [if_neg (fun z => z h), if_neg (by rw [hh]; decide)]
  exact if_pos hl
theorem ab_prepare_go {a : ab_S} {t s : Int} {b : Bool} (h : ab_ok a t s) (hh : ab_ha a = false) (hl : ab_ld a s.toNat ≠ 3) (lr : Int × ab_S) (hlr : lr = if (ab_ex (ab_close a t.toNat) s.toNat (ab_ld a s.toNat)).1 t.toNat = 0 then ab_log (ab_close a t.toNat) s.toNat (0, t.toNat) else (0, ab_close a t.toNat)) :
    ab_prepare a t s b = if lr.1 ≠ 0 then lr else if b = false then (3, lr.2) else (((ab_ex lr.2 s.toNat (ab_ld a s.toNat)).1 t.toNat : Nat), ab_learn lr.2 t.toNat s.toNat (ab_ld a s.toNat)) := by
  subst hlr
  unfold ab_prepare
  rw [if_neg (fun z => z h), if_neg (by rw [hh]; decide), if_neg hl]
theorem ab_propose_nl {a : ab_S} {k t : Nat} {b : Bool} (hl : ab_ld a 3 = 3) : ab_propose a k t b = (-3, a) := by
  unfold ab_propose
  exact if_pos hl
theorem ab_propose_go {a : ab_S} {k t : Nat} {b : Bool} (hl : ab_ld a 3 ≠ 3) (lr : Int × ab_S) (hlr : lr = if ab_ds a (ab_ld a 3) t = 0 then ab_log a 3 (k, t) else (0, a)) :
    ab_propose a k t b = if lr.1 ≠ 0 then lr else if b = false then (3, lr.2) else ((ab_ds lr.2 (ab_ld a 3) t : Nat), ab_setkd lr.2 t (ab_ds lr.2 (ab_ld a 3) t)) := by
  subst hlr
  unfold ab_propose
  rw [if_neg hl]
theorem ab_decide_bad {a : ab_S} {t : Int} {b : Bool} (h : ¬ ab_okd a t) : ab_decide a t b = (-1, a) := by
  unfold ab_decide
  exact if_pos h
theorem ab_decide_ha {a : ab_S} {t : Int} {b : Bool} (h : ab_okd a t) (hh : ab_ha a = true) : ab_decide a t b = (-2, a) := by
  unfold ab_decide
  rw [if_neg (fun z => z h)]
  exact if_pos hh
theorem ab_decide_kd {a : ab_S} {t : Int} {b : Bool} (h : ab_okd a t) (hh : ab_ha a = false) (hk : ab_kd a t.toNat ≠ 0) : ab_decide a t b = (((ab_kd a t.toNat : Nat) : Int), a) := by
  unfold ab_decide
  rw [if_neg (fun z => z h), if_neg (by rw [hh]; decide)]
  exact if_pos hk
theorem ab_decide_no {a : ab_S} {t : Int} {b : Bool} (h : ab_okd a t) (hh : ab_ha a = false) (hk : ab_kd a t.toNat = 0) (hn : ab_no a t.toNat) : ab_decide a t b = ab_propose a 2 t.toNat b := by
  unfold ab_decide
  rw [if_neg (fun z => z h), if_neg (by rw [hh]; decide), if_neg (fun z => z hk)]
  exact if_pos hn
theorem ab_decide_all {a : ab_S} {t : Int} {b : Bool} (h : ab_okd a t) (hh : ab_ha a = false) (hk : ab_kd a t.toNat = 0) (hn : ¬ ab_no a t.toNat) (ha : ab_all a t.toNat) : ab_decide a t b = ab_propose a 1 t.toNat b := by
  unfold ab_decide
  rw [if_neg (fun z => z h), if_neg (by rw [hh]; decide), if_neg (fun z => z hk), if_neg hn]
  exact if_pos ha
theorem ab_decide_0 {a : ab_S} {t : Int} {b : Bool} (h : ab_okd a t) (hh : ab_ha a = false) (hk : ab_kd a t.toNat = 0) (hn : ¬ ab_no a t.toNat) (ha : ¬ ab_all a t.toNat) : ab_decide a t b = (0, a) := by
  unfold ab_decide
  rw [if_neg (fun z => z h), if_neg (by rw [hh]; decide), if_neg (fun z => z hk), if_neg hn]
  exact if_neg ha
theorem ab_timeout_bad {a : ab_S} {t : Int} {b : Bool} (h : ¬ ab_okd a t) : ab_timeout a t b = (-1, a) := by
  unfold ab_timeout
  exact if_pos h
theorem ab_timeout_ha {a : ab_S} {t : Int} {b : Bool} (h : ab_okd a t) (hh : ab_ha a = true) : ab_timeout a t b = (-2, a) := by
  unfold ab_timeout
  rw [if_neg (fun z => z h)]
  exact if_pos hh
theorem ab_timeout_kd {a : ab_S} {t : Int} {b : Bool} (h : ab_okd a t) (hh : ab_ha a = false) (hk : ab_kd a t.toNat ≠ 0) : ab_timeout a t b = (((ab_kd a t.toNat : Nat) : Int), ab_close a t.toNat) := by
  unfold ab_timeout
  rw [if_neg (fun z => z h), if_neg (by rw [hh]; decide)]
  exact if_pos hk
theorem ab_timeout_go {a : ab_S} {t : Int} {b : Bool} (h : ab_okd a t) (hh : ab_ha a = false) (hk : ab_kd a t.toNat = 0) : ab_timeout a t b = ab_propose (ab_close a t.toNat) 2 t.toNat b := by
  unfold ab_timeout
  rw [if_neg (fun z => z h), if_neg (by rw [hh]; decide)]
  exact if_neg (fun z => z hk)
theorem ab_finish_bad {a : ab_S} {t s : Int} (h : ¬ ab_ok a t s) : ab_finish a t s = (-1, a) := by
  unfold ab_finish
  exact if_pos h
theorem ab_finish_ha {a : ab_S} {t s : Int} (h : ab_ok a t s) (hh : ab_ha a = true) : ab_finish a t s = (-2, a) := by
  unfold ab_finish
  rw [if_neg (fun z => z h)]
  exact if_pos hh
theorem ab_finish_0 {a : ab_S} {t s : Int} (h : ab_ok a t s) (hh : ab_ha a = false) (hk : ab_kd a t.toNat = 0) : ab_finish a t s = (0, a) := by
  unfold ab_finish
  rw [if_neg (fun z => z h), if_neg (by rw [hh]; decide)]
  exact if_pos hk
theorem ab_finish_nl {a : ab_S} {t s : Int} (h : ab_ok a t s) (hh : ab_ha a = false) (hk : ab_kd a t.toNat ≠ 0) (hl : ab_ld a s.toNat = 3) : ab_finish a t s = (-3, a) := by
  unfold ab_finish
  rw [if_neg (fun z => z h), if_neg (by rw [hh]; decide), if_neg hk]
  exact if_pos hl
theorem ab_finish_done {a : ab_S} {t s : Int} (h : ab_ok a t s) (hh : ab_ha a = false) (hk : ab_kd a t.toNat ≠ 0) (hl : ab_ld a s.toNat ≠ 3) (hd : (ab_ex a s.toNat (ab_ld a s.toNat)).2.1 t.toNat = true) : ab_finish a t s = (1, a) := by
  unfold ab_finish
  rw [if_neg (fun z => z h), if_neg (by rw [hh]; decide), if_neg hk, if_neg hl]
  exact if_pos hd
theorem ab_finish_go {a : ab_S} {t s : Int} (h : ab_ok a t s) (hh : ab_ha a = false) (hk : ab_kd a t.toNat ≠ 0) (hl : ab_ld a s.toNat ≠ 3) (hd : (ab_ex a s.toNat (ab_ld a s.toNat)).2.1 t.toNat = false) : ab_finish a t s = if (ab_log a s.toNat (ab_kd a t.toNat, t.toNat)).1 ≠ 0 then ab_log a s.toNat (ab_kd a t.toNat, t.toNat) else (1, (ab_log a s.toNat (ab_kd a t.toNat, t.toNat)).2) := by
  unfold ab_finish
  rw [if_neg (fun z => z h), if_neg (by rw [hh]; decide), if_neg hk, if_neg hl, if_neg (by rw [hd]; decide)]
/-- the number of the opened -/
theorem xr_opn {σ : gx_M} {a : ab_S} (h : xr σ a) (n : Nat) : xr (gx_w σ 0 5 n) (ab_mk n (ab_op a) (ab_cl a) (ab_up a) (ab_vi a) (ab_lg a) (ab_dn a) (ab_ha a) (ab_kv a) (ab_kd a) (ab_rs a)) := by
  obtain ⟨x1, x2, x3, x4, x5, x6⟩ := h
  have row : ∀ n', n' ≠ 0 → gx_w σ 0 5 n n' = σ n' := fun n' q => gx_w_row _ _ _ q
  refine ⟨gx_w_self _ _ _ _, ?_, ?_, ?_, ?_, ?_⟩
  · exact xr_tx_keep x2 (fun m q => row m (by obtain ⟨q1, q2⟩ := q; omega)) rfl rfl
  · exact xr_rp_keep x3 (fun m q => row m (fun z => by obtain ⟨g, r, b1, b2, b3⟩ := fR_num q; omega)) rfl rfl rfl rfl
  · exact xr_ss_keep x4 (fun m q => row m (fun z => by obtain ⟨s', r', b1, b2, b3, b4⟩ := q; omega)) (fun s r hs hr => row _ (ap_St hs hr).2.2.2.2.2) rfl (fun _ _ _ _ => rfl)
  · exact xr_ds_keep x5 (fun m q => row m (fun z => by obtain ⟨r', b1, b2⟩ := q; omega)) (fun _ _ => rfl)
  · exact xr_co_keep x6 (fun m q => row m (by obtain ⟨q1, q2⟩ := q; omega)) rfl rfl rfl rfl
theorem xr_setha {σ : gx_M} {a : ab_S} (h : xr σ a) (b : Bool) : xr (gx_w σ 110 0 (xb (!b))) (ab_setha a b) := by
  refine xr_C h (chg_w _ _ _ ⟨by decide, by decide⟩) ?_ rfl rfl rfl rfl rfl rfl rfl
  obtain ⟨m1, m2, m3, m4⟩ := h.2.2.2.2.2
  refine ⟨gx_w_self _ _ _ _, ?_, ?_, ?_⟩
  · rw [gx_w_row _ _ _ (by decide)]; exact m2
  · rw [gx_w_row _ _ _ (by decide)]; exact m3
  · rw [gx_w_row _ _ _ (by decide)]; exact m4
theorem xr_forget {σ τ : gx_M} {a : ab_S} (h : xr σ a) (hc : chg (fun q => q = 111 ∨ q = 112) (gx_w σ 110 0 0) τ) (h1 : ∀ j, j < 63 → τ 111 j = 0) (h2 : ∀ j, j < 21 → τ 112 j = 0) : xr τ (ab_forget a) := by
  refine xr_C h (fun n q => ?_) ?_ rfl rfl rfl rfl rfl rfl rfl
  · rw [hc n (fun z => q (by rcases z with z | z <;> rw [z] <;> exact ⟨by decide, by decide⟩)), gx_w_row σ (n := 110) (m := n) _ _ (fun z => q (z ▸ ⟨by decide, by decide⟩))]
  · obtain ⟨m1, m2, m3, m4⟩ := h.2.2.2.2.2
    refine ⟨?_, fun t s ht hs => h1 _ (by omega), fun t ht => h2 t ht, ?_⟩
    · rw [hc 110 (by decide), gx_w_self]; rfl
    · rw [hc 113 (by decide), gx_w_row _ _ _ (by decide)]; exact m4
theorem xr_setkd {σ : gx_M} {a : ab_S} (h : xr σ a) {t d : Nat} (ht : t < 21) : xr (gx_w σ 112 t d) (ab_setkd a t d) := by
  refine xr_C h (chg_w _ _ _ ⟨by decide, by decide⟩) ?_ rfl rfl rfl rfl rfl rfl rfl
  obtain ⟨m1, m2, m3, m4⟩ := h.2.2.2.2.2
  refine ⟨?_, ?_, fun u hu => ?_, ?_⟩
  · rw [gx_w_row _ _ _ (by decide)]; exact m1
  · rw [gx_w_row _ _ _ (by decide)]; exact m2
  · show _ = pu_up (ab_kd a) t d u
    by_cases q : u = t
    · rw [q, gx_w_self, pu_up_self]
    · rw [gx_w_col _ _ _ q, pu_up_ne _ _ q]; exact m3 u hu
  · rw [gx_w_row _ _ _ (by decide)]; exact m4
