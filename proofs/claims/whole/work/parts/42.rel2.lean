/-! which rows a write leaves -/
def fT (n : Nat) : Prop := 2 ≤ n ∧ n < 107
def fC (n : Nat) : Prop := 110 ≤ n ∧ n ≤ 113
def fR (n : Nat) : Prop := ∃ g r, g < 4 ∧ r < 3 ∧ (n = nRp g r ∨ n = nLg g r)
def fS (n : Nat) : Prop := ∃ s r, s < 3 ∧ r < 3 ∧ 116 + 32 * s + 10 * r ≤ n ∧ n ≤ 122 + 32 * s + 10 * r
def fD (n : Nat) : Prop := ∃ r, r < 3 ∧ n = 212 + 4 * r
theorem fR_num {n : Nat} (h : fR n) : ∃ g r, g < 4 ∧ r < 3 ∧ ((g < 3 ∧ (n = 123 + 32 * g + 10 * r ∨ n = 124 + 32 * g + 10 * r)) ∨ (g = 3 ∧ (n = 213 + 4 * r ∨ n = 214 + 4 * r))) := by
  obtain ⟨g, r, hg, hr, h⟩ := h
  refine ⟨g, r, hg, hr, ?_⟩
  unfold nRp nLg at h
  by_cases q : g = 3
  · rw [if_pos q, if_pos q] at h; exact Or.inr ⟨q, h⟩
  · rw [if_neg q, if_neg q] at h; exact Or.inl ⟨by omega, h⟩
/-- only rows of a kind have changed -/
def chg (F : Nat → Prop) (σ τ : gx_M) : Prop := ∀ n, ¬ F n → τ n = σ n
theorem chg_rfl (F : Nat → Prop) (σ : gx_M) : chg F σ σ := fun _ _ => rfl
theorem chg_trans {F : Nat → Prop} {σ τ υ : gx_M} (h1 : chg F σ τ) (h2 : chg F τ υ) : chg F σ υ := fun n h => (h2 n h).trans (h1 n h)
theorem chg_mono {F G : Nat → Prop} {σ τ : gx_M} (h : chg F σ τ) (hFG : ∀ n, F n → G n) : chg G σ τ := fun n q => h n (fun z => q (hFG n z))
theorem chg_w {F : Nat → Prop} (σ : gx_M) {n : Nat} (k v : Nat) (h : F n) : chg F σ (gx_w σ n k v) := fun m q => gx_w_row σ k v (fun e => q (e ▸ h))
theorem xr_tx_keep {σ τ : gx_M} {a a' : ab_S} (h : xr_tx σ a) (hs : ∀ n, fT n → τ n = σ n) (e1 : ab_op a' = ab_op a) (e2 : ab_cl a' = ab_cl a) : xr_tx τ a' := by
  intro t ht
  rw [hs (nTx t) ⟨by unfold nTx; omega, by unfold nTx; omega⟩, hs (nTk t) ⟨by unfold nTk; omega, by unfold nTk; omega⟩, hs (nTy t) ⟨by unfold nTy; omega, by unfold nTy; omega⟩, hs (nTa t) ⟨by unfold nTa; omega, by unfold nTa; omega⟩, hs (nTn t) ⟨by unfold nTn; omega, by unfold nTn; omega⟩, e1, e2]
  exact h t ht
theorem xr_rp_keep {σ τ : gx_M} {a a' : ab_S} (h : xr_rp σ a) (hs : ∀ n, fR n → τ n = σ n) (e1 : ab_up a' = ab_up a) (e2 : ab_vi a' = ab_vi a) (e3 : ab_lg a' = ab_lg a) (e4 : ab_dn a' = ab_dn a) : xr_rp τ a' := by
  intro g r hg hr
  rw [hs (nRp g r) ⟨g, r, hg, hr, Or.inl rfl⟩, hs (nLg g r) ⟨g, r, hg, hr, Or.inr rfl⟩, e1, e2, e3, e4]
  exact h g r hg hr
theorem xr_ss_keep {σ τ : gx_M} {a a' : ab_S} (h : xr_ss σ a) (hs : ∀ n, fS n → τ n = σ n) (hs2 : ∀ s r, s < 3 → r < 3 → τ (nSt s r) = σ (nSt s r)) (e1 : ab_op a' = ab_op a) (e2 : ∀ s r, s < 3 → r < 3 → ab_ex a' s r = ab_ex a s r) : xr_ss τ a' := by
  intro s r h1 h2
  have w : ∀ n, 116 + 32 * s + 10 * r ≤ n → n ≤ 122 + 32 * s + 10 * r → τ n = σ n := fun n q1 q2 => hs n ⟨s, r, h1, h2, q1, q2⟩
  rw [hs2 s r h1 h2, w (nSv s r) (by unfold nSv; omega) (by unfold nSv; omega), w (nSa s r) (by unfold nSa; omega) (by unfold nSa; omega), w (nSh s r) (by unfold nSh; omega) (by unfold nSh; omega), w (nSo s r) (by unfold nSo; omega) (by unfold nSo; omega), w (nSf s r) (by unfold nSf; omega) (by unfold nSf; omega), w (nSn s r) (by unfold nSn; omega) (by unfold nSn; omega), e1, e2 s r h1 h2]
  exact h s r h1 h2
theorem xr_ds_keep {σ τ : gx_M} {a a' : ab_S} (h : xr_ds σ a) (hs : ∀ n, fD n → τ n = σ n) (e : ∀ r, r < 3 → ab_ds a' r = ab_ds a r) : xr_ds τ a' := by
  intro r hr
  rw [hs (nDd r) ⟨r, hr, rfl⟩, e r hr]
  exact h r hr
theorem xr_co_keep {σ τ : gx_M} {a a' : ab_S} (h : xr_co σ a) (hs : ∀ n, fC n → τ n = σ n) (e1 : ab_ha a' = ab_ha a) (e2 : ab_kv a' = ab_kv a) (e3 : ab_kd a' = ab_kd a) (e4 : ab_rs a' = ab_rs a) : xr_co τ a' := by
  unfold xr_co
  rw [hs 110 ⟨by decide, by decide⟩, hs 111 ⟨by decide, by decide⟩, hs 112 ⟨by decide, by decide⟩, hs 113 ⟨by decide, by decide⟩, e1, e2, e3, e4]
  exact h
theorem nSt_num {s r : Nat} (hs : s < 3) : nSt s r = 115 + 32 * s + 10 * r := by
  unfold nSt
  rw [if_neg (by omega)]
/-- the kinds are apart -/
theorem ap_TR {n : Nat} (h : fT n) (q : fR n) : False := by
  obtain ⟨h1, h2⟩ := h
  obtain ⟨g, r, a1, a2, a3⟩ := fR_num q
  omega
theorem ap_TS {n : Nat} (h : fT n) (q : fS n) : False := by
  obtain ⟨h1, h2⟩ := h
  obtain ⟨s, r, a1, a2, a3, a4⟩ := q
  omega
theorem ap_TD {n : Nat} (h : fT n) (q : fD n) : False := by
  obtain ⟨h1, h2⟩ := h
  obtain ⟨r, a1, a2⟩ := q
  omega
theorem ap_TC {n : Nat} (h : fT n) (q : fC n) : False := by
  obtain ⟨h1, h2⟩ := h
  obtain ⟨a1, a2⟩ := q
  omega
theorem ap_RS {n : Nat} (h : fR n) (q : fS n) : False := by
  obtain ⟨g, r, b1, b2, b3⟩ := fR_num h
  obtain ⟨s, r', a1, a2, a3, a4⟩ := q
  rcases (show s = 0 ∨ s = 1 ∨ s = 2 by omega) with rfl | rfl | rfl <;> rcases (show r' = 0 ∨ r' = 1 ∨ r' = 2 by omega) with rfl | rfl | rfl <;> rcases (show r = 0 ∨ r = 1 ∨ r = 2 by omega) with rfl | rfl | rfl <;> rcases (show g = 0 ∨ g = 1 ∨ g = 2 ∨ g = 3 by omega) with rfl | rfl | rfl | rfl <;> omega
theorem ap_RD {n : Nat} (h : fR n) (q : fD n) : False := by
  obtain ⟨g, r, b1, b2, b3⟩ := fR_num h
  obtain ⟨r', a1, a2⟩ := q
  omega
theorem ap_RC {n : Nat} (h : fR n) (q : fC n) : False := by
  obtain ⟨g, r, b1, b2, b3⟩ := fR_num h
  obtain ⟨a1, a2⟩ := q
  omega
theorem ap_SD {n : Nat} (h : fS n) (q : fD n) : False := by
  obtain ⟨s, r', a1, a2, a3, a4⟩ := h
  obtain ⟨r, b1, b2⟩ := q
  omega
theorem ap_SC {n : Nat} (h : fS n) (q : fC n) : False := by
  obtain ⟨s, r', a1, a2, a3, a4⟩ := h
  obtain ⟨b1, b2⟩ := q
  omega
theorem ap_DC {n : Nat} (h : fD n) (q : fC n) : False := by
  obtain ⟨r, b1, b2⟩ := h
  obtain ⟨a1, a2⟩ := q
  omega
theorem ap_St {s r : Nat} (hs : s < 3) (hr : r < 3) : ¬ fT (nSt s r) ∧ ¬ fR (nSt s r) ∧ ¬ fS (nSt s r) ∧ ¬ fD (nSt s r) ∧ ¬ fC (nSt s r) ∧ nSt s r ≠ 0 := by
  rw [nSt_num hs]
  refine ⟨?_, ?_, ?_, ?_, ?_, by omega⟩
  · rintro ⟨h1, h2⟩; omega
  · intro q
    obtain ⟨g, r', b1, b2, b3⟩ := fR_num q
    omega
  · rintro ⟨s', r', a1, a2, a3, a4⟩
    rcases (show s' = 0 ∨ s' = 1 ∨ s' = 2 by omega) with rfl | rfl | rfl <;> rcases (show r' = 0 ∨ r' = 1 ∨ r' = 2 by omega) with rfl | rfl | rfl <;> rcases (show r = 0 ∨ r = 1 ∨ r = 2 by omega) with rfl | rfl | rfl <;> rcases (show s = 0 ∨ s = 1 ∨ s = 2 by omega) with rfl | rfl | rfl <;> omega
  · rintro ⟨r', a1, a2⟩; omega
  · rintro ⟨a1, a2⟩; omega
/-- the replica's rows are apart -/
theorem nRp_inj {g r g' r' : Nat} (h1 : g < 4) (h2 : r < 3) (h3 : g' < 4) (h4 : r' < 3) (h : nRp g r = nRp g' r') : g = g' ∧ r = r' := by
  unfold nRp at h
  split at h <;> split at h <;> omega
theorem nLg_inj {g r g' r' : Nat} (h1 : g < 4) (h2 : r < 3) (h3 : g' < 4) (h4 : r' < 3) (h : nLg g r = nLg g' r') : g = g' ∧ r = r' := by
  unfold nLg at h
  split at h <;> split at h <;> omega
theorem nRp_Lg {g r g' r' : Nat} (h1 : g < 4) (h2 : r < 3) (h3 : g' < 4) (h4 : r' < 3) : nRp g r ≠ nLg g' r' := by
  intro h
  unfold nRp nLg at h
  split at h <;> split at h <;> omega
/-- a change of replicas' rows alone -/
theorem xr_R {σ τ : gx_M} {a a' : ab_S} (h : xr σ a) (hc : chg fR σ τ) (hr : xr_rp τ a') (e0 : ab_n a' = ab_n a) (e1 : ab_op a' = ab_op a) (e2 : ab_cl a' = ab_cl a) (e3 : ∀ s r, s < 3 → r < 3 → ab_ex a' s r = ab_ex a s r) (e4 : ∀ r, r < 3 → ab_ds a' r = ab_ds a r) (e5 : ab_ha a' = ab_ha a) (e6 : ab_kv a' = ab_kv a) (e7 : ab_kd a' = ab_kd a) (e8 : ab_rs a' = ab_rs a) : xr τ a' := by
  obtain ⟨h1, h2, h3, h4, h5, h6⟩ := h
  refine ⟨?_, xr_tx_keep h2 (fun n q => hc n (fun z => ap_TR q z)) e1 e2, hr, xr_ss_keep h4 (fun n q => hc n (fun z => ap_RS z q)) (fun s r hs hr => hc _ (ap_St hs hr).2.1) e1 e3, xr_ds_keep h5 (fun n q => hc n (fun z => ap_RD z q)) e4, xr_co_keep h6 (fun n q => hc n (fun z => ap_RC z q)) e5 e6 e7 e8⟩
  rw [e0, hc 0 (fun z => by obtain ⟨g, r, b1, b2, b3⟩ := fR_num z; omega)]
  exact h1
theorem xr_C {σ τ : gx_M} {a a' : ab_S} (h : xr σ a) (hc : chg fC σ τ) (hr : xr_co τ a') (e0 : ab_n a' = ab_n a) (e1 : ab_op a' = ab_op a) (e2 : ab_cl a' = ab_cl a) (e3 : ab_up a' = ab_up a) (e4 : ab_vi a' = ab_vi a) (e5 : ab_lg a' = ab_lg a) (e6 : ab_dn a' = ab_dn a) : xr τ a' := by
  obtain ⟨h1, h2, h3, h4, h5, h6⟩ := h
  refine ⟨?_, xr_tx_keep h2 (fun n q => hc n (fun z => ap_TC q z)) e1 e2, xr_rp_keep h3 (fun n q => hc n (fun z => ap_RC q z)) e3 e4 e5 e6, xr_ss_keep h4 (fun n q => hc n (fun z => ap_SC q z)) (fun s r hs hr => hc _ (ap_St hs hr).2.2.2.2.1) e1 (fun s r _ _ => by unfold ab_ex; rw [e1, e5, e6]), xr_ds_keep h5 (fun n q => hc n (fun z => ap_DC q z)) (fun r _ => by unfold ab_ds; rw [e5, e6]), hr⟩
  rw [e0, hc 0 (fun z => by obtain ⟨a1, a2⟩ := z; omega)]
  exact h1
/-- a change of transactions' rows alone, where no execution sees it -/
theorem xr_T {σ τ : gx_M} {a a' : ab_S} (h : xr σ a) (hc : chg fT σ τ) (ht : xr_tx τ a') (hss : xr_ss σ a') (e0 : ab_n a' = ab_n a) (e3 : ab_up a' = ab_up a) (e4 : ab_vi a' = ab_vi a) (e5 : ab_lg a' = ab_lg a) (e6 : ab_dn a' = ab_dn a) (e7 : ab_ha a' = ab_ha a) (e8 : ab_kv a' = ab_kv a) (e9 : ab_kd a' = ab_kd a) (e10 : ab_rs a' = ab_rs a) : xr τ a' := by
  obtain ⟨h1, h2, h3, h4, h5, h6⟩ := h
  refine ⟨?_, ht, xr_rp_keep h3 (fun n q => hc n (fun z => ap_TR z q)) e3 e4 e5 e6, xr_ss_keep hss (fun n q => hc n (fun z => ap_TS z q)) (fun s r hs hr => hc _ (ap_St hs hr).1) rfl (fun _ _ _ _ => rfl), xr_ds_keep h5 (fun n q => hc n (fun z => ap_TD z q)) (fun r _ => by unfold ab_ds; rw [e5, e6]), xr_co_keep h6 (fun n q => hc n (fun z => ap_TC z q)) e7 e8 e9 e10⟩
  rw [e0, hc 0 (fun z => by obtain ⟨a1, a2⟩ := z; omega)]
  exact h1
