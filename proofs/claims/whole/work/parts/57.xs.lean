/-! one more entry executed, seen in the numbers -/
def ab_setdn (a : ab_S) (g r d : Nat) : ab_S := ab_mk (ab_n a) (ab_op a) (ab_cl a) (ab_up a) (ab_vi a) (ab_lg a) (pu_up (ab_dn a) g (pu_up (ab_dn a g) r d)) (ab_ha a) (ab_kv a) (ab_kd a) (ab_rs a)
theorem pu_up_id {α : Type} (f : Nat → α) (k : Nat) : pu_up f k (f k) = f := by
  funext j
  unfold pu_up
  split
  · rename_i h; rw [h]
  · rfl
theorem pu_up_up {α : Type} (f : Nat → α) (k : Nat) (v w : α) : pu_up (pu_up f k v) k w = pu_up f k w := by
  funext j
  unfold pu_up
  split <;> rfl
theorem ab_setdn_id (a : ab_S) (g r : Nat) : ab_setdn a g r (ab_dn a g r) = a := by
  unfold ab_setdn
  rw [pu_up_id, pu_up_id]
  rfl
theorem ab_setdn_dn (a : ab_S) (g r d : Nat) : ab_dn (ab_setdn a g r d) g r = d := by
  show pu_up (ab_dn a) g (pu_up (ab_dn a g) r d) g r = d
  rw [pu_up_self, pu_up_self]
theorem ab_setdn_ne (a : ab_S) {g r g' r' : Nat} (d : Nat) (h : ¬ (g' = g ∧ r' = r)) : ab_dn (ab_setdn a g r d) g' r' = ab_dn a g' r' := by
  show pu_up (ab_dn a) g (pu_up (ab_dn a g) r d) g' r' = ab_dn a g' r'
  by_cases q : g' = g
  · rw [q, pu_up_self, pu_up_ne _ _ (fun z => h ⟨q, z⟩)]
  · rw [pu_up_ne _ _ q]
theorem ab_setdn_two (a : ab_S) (g r d d' : Nat) : ab_setdn (ab_setdn a g r d) g r d' = ab_setdn a g r d' := by
  show ab_mk (ab_n a) (ab_op a) (ab_cl a) (ab_up a) (ab_vi a) (ab_lg a) (pu_up (pu_up (ab_dn a) g (pu_up (ab_dn a g) r d)) g (pu_up (pu_up (ab_dn a) g (pu_up (ab_dn a g) r d) g) r d')) (ab_ha a) (ab_kv a) (ab_kd a) (ab_rs a) = _
  rw [pu_up_self, pu_up_up, pu_up_up]
  rfl
/-- what a walk asks of the abstract state -/
def ab_W (a : ab_S) : Prop := ab_n a ≤ 20 ∧ (∀ t, (ab_op a t).length ≤ 4 ∧ ∀ o, o ∈ ab_op a t → o.1 < 3 ∧ o.2.1 < 12) ∧ ∀ g r, g < 4 → r < 3 → (ab_lg a g r).length ≤ 60 ∧ ab_vi a g r < 2 ^ 30 ∧ ab_dn a g r ≤ (ab_lg a g r).length ∧ ∀ e, e ∈ ab_lg a g r → 1 ≤ e.2 ∧ e.2 ≤ 20 ∧ e.1 ≤ 2
theorem ab_W_of {B : Nat} {a : ab_S} (h : ab_I B a) (hB : B < 2 ^ 30) : ab_W a := by
  obtain ⟨⟨M, C, h1⟩, h2, h3, h4, h5⟩ := h
  obtain ⟨i1, i2, i3, i4, -⟩ := h1
  refine ⟨h2, fun t => ⟨(h3 t).1, fun o ho => ⟨(h3 t).2 o ho, i3 t o ho⟩⟩, fun g r hg hr => ⟨h4 g r hg hr, by have := h5 g r hg hr; omega, ((i1 g hg).2.2.2.2.2.1 r hr).1, fun e he => ?_⟩⟩
  obtain ⟨-, a2, a3, a4, -⟩ := i4 g hg r hr e he
  exact ⟨a2, by omega, a4⟩
theorem ab_W_dn {a : ab_S} (h : ab_W a) {g r d : Nat} (hd : d ≤ (ab_lg a g r).length) : ab_W (ab_setdn a g r d) := by
  obtain ⟨h1, h2, h3⟩ := h
  refine ⟨h1, h2, fun g' r' hg hr => ?_⟩
  obtain ⟨a1, a2, a3, a4⟩ := h3 g' r' hg hr
  refine ⟨a1, a2, ?_, a4⟩
  show ab_dn (ab_setdn a g r d) g' r' ≤ (ab_lg a g' r').length
  by_cases q : g' = g ∧ r' = r
  · rw [q.1, q.2, ab_setdn_dn]; exact hd
  · rw [ab_setdn_ne a d q]; exact a3
theorem xr_tx_ok {σ : gx_M} {a : ab_S} (h : xr_tx σ a) (hw : ab_W a) {t : Nat} (ht : t < 21) : tx_ok σ (ab_op a) t := by
  obtain ⟨h1, h2, h3, h4⟩ := h t ht
  exact ⟨h1, (hw.2.1 t).1, h3, (hw.2.1 t).2, h4⟩
theorem ab_take {a : ab_S} {g r : Nat} {e : pu_En} (he : (ab_lg a g r)[ab_dn a g r]? = some e) : (ab_lg a g r).take (ab_dn a g r + 1) = (ab_lg a g r).take (ab_dn a g r) ++ [e] := pu_take_succ he
theorem xs_step {σ τ : gx_M} {a : ab_S} (h : xr σ a) {sh ri : Nat} (h0 : sh < 3) (h1 : ri < 3) {e : pu_En} (he : (ab_lg a sh ri)[ab_dn a sh ri]? = some e) (hT : pT (ab_op a) sh ri (pu_step (ab_op a) sh (ab_ex a sh ri) e) τ) (hc : chg (sF sh ri) σ τ) :
    xr (gx_w τ (nRp sh ri) 5 (ab_dn a sh ri + 1)) (ab_setdn a sh ri (ab_dn a sh ri + 1)) := by
  obtain ⟨x1, x2, x3, x4, x5, x6⟩ := h
  have fs : ∀ {n}, ¬ fS n → τ n = σ n := fun {n} q => hc n (fun z => q ⟨sh, ri, h0, h1, z.1, z.2⟩)
  have fr : fR (nRp sh ri) := ⟨sh, ri, by omega, h1, Or.inl rfl⟩
  have row : ∀ {n}, n ≠ nRp sh ri → ¬ fS n → gx_w τ (nRp sh ri) 5 (ab_dn a sh ri + 1) n = σ n := fun {n} q1 q2 => by rw [gx_w_row _ _ _ q1, fs q2]
  refine ⟨?_, ?_, ?_, ?_, ?_, ?_⟩
  · rw [row (fun z => by obtain ⟨g, r, b1, b2, b3⟩ := fR_num (z ▸ fr); omega) (fun z => by obtain ⟨s', r', b1, b2, b3, b4⟩ := z; omega)]
    exact x1
  · exact xr_tx_keep x2 (fun n q => row (fun z => ap_TR q (z ▸ fr)) (fun z => ap_TS q z)) rfl rfl
  · intro g r hg hr
    obtain ⟨y1, y2, y3, y4, y5⟩ := x3 g r hg hr
    have nl : nLg g r ≠ nRp sh ri := (nRp_Lg (by omega) h1 hg hr).symm
    have lS : ¬ fS (nLg g r) := fun z => ap_RS ⟨g, r, hg, hr, Or.inr rfl⟩ z
    have rS : ¬ fS (nRp g r) := fun z => ap_RS ⟨g, r, hg, hr, Or.inl rfl⟩ z
    by_cases q : g = sh ∧ r = ri
    · obtain ⟨rfl, rfl⟩ := q
      rw [gx_w_col _ _ _ (show (2 : Nat) ≠ 5 by decide), gx_w_col _ _ _ (show (3 : Nat) ≠ 5 by decide), gx_w_col _ _ _ (show (4 : Nat) ≠ 5 by decide), gx_w_self, fs rS, row nl lS, ab_setdn_dn]
      exact ⟨y1, y2, y3, rfl, y5⟩
    · have nr : nRp g r ≠ nRp sh ri := fun z => q (nRp_inj hg hr (by omega) h1 z)
      rw [row nr rS, row nl lS, ab_setdn_ne a _ q]
      exact ⟨y1, y2, y3, y4, y5⟩
  · intro s r hs hr
    have nst : nSt s r ≠ nRp sh ri := fun z => (ap_St hs hr).2.1 (z ▸ fr)
    obtain ⟨y1, y2⟩ := x4 s r hs hr
    rw [row nst (ap_St hs hr).2.2.1]
    refine ⟨y1, ?_⟩
    have ne : ∀ {n}, fS n → n ≠ nRp sh ri := fun {n} q z => ap_RS fr (z ▸ q)
    have in7 : ∀ {n}, 116 + 32 * s + 10 * r ≤ n → n ≤ 122 + 32 * s + 10 * r → gx_w τ (nRp sh ri) 5 (ab_dn a sh ri + 1) n = τ n := fun {n} q1 q2 => gx_w_row _ _ _ (ne ⟨s, r, hs, hr, q1, q2⟩)
    rw [in7 (n := nSv s r) (by unfold nSv; omega) (by unfold nSv; omega), in7 (n := nSa s r) (by unfold nSa; omega) (by unfold nSa; omega), in7 (n := nSh s r) (by unfold nSh; omega) (by unfold nSh; omega), in7 (n := nSo s r) (by unfold nSo; omega) (by unfold nSo; omega), in7 (n := nSf s r) (by unfold nSf; omega) (by unfold nSf; omega), in7 (n := nSn s r) (by unfold nSn; omega) (by unfold nSn; omega)]
    by_cases q : s = sh ∧ r = ri
    · obtain ⟨rfl, rfl⟩ := q
      have : ab_ex (ab_setdn a s r (ab_dn a s r + 1)) s r = pu_step (ab_op a) s (ab_ex a s r) e := by
        unfold ab_ex
        rw [ab_setdn_dn]
        show pu_ex (ab_op a) s ((ab_lg a s r).take (ab_dn a s r + 1)) = _
        rw [ab_take he, pu_ex_snoc]
      rw [this]
      exact hT
    · have : ab_ex (ab_setdn a sh ri (ab_dn a sh ri + 1)) s r = ab_ex a s r := by
        unfold ab_ex
        rw [ab_setdn_ne a _ q]
        rfl
      rw [this]
      have c7 : ∀ {n}, 116 + 32 * s + 10 * r ≤ n → n ≤ 122 + 32 * s + 10 * r → τ n = σ n := fun {n} q1 q2 => hc n (fun z => by
        apply q
        obtain ⟨z1, z2⟩ := z
        rcases (show s = 0 ∨ s = 1 ∨ s = 2 by omega) with rfl | rfl | rfl <;> rcases (show sh = 0 ∨ sh = 1 ∨ sh = 2 by omega) with rfl | rfl | rfl <;> omega)
      rw [c7 (n := nSv s r) (by unfold nSv; omega) (by unfold nSv; omega), c7 (n := nSa s r) (by unfold nSa; omega) (by unfold nSa; omega), c7 (n := nSh s r) (by unfold nSh; omega) (by unfold nSh; omega), c7 (n := nSo s r) (by unfold nSo; omega) (by unfold nSo; omega), c7 (n := nSf s r) (by unfold nSf; omega) (by unfold nSf; omega), c7 (n := nSn s r) (by unfold nSn; omega) (by unfold nSn; omega)]
      exact y2
  · refine xr_ds_keep x5 (fun n q => row (fun z => ap_RD fr (z ▸ q)) (fun z => ap_SD z q)) (fun r hr => ?_)
    unfold ab_ds
    rw [ab_setdn_ne a _ (by omega)]
    rfl
  · exact xr_co_keep x6 (fun n q => row (fun z => ap_RC fr (z ▸ q)) (fun z => ap_SC z q)) rfl rfl rfl rfl
theorem xd_step {σ : gx_M} {a : ab_S} (h : xr σ a) {ri : Nat} (h1 : ri < 3) {e : pu_En} (he : (ab_lg a 3 ri)[ab_dn a 3 ri]? = some e) :
    xr (gx_w (if σ (nDd ri) e.2 = 0 then gx_w σ (nDd ri) e.2 e.1 else σ) (nRp 3 ri) 5 (ab_dn a 3 ri + 1)) (ab_setdn a 3 ri (ab_dn a 3 ri + 1)) ∨ 21 ≤ e.2 := by
  by_cases hbig : 21 ≤ e.2
  · exact Or.inr hbig
  left
  obtain ⟨x1, x2, x3, x4, x5, x6⟩ := h
  generalize hτ : (if σ (nDd ri) e.2 = 0 then gx_w σ (nDd ri) e.2 e.1 else σ) = τ
  have fd : fD (nDd ri) := ⟨ri, h1, rfl⟩
  have fs : ∀ {n}, n ≠ nDd ri → τ n = σ n := fun {n} q => by
    rw [← hτ]
    split
    · exact gx_w_row _ _ _ q
    · rfl
  have fr : fR (nRp 3 ri) := ⟨3, ri, by decide, h1, Or.inl rfl⟩
  have row : ∀ {n}, n ≠ nRp 3 ri → n ≠ nDd ri → gx_w τ (nRp 3 ri) 5 (ab_dn a 3 ri + 1) n = σ n := fun {n} q1 q2 => by rw [gx_w_row _ _ _ q1, fs q2]
  refine ⟨?_, ?_, ?_, ?_, ?_, ?_⟩
  · rw [row (fun z => by obtain ⟨g, r, b1, b2, b3⟩ := fR_num (z ▸ fr); omega) (fun z => by unfold nDd at z; omega)]
    exact x1
  · exact xr_tx_keep x2 (fun n q => row (fun z => ap_TR q (z ▸ fr)) (fun z => ap_TD q (z ▸ fd))) rfl rfl
  · intro g r hg hr
    obtain ⟨y1, y2, y3, y4, y5⟩ := x3 g r hg hr
    have nl : nLg g r ≠ nRp 3 ri := (nRp_Lg (by omega) h1 hg hr).symm
    have lS : nLg g r ≠ nDd ri := fun z => ap_RD ⟨g, r, hg, hr, Or.inr rfl⟩ (z ▸ fd)
    have rS : nRp g r ≠ nDd ri := fun z => ap_RD ⟨g, r, hg, hr, Or.inl rfl⟩ (z ▸ fd)
    by_cases q : g = 3 ∧ r = ri
    · obtain ⟨rfl, rfl⟩ := q
      rw [gx_w_col _ _ _ (show (2 : Nat) ≠ 5 by decide), gx_w_col _ _ _ (show (3 : Nat) ≠ 5 by decide), gx_w_col _ _ _ (show (4 : Nat) ≠ 5 by decide), gx_w_self, fs rS, row nl lS, ab_setdn_dn]
      exact ⟨y1, y2, y3, rfl, y5⟩
    · have nr : nRp g r ≠ nRp 3 ri := fun z => q (nRp_inj hg hr (by omega) h1 z)
      rw [row nr rS, row nl lS, ab_setdn_ne a _ q]
      exact ⟨y1, y2, y3, y4, y5⟩
  · refine xr_ss_keep x4 (fun n q => row (fun z => ap_RS fr (z ▸ q)) (fun z => ap_SD q (z ▸ fd))) (fun s r hs hr => row (fun z => (ap_St hs hr).2.1 (z ▸ fr)) (fun z => (ap_St hs hr).2.2.2.1 (z ▸ fd))) rfl (fun s r hs hr => ?_)
    unfold ab_ex
    rw [ab_setdn_ne a _ (by omega)]
    rfl
  · intro r hr t ht
    have nr : nDd r ≠ nRp 3 ri := fun z => ap_RD fr (z ▸ ⟨r, hr, rfl⟩)
    rw [gx_w_row _ _ _ nr]
    by_cases q : r = ri
    · subst q
      have : ab_ds (ab_setdn a 3 r (ab_dn a 3 r + 1)) r = if ab_ds a r e.2 = 0 then pu_up (ab_ds a r) e.2 e.1 else ab_ds a r := by
        unfold ab_ds
        rw [ab_setdn_dn]
        show pu_ds ((ab_lg a 3 r).take (ab_dn a 3 r + 1)) = _
        rw [ab_take he, pu_ds_snoc]
      rw [this, ← hτ, x5 r hr e.2 (by omega)]
      by_cases z : ab_ds a r e.2 = 0
      · rw [if_pos z, if_pos z]
        by_cases y : t = e.2
        · rw [y, gx_w_self, pu_up_self]
        · rw [gx_w_col _ _ _ y, pu_up_ne _ _ y]; exact x5 r hr t ht
      · rw [if_neg z, if_neg z]; exact x5 r hr t ht
    · have : ab_ds (ab_setdn a 3 ri (ab_dn a 3 ri + 1)) r = ab_ds a r := by
        unfold ab_ds
        rw [ab_setdn_ne a _ (fun z => q z.2)]
        rfl
      rw [this, fs (fun z => q (by unfold nDd at z; omega))]
      exact x5 r hr t ht
  · exact xr_co_keep x6 (fun n q => row (fun z => ap_RC fr (z ▸ q)) (fun z => ap_DC fd (z ▸ q))) rfl rfl rfl rfl
