/-! the reference, seen in the numbers -/
section GR
variable {p : Program} {l : Launch} {e : Env} {R : Room} {s : State} {m : MethodId} {args : Array Value} {below : List Frame} {meth : Method} {c : Code} {H : Heap} {locs : List Loc} {cells slots : Nat} {Q : State → Prop}
variable {cc : ByteArray} {pc : Nat} {ls : Array Slot} {rest st0 : List Value} {A : Nat → Prop} {H0 : Heap} {dC : Nat → ClassId} {dI : Nat → Nat → Nat} {cx : Nat → ClassId} {ad : Nat → Nat} {σ : gx_M} {own : String} {nL : Nat}
theorem gx_if_gt (hexec : p.tables.exec = Jvm.exec) (hb : c.code = cc) {x : Nat} {off : Int} {tgt : Nat} (hdg : decode cc pc = .ok (.ifCond .gt off, 3)) (ht : (pc : Int) + off = (tgt : Int)) (hx : x < 2 ^ 31)
    (kt : 0 < x → W p l e R s m args below meth c H locs cells slots Q (F0 m tgt ls rest)) (kf : x = 0 → W p l e R s m args below meth c H locs cells slots Q (F0 m (pc + 3) ls rest)) : W p l e R s m args below meth c H locs cells slots Q (F0 m pc ls (.int (nI x) :: rest)) := by
  have h0 : (0 : Int32) < nI x ↔ 0 < x := by rw [← nI_0]; exact nI_ltI (by decide) hx
  exact lv_if_gt hexec hb hdg ht (fun h => kt (h0.mp h)) (fun h => kf (by have := mt h0.mpr h; omega))
end GR
theorem gi_ge0 {n : Nat} (h : n < 2 ^ 31) : ¬ nI n < 0 := nI_pos h
/-- entries name transactions that exist; decisions are no prepares -/
def ab_V (a : ab_S) : Prop := ∀ g r, g < 4 → r < 3 → ∀ e, e ∈ ab_lg a g r → 1 ≤ e.2 ∧ e.2 ≤ ab_n a ∧ (g = 3 → e.1 ≠ 0)
theorem ab_V_of {B : Nat} {a : ab_S} (h : ab_I B a) : ab_V a := by
  obtain ⟨⟨M, C, h1⟩, -⟩ := h
  intro g r hg hr e he
  obtain ⟨-, a2, a3, -, a5⟩ := h1.2.2.2.1 g hg r hr e he
  exact ⟨a2, a3, a5⟩
/-- what the reference's scratch cells may change -/
def mC (σ τ : gx_M) : Prop := (∀ n, n ≠ 224 → ¬ (237 ≤ n ∧ n ≤ 240) → τ n = σ n) ∧ ∀ k, k ≠ 18 → τ 224 k = σ 224 k
theorem mC_rfl (σ : gx_M) : mC σ σ := ⟨fun _ _ _ => rfl, fun _ _ => rfl⟩
theorem mC_trans {σ τ υ : gx_M} (h1 : mC σ τ) (h2 : mC τ υ) : mC σ υ := ⟨fun n a b => (h2.1 n a b).trans (h1.1 n a b), fun k a => (h2.2 k a).trans (h1.2 k a)⟩
theorem mC_lo {σ τ : gx_M} (h : mC σ τ) : ∀ n, n < 224 → τ n = σ n := fun n q => h.1 n (by omega) (by omega)
theorem mr_mC {σ τ : gx_M} {a : ab_S} (h : mr σ a) (hc : mC σ τ) : mr τ a := by
  obtain ⟨h1, h2, h3, h4⟩ := h
  have he : ∀ n, 225 ≤ n → n < 237 → τ n = σ n := fun n p q => hc.1 n (by omega) (by omega)
  refine ⟨by rw [hc.2 0 (by decide)]; exact h1, ?_, ?_, ?_⟩
  · intro t ht
    rw [he 225 (by decide) (by decide), he 226 (by decide) (by decide), he 227 (by decide) (by decide), he 228 (by decide) (by decide), he 229 (by decide) (by decide)]
    exact h2 t ht
  · intro g r hg hr
    rw [he 230 (by decide) (by decide), he 231 (by decide) (by decide), he 232 (by decide) (by decide), he 233 (by decide) (by decide), he 234 (by decide) (by decide)]
    exact h3 g r hg hr
  · obtain ⟨a1, a2, a3⟩ := h4
    refine ⟨?_, ?_, ?_⟩
    · rw [hc.2 11 (by decide)]; exact a1
    · rw [he 235 (by decide) (by decide)]; exact a2
    · rw [he 236 (by decide) (by decide)]; exact a3
theorem mC_w {σ : gx_M} {n k v : Nat} (h : (237 ≤ n ∧ n ≤ 240) ∨ (n = 224 ∧ k = 18)) : mC σ (gx_w σ n k v) := by
  constructor
  · intro m h1 h2
    exact gx_w_row _ _ _ (by omega)
  · intro j hj
    rcases h with h | ⟨rfl, rfl⟩
    · rw [gx_w_row _ _ _ (by omega)]
    · exact gx_w_col _ _ _ hj
/-- the scratch cells say a shard's state -/
def mS (σ : gx_M) (S : pu_S) : Prop := (∀ t, t < 21 → σ 237 t = S.1 t ∧ σ 238 t = xb (S.2.1 t)) ∧ ∀ k, k < 12 → σ 240 k = S.2.2.1 k
theorem mr_opn {σ : gx_M} {a : ab_S} (h : mr σ a) (n : Nat) : mr (gx_w σ 224 0 n) (ab_mk n (ab_op a) (ab_cl a) (ab_up a) (ab_vi a) (ab_lg a) (ab_dn a) (ab_ha a) (ab_kv a) (ab_kd a) (ab_rs a)) := by
  obtain ⟨h1, h2, h3, h4⟩ := h
  have he : ∀ m, 225 ≤ m → gx_w σ 224 0 n m = σ m := fun m q => gx_w_row _ _ _ (by omega)
  refine ⟨gx_w_self _ _ _ _, ?_, ?_, ?_⟩
  · intro t ht
    rw [he 225 (by decide), he 226 (by decide), he 227 (by decide), he 228 (by decide), he 229 (by decide)]
    exact h2 t ht
  · intro g r hg hr
    rw [he 230 (by decide), he 231 (by decide), he 232 (by decide), he 233 (by decide), he 234 (by decide)]
    exact h3 g r hg hr
  · obtain ⟨a1, a2, a3⟩ := h4
    refine ⟨?_, ?_, ?_⟩
    · rw [gx_w_col _ _ _ (by decide)]; exact a1
    · rw [he 235 (by decide)]; exact a2
    · rw [he 236 (by decide)]; exact a3
/-- a change of rows 225 to 229 -/
theorem mr_T {σ τ : gx_M} {a b : ab_S} (h : mr σ a) (hc : ∀ n, n < 225 ∨ 229 < n → τ n = σ n) (ht : mr_op τ b) (e0 : ab_n b = ab_n a) (e3 : ab_up b = ab_up a) (e4 : ab_vi b = ab_vi a) (e5 : ab_lg b = ab_lg a) (e6 : ab_dn b = ab_dn a) (e7 : ab_ha b = ab_ha a) (e8 : ab_kv b = ab_kv a) (e9 : ab_kd b = ab_kd a) : mr τ b := by
  obtain ⟨h1, h2, h3, h4⟩ := h
  refine ⟨by rw [hc 224 (by decide), e0]; exact h1, ht, ?_, ?_⟩
  · intro g r hg hr
    rw [hc 230 (by decide), hc 231 (by decide), hc 232 (by decide), hc 233 (by decide), hc 234 (by decide), e3, e4, e5, e6]
    exact h3 g r hg hr
  · unfold mr_co
    rw [hc 224 (by decide), hc 235 (by decide), hc 236 (by decide), e7, e8, e9]
    exact h4
/-- a change of rows 235, 236 and of the halted flag -/
theorem mr_K {σ τ : gx_M} {a b : ab_S} (h : mr σ a) (hc : ∀ n, n ≠ 224 → n ≠ 235 → n ≠ 236 → τ n = σ n) (h0 : τ 224 0 = σ 224 0) (ht : mr_co τ b) (e0 : ab_n b = ab_n a) (e1 : ab_op b = ab_op a) (e2 : ab_cl b = ab_cl a) (e3 : ab_up b = ab_up a) (e4 : ab_vi b = ab_vi a) (e5 : ab_lg b = ab_lg a) (e6 : ab_dn b = ab_dn a) : mr τ b := by
  obtain ⟨h1, h2, h3, h4⟩ := h
  refine ⟨by rw [h0, e0]; exact h1, ?_, ?_, ht⟩
  · intro t q
    rw [hc 225 (by decide) (by decide) (by decide), hc 226 (by decide) (by decide) (by decide), hc 227 (by decide) (by decide) (by decide), hc 228 (by decide) (by decide) (by decide), hc 229 (by decide) (by decide) (by decide), e1, e2]
    exact h2 t q
  · intro g r hg hr
    rw [hc 230 (by decide) (by decide) (by decide), hc 231 (by decide) (by decide) (by decide), hc 232 (by decide) (by decide) (by decide), hc 233 (by decide) (by decide) (by decide), hc 234 (by decide) (by decide) (by decide), e3, e4, e5, e6]
    exact h3 g r hg hr
theorem mr_close {σ : gx_M} {a : ab_S} (h : mr σ a) {t : Nat} : mr (gx_w σ 226 t 1) (ab_close a t) := by
  refine mr_T h (fun n q => gx_w_row _ _ _ (by omega)) ?_ rfl rfl rfl rfl rfl rfl rfl rfl
  intro u hu
  obtain ⟨y1, y2, y3⟩ := h.2.1 u hu
  rw [gx_w_row _ _ _ (show (225 : Nat) ≠ 226 by decide), gx_w_row _ _ _ (show (227 : Nat) ≠ 226 by decide), gx_w_row _ _ _ (show (228 : Nat) ≠ 226 by decide), gx_w_row _ _ _ (show (229 : Nat) ≠ 226 by decide)]
  show _ ∧ _ = xb (pu_up (ab_cl a) t true u) ∧ _
  by_cases q : u = t
  · subst q
    rw [gx_w_self, pu_up_self]
    exact ⟨y1, rfl, y3⟩
  · rw [gx_w_col _ _ _ q, pu_up_ne _ _ q]
    exact ⟨y1, y2, y3⟩
theorem mr_setop {σ : gx_M} {a : ab_S} (h : mr σ a) {t : Nat} (ht : t < 21) (hl : (ab_op a t).length < 4) (hw : ab_W a) {k y v : Nat} :
    mr (gx_w (gx_w (gx_w (gx_w σ 227 (4 * t + (ab_op a t).length) k) 228 (4 * t + (ab_op a t).length) y) 229 (4 * t + (ab_op a t).length) v) 225 t ((ab_op a t).length + 1)) (ab_setop a t (ab_op a t ++ [(k, y, v)])) := by
  refine mr_T h (fun n q => ?_) ?_ rfl rfl rfl rfl rfl rfl rfl rfl
  · rw [gx_w_row _ _ _ (by omega), gx_w_row _ _ _ (by omega), gx_w_row _ _ _ (by omega), gx_w_row _ _ _ (by omega)]
  · intro u hu
    obtain ⟨y1, y2, y3⟩ := h.2.1 u hu
    have hu4 := (hw.2.1 u).1
    show _ = (pu_up (ab_op a) t (ab_op a t ++ [(k, y, v)]) u).length ∧ _ ∧ ∀ i o, (pu_up (ab_op a) t (ab_op a t ++ [(k, y, v)]) u)[i]? = some o → _
    simp only [gx_w_at]
    by_cases q : u = t
    · subst q
      rw [pu_up_self]
      refine ⟨by simp, by simp; exact y2, fun i o ho => ?_⟩
      by_cases z : i < (ab_op a u).length
      · rw [List.getElem?_append_left z] at ho
        obtain ⟨z1, z2, z3⟩ := y3 i o ho
        refine ⟨?_, ?_, ?_⟩ <;> grind
      · have hi : i = (ab_op a u).length := by
          have := (List.getElem?_eq_some_iff.mp ho).1
          simp at this
          omega
        subst hi
        simp at ho
        subst ho
        simp
    · rw [pu_up_ne _ _ q]
      refine ⟨by simp [q]; exact y1, by simp; exact y2, fun i o ho => ?_⟩
      have hi := (List.getElem?_eq_some_iff.mp ho).1
      obtain ⟨z1, z2, z3⟩ := y3 i o ho
      refine ⟨?_, ?_, ?_⟩ <;> grind
theorem mr_setha {σ : gx_M} {a : ab_S} (h : mr σ a) (b : Bool) : mr (gx_w σ 224 11 (xb b)) (ab_setha a b) := by
  refine mr_K h (fun n q _ _ => gx_w_row _ _ _ q) (gx_w_col _ _ _ (by decide)) ?_ rfl rfl rfl rfl rfl rfl rfl
  obtain ⟨a1, a2, a3⟩ := h.2.2.2
  unfold mr_co
  rw [gx_w_self, gx_w_row _ _ _ (by decide), gx_w_row _ _ _ (by decide)]
  exact ⟨rfl, a2, a3⟩
theorem mr_forget {σ τ : gx_M} {a : ab_S} (h : mr σ a) (hc : ∀ n, n ≠ 235 → n ≠ 236 → τ n = gx_w σ 224 11 1 n) (h1 : ∀ j, j < 63 → τ 235 j = 0) (h2 : ∀ j, j < 21 → τ 236 j = 0) : mr τ (ab_forget a) := by
  refine mr_K h (fun n q q1 q2 => by rw [hc n q1 q2, gx_w_row _ _ _ q]) (by rw [hc 224 (by decide) (by decide), gx_w_col _ _ _ (by decide)]) ?_ rfl rfl rfl rfl rfl rfl rfl
  refine ⟨by rw [hc 224 (by decide) (by decide), gx_w_self]; rfl, fun t s ht hs => ?_, fun t ht => ?_⟩
  · exact h1 _ (by omega)
  · exact h2 _ ht
theorem mr_setkd {σ : gx_M} {a : ab_S} (h : mr σ a) {t d : Nat} : mr (gx_w σ 236 t d) (ab_setkd a t d) := by
  refine mr_K h (fun n _ _ q => gx_w_row _ _ _ q) (by rw [gx_w_row _ _ _ (by decide)]) ?_ rfl rfl rfl rfl rfl rfl rfl
  obtain ⟨a1, a2, a3⟩ := h.2.2.2
  unfold mr_co
  rw [gx_w_row _ _ _ (show (224 : Nat) ≠ 236 by decide), gx_w_row _ _ _ (show (235 : Nat) ≠ 236 by decide)]
  refine ⟨a1, a2, fun u hu => ?_⟩
  show _ = pu_up (ab_kd a) t d u
  by_cases q : u = t
  · rw [q, gx_w_self, pu_up_self]
  · rw [gx_w_col _ _ _ q, pu_up_ne _ _ q]; exact a3 u hu
theorem mr_learn {σ : gx_M} {a : ab_S} (h : mr σ a) {t s r : Nat} (hs : s < 3) : mr (gx_w σ 235 (3 * t + s) ((ab_ex a s r).1 t)) (ab_learn a t s r) := by
  refine mr_K h (fun n _ q _ => gx_w_row _ _ _ q) (by rw [gx_w_row _ _ _ (by decide)]) ?_ rfl rfl rfl rfl rfl rfl rfl
  obtain ⟨a1, a2, a3⟩ := h.2.2.2
  unfold mr_co
  rw [gx_w_row _ _ _ (show (224 : Nat) ≠ 235 by decide), gx_w_row _ _ _ (show (236 : Nat) ≠ 235 by decide)]
  refine ⟨a1, fun u x hu hx => ?_, a3⟩
  show _ = pu_up (ab_kv a) t (pu_up (ab_kv a t) s ((ab_ex a s r).1 t)) u x
  rw [pu_up2]
  by_cases z : u = t ∧ x = s
  · rw [if_pos z, z.1, z.2, gx_w_self]
  · rw [if_neg z, gx_w_col _ _ _ (fun y => z (by omega))]; exact a2 u x hu hx
/-- a change of one replica's numbers -/
theorem mr_one {σ τ : gx_M} {a b : ab_S} (h : mr σ a) {gi ri : Nat} (h0 : gi < 4) (h1 : ri < 3) (hw : ∀ g r, g < 4 → r < 3 → (ab_lg a g r).length ≤ 60) (hc : ∀ n, n < 230 ∨ 234 < n → τ n = σ n) (hj : ∀ n j, n ≠ 234 → j ≠ 3 * gi + ri → τ n j = σ n j) (hl : ∀ j, ¬ (60 * (3 * gi + ri) ≤ j ∧ j < 60 * (3 * gi + ri) + 60) → τ 234 j = σ 234 j)
    (hr : τ 230 (3 * gi + ri) = xb (!ab_up b gi ri) ∧ τ 231 (3 * gi + ri) = ab_vi b gi ri ∧ τ 232 (3 * gi + ri) = (ab_lg b gi ri).length ∧ τ 233 (3 * gi + ri) = ab_dn b gi ri ∧ ∀ i e, (ab_lg b gi ri)[i]? = some e → τ 234 (60 * (3 * gi + ri) + i) = 32 * (e.1 + 1) + e.2)
    (ho : ∀ g r, g < 4 → r < 3 → ¬ (g = gi ∧ r = ri) → ab_up b g r = ab_up a g r ∧ ab_vi b g r = ab_vi a g r ∧ ab_lg b g r = ab_lg a g r ∧ ab_dn b g r = ab_dn a g r)
    (e0 : ab_n b = ab_n a) (e1 : ab_op b = ab_op a) (e2 : ab_cl b = ab_cl a) (e5 : ab_ha b = ab_ha a) (e6 : ab_kv b = ab_kv a) (e7 : ab_kd b = ab_kd a) : mr τ b := by
  obtain ⟨m1, m2, m3, m4⟩ := h
  refine ⟨by rw [hc 224 (by decide), e0]; exact m1, ?_, ?_, ?_⟩
  · intro t q
    rw [hc 225 (by decide), hc 226 (by decide), hc 227 (by decide), hc 228 (by decide), hc 229 (by decide), e1, e2]
    exact m2 t q
  · intro g r hg hr'
    by_cases q : g = gi ∧ r = ri
    · rw [q.1, q.2]; exact hr
    · obtain ⟨o1, o2, o3, o4⟩ := ho g r hg hr' q
      have hne : 3 * g + r ≠ 3 * gi + ri := by omega
      rw [o1, o2, o3, o4, hj 230 _ (by decide) hne, hj 231 _ (by decide) hne, hj 232 _ (by decide) hne, hj 233 _ (by decide) hne]
      obtain ⟨y1, y2, y3, y4, y5⟩ := m3 g r hg hr'
      refine ⟨y1, y2, y3, y4, fun i e he => ?_⟩
      have hi := (List.getElem?_eq_some_iff.mp he).1
      have hl6 := hw g r hg hr'
      rw [hl _ (by omega)]
      exact y5 i e he
  · unfold mr_co
    rw [hc 224 (by decide), hc 235 (by decide), hc 236 (by decide), e5, e6, e7]
    exact m4
theorem mr_up {σ : gx_M} {a : ab_S} (h : mr σ a) (hw : ab_W a) {gi ri : Nat} (h0 : gi < 4) (h1 : ri < 3) (b : Bool) : mr (gx_w σ 230 (3 * gi + ri) (xb (!b))) (ab_setup a gi ri b) := by
  obtain ⟨y1, y2, y3, y4, y5⟩ := h.2.2.1 gi ri h0 h1
  have e : ∀ g r, ab_up (ab_setup a gi ri b) g r = if g = gi ∧ r = ri then b else ab_up a g r := fun g r => pu_up2 _ _ _ _ _ _
  refine mr_one h h0 h1 (fun g r hg hr => (hw.2.2 g r hg hr).1) (fun n q => gx_w_row _ _ _ (by omega)) (fun n j _ q => ?_) (fun j _ => by rw [gx_w_row _ _ _ (by decide)]) ?_ (fun g r _ _ q => ⟨by rw [e, if_neg q], rfl, rfl, rfl⟩) rfl rfl rfl rfl rfl rfl
  · rw [gx_w_at, if_neg (by omega)]
  · rw [gx_w_self, gx_w_row _ _ _ (show (231 : Nat) ≠ 230 by decide), gx_w_row _ _ _ (show (232 : Nat) ≠ 230 by decide), gx_w_row _ _ _ (show (233 : Nat) ≠ 230 by decide), gx_w_row _ _ _ (show (234 : Nat) ≠ 230 by decide), e, if_pos ⟨rfl, rfl⟩]
    exact ⟨rfl, y2, y3, y4, y5⟩
/-- an entry is appended -/
theorem mr_app {σ : gx_M} {a : ab_S} (h : mr σ a) (hw : ab_W a) {gi ri : Nat} (h0 : gi < 4) (h1 : ri < 3) (en : pu_En) (hl : (ab_lg a gi ri).length < 60) : mr (gx_w (gx_w σ 234 (60 * (3 * gi + ri) + (ab_lg a gi ri).length) (32 * (en.1 + 1) + en.2)) 232 (3 * gi + ri) ((ab_lg a gi ri).length + 1)) (ab_setlg a gi ri (ab_lg a gi ri ++ [en])) := by
  obtain ⟨y1, y2, y3, y4, y5⟩ := h.2.2.1 gi ri h0 h1
  have e : ∀ g r, ab_lg (ab_setlg a gi ri (ab_lg a gi ri ++ [en])) g r = if g = gi ∧ r = ri then ab_lg a gi ri ++ [en] else ab_lg a g r := fun g r => pu_up2 _ _ _ _ _ _
  refine mr_one h h0 h1 (fun g r hg hr => (hw.2.2 g r hg hr).1) (fun n q => by rw [gx_w_row _ _ _ (by omega), gx_w_row _ _ _ (by omega)]) (fun n j _ q => ?_) (fun j q => ?_) ?_ (fun g r _ _ q => ⟨rfl, rfl, by rw [e, if_neg q], rfl⟩) rfl rfl rfl rfl rfl rfl
  · rw [gx_w_at, if_neg (by omega), gx_w_at, if_neg (by omega)]
  · rw [gx_w_at, if_neg (by omega), gx_w_at, if_neg (by omega)]
  · rw [e, if_pos ⟨rfl, rfl⟩]
    simp only [gx_w_at]
    refine ⟨by simp; exact y1, by simp; exact y2, by simp, by simp; exact y4, fun i x hx => ?_⟩
    by_cases z : i < (ab_lg a gi ri).length
    · rw [List.getElem?_append_left z] at hx
      have z5 := y5 i x hx
      rw [if_neg (by omega), if_neg (by omega)]
      exact z5
    · have hi : i = (ab_lg a gi ri).length := by
        have := (List.getElem?_eq_some_iff.mp hx).1
        simp at this
        omega
      subst hi
      simp at hx
      subst hx
      simp
theorem pu_do_k (va : Nat → Nat) (o : pu_Op) (k : Nat) : pu_do va o k = if o.1 = 1 then (if k = o.2.1 then o.2.2 else va k) else if o.1 = 2 then (if k = o.2.1 then va o.2.1 + o.2.2 else va k) else va k := by
  unfold pu_do
  split
  · rfl
  · split <;> rfl
