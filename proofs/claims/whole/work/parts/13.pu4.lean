/-! pure part four: what holds of the whole, and that each kind of step keeps it. -/
/-- a shard executes more entries -/
theorem pu_J_grow {op : Nat → List pu_Op} (hop : ∀ t o, o ∈ op t → o.2.1 < 12) {C : Nat → List pu_En} (h : pu_J op C) {s : Nat} (hs : s < 3) : ∀ D : List pu_En,
    (∀ e, e ∈ D → e.1 ≤ 2 ∧ (e.1 = 1 → pu_ds (C 3) e.2 = 1) ∧ (e.1 = 2 → pu_ds (C 3) e.2 = 2)) → pu_ok op s (C s ++ D) → pu_J op (pu_up C s (C s ++ D)) := by
  have h3 : (3 : Nat) ≠ s := by omega
  refine pu_snoc ?_ ?_
  · intro _ _
    rw [List.append_nil]
    have : pu_up C s (C s) = C := by
      funext j
      by_cases q : j = s
      · rw [q, pu_up_self]
      · rw [pu_up_ne _ _ q]
    rw [this]; exact h
  · intro D e ih hD hok
    rw [← List.append_assoc] at hok ⊢
    have ih := ih (fun x hx => hD x (List.mem_append_left _ hx)) (pu_ok_left hok)
    obtain ⟨e0, e1, e2⟩ := hD e (by simp)
    have a3 : pu_up C s (C s ++ D) 3 = C 3 := pu_up_ne _ _ h3
    have as : pu_up C s (C s ++ D) s = C s ++ D := pu_up_self _ _ _
    have := pu_J_shard hop ih hs (e := e)
      (by
        intro q
        rw [a3, as]
        refine ⟨e1 q, ?_⟩
        obtain ⟨k, w⟩ := e
        have q : k = 1 := q
        subst q
        exact hok (C s ++ D) [] w rfl)
      (by
        intro q0 q1
        rw [a3]
        have := e2 (by omega)
        omega)
    rw [as] at this
    have hh : pu_up (pu_up C s (C s ++ D)) s (C s ++ D ++ [e]) = pu_up C s (C s ++ D ++ [e]) := by
      funext j
      by_cases q : j = s
      · rw [q, pu_up_self, pu_up_self]
      · rw [pu_up_ne _ _ q, pu_up_ne _ _ q, pu_up_ne _ _ q]
    rw [hh] at this
    exact this
theorem pu_J_growD {op : Nat → List pu_Op} (hop : ∀ t o, o ∈ op t → o.2.1 < 12) {C : Nat → List pu_En} (h : pu_J op C) : ∀ D : List pu_En,
    (∀ e, e ∈ D → e.1 ≠ 0 ∧ (e.1 = 1 → ∀ o, o ∈ op e.2 → (pu_ex op (o.2.1 % 3) (C (o.2.1 % 3))).1 e.2 = 1)) → pu_J op (pu_up C 3 (C 3 ++ D)) := by
  refine pu_snoc ?_ ?_
  · intro _
    rw [List.append_nil]
    have : pu_up C 3 (C 3) = C := by
      funext j
      by_cases q : j = 3
      · rw [q, pu_up_self]
      · rw [pu_up_ne _ _ q]
    rw [this]; exact h
  · intro D e ih hD
    rw [← List.append_assoc]
    have ih := ih (fun x hx => hD x (List.mem_append_left _ hx))
    obtain ⟨e0, e1⟩ := hD e (by simp)
    have a3 : pu_up C 3 (C 3 ++ D) 3 = C 3 ++ D := pu_up_self _ _ _
    have am : ∀ x : Nat, pu_up C 3 (C 3 ++ D) (x % 3) = C (x % 3) := fun x => pu_up_ne _ _ (by have := Nat.mod_lt x (show 0 < 3 by decide); omega)
    have := pu_J_dec hop ih (e := e) (by intro q o ho; rw [am]; exact e1 q o ho) e0
    rw [a3] at this
    have hh : pu_up (pu_up C 3 (C 3 ++ D)) 3 (C 3 ++ D ++ [e]) = pu_up C 3 (C 3 ++ D ++ [e]) := by
      funext j
      by_cases q : j = 3
      · rw [q, pu_up_self, pu_up_self]
      · rw [pu_up_ne _ _ q, pu_up_ne _ _ q, pu_up_ne _ _ q]
    rw [hh] at this
    exact this
/-- what holds of the whole: op the operations, cl who is closed, vi lg dn the replicas, kv kd rs what the coordinator knows; M the greatest views, C what was executed -/
def pu_I (n : Nat) (op : Nat → List pu_Op) (cl : Nat → Bool) (vi : Nat → Nat → Nat) (lg : Nat → Nat → List pu_En) (dn : Nat → Nat → Nat) (kv : Nat → Nat → Nat) (kd : Nat → Nat) (rs : Nat → Nat → Nat) (M : Nat → Nat) (C : Nat → List pu_En) : Prop :=
  (∀ g, g < 4 → pu_G (M g) (vi g) (lg g) (dn g) (C g)) ∧
  pu_J op C ∧
  (∀ t o, o ∈ op t → o.2.1 < 12) ∧
  (∀ g, g < 4 → ∀ r, r < 3 → ∀ e, e ∈ lg g r → cl e.2 = true ∧ 1 ≤ e.2 ∧ e.2 ≤ n ∧ e.1 ≤ 2 ∧ (g = 3 → e.1 ≠ 0)) ∧
  (∀ t, kd t ≠ 0 → pu_ds (C 3) t = kd t) ∧
  (∀ t s, s < 3 → kv t s ≠ 0 → (pu_ex op s (C s)).1 t = kv t s) ∧
  (∀ r, r < 3 → ∀ t, (1, t) ∈ lg 3 r → ∀ o, o ∈ op t → (pu_ex op (o.2.1 % 3) (C (o.2.1 % 3))).1 t = 1) ∧
  (∀ s, s < 3 → ∀ r, r < 3 → ∀ t, ((1, t) ∈ lg s r → pu_ds (C 3) t = 1) ∧ ((2, t) ∈ lg s r → pu_ds (C 3) t = 2)) ∧
  (∀ s, s < 3 → pu_ok op s (lg s (M s % 3))) ∧
  (∀ t s, s < 3 → kv t s = 1 → ∀ i, pu_sh (op t) i = s → rs t i = (pu_ex op s (C s)).2.2.2 t i) ∧
  (∀ t s, s < 3 → kv t s ≠ 0 → cl t = true)
theorem pu_I_nil (op : Nat → List pu_Op) (h : ∀ t, op t = []) (cl : Nat → Bool) (rs : Nat → Nat → Nat) : pu_I 0 op cl (fun _ _ => 0) (fun _ _ => []) (fun _ _ => 0) (fun _ _ => 0) (fun _ => 0) rs (fun _ => 0) (fun _ => []) := by
  refine ⟨fun g _ => pu_G_nil, pu_J_nil op, ?_, ?_, ?_, ?_, ?_, ?_, ?_, ?_, ?_⟩
  · intro t o ho; rw [h] at ho; cases ho
  · intro g _ r _ e he; cases he
  · intro t q; exact absurd rfl q
  · intro t s _ q; exact absurd rfl q
  · intro r _ t ht; cases ht
  · intro s _ r _ t; exact ⟨fun q => (by cases q), fun q => (by cases q)⟩
  · intro s _; exact pu_ok_nil op s
  · intro t s _ q; cases q
  · intro t s _ q; exact absurd rfl q
section
variable {n : Nat} {op : Nat → List pu_Op} {cl : Nat → Bool} {vi : Nat → Nat → Nat} {lg : Nat → Nat → List pu_En} {dn : Nat → Nat → Nat} {kv : Nat → Nat → Nat} {kd : Nat → Nat} {rs : Nat → Nat → Nat} {M : Nat → Nat} {C : Nat → List pu_En}
/-- what was executed stands in a log -/
theorem pu_I_in (h : pu_I n op cl vi lg dn kv kd rs M C) {g : Nat} (hg : g < 4) {e : pu_En} (he : e ∈ C g) : cl e.2 = true ∧ 1 ≤ e.2 ∧ e.2 ≤ n ∧ e.1 ≤ 2 ∧ (g = 3 → e.1 ≠ 0) := by
  obtain ⟨h1, -, -, h4, -⟩ := h
  have hG := (h1 g hg).2.2.2.1
  exact h4 g hg (M g % 3) (Nat.mod_lt _ (by decide)) e (pu_le_mem hG he)
theorem pu_I_more (h : pu_I n op cl vi lg dn kv kd rs M C) {n' : Nat} (hn : n ≤ n') {cl' : Nat → Bool} (hc : ∀ t, cl t = true → cl' t = true) : pu_I n' op cl' vi lg dn kv kd rs M C := by
  obtain ⟨h1, h2, h3, h4, h5, h6, h7, h8, h9, h10, h11⟩ := h
  refine ⟨h1, h2, h3, ?_, h5, h6, h7, h8, h9, h10, fun t s hs q => hc t (h11 t s hs q)⟩
  intro g hg r hr e he
  obtain ⟨a, b, d, f⟩ := h4 g hg r hr e he
  exact ⟨hc _ a, b, by omega, f⟩
/-- the coordinator forgets -/
theorem pu_I_forget (h : pu_I n op cl vi lg dn kv kd rs M C) : pu_I n op cl vi lg dn (fun _ _ => 0) (fun _ => 0) rs M C := by
  obtain ⟨h1, h2, h3, h4, h5, h6, h7, h8, h9, h10, h11⟩ := h
  refine ⟨h1, h2, h3, h4, ?_, ?_, h7, h8, h9, ?_, ?_⟩
  · intro t q; exact absurd rfl q
  · intro t s _ q; exact absurd rfl q
  · intro t s _ q; cases q
  · intro t s _ q; exact absurd rfl q
/-- the coordinator learns a decision from a replica of the decisions' group -/
theorem pu_I_decision (h : pu_I n op cl vi lg dn kv kd rs M C) {r : Nat} (hr : r < 3) {t d : Nat} (hd : pu_ds ((lg 3 r).take (dn 3 r)) t = d) : pu_I n op cl vi lg dn kv (pu_up kd t d) rs M C := by
  obtain ⟨h1, h2, h3, h4, h5, h6, h7, h8, h9, h10, h11⟩ := h
  refine ⟨h1, h2, h3, h4, ?_, h6, h7, h8, h9, h10, h11⟩
  intro x q
  by_cases hx : x = t
  · rw [hx, pu_up_self] at q ⊢
    obtain ⟨D, hD⟩ := ((h1 3 (by decide)).2.2.2.2.2.1 r hr).2
    rw [← hD, pu_ds_app _ _ (by rw [hd]; exact q)]
    exact hd
  · rw [pu_up_ne _ _ hx] at q ⊢
    exact h5 x q
/-- the coordinator learns a vote from a replica of a shard -/
theorem pu_I_vote (h : pu_I n op cl vi lg dn kv kd rs M C) {s r : Nat} (hs : s < 3) (hr : r < 3) {t v : Nat} (hc : cl t = true) (hv : (pu_ex op s ((lg s r).take (dn s r))).1 t = v) {rs' : Nat → Nat → Nat}
    (hrs : ∀ i, pu_sh (op t) i = s → rs' t i = (pu_ex op s ((lg s r).take (dn s r))).2.2.2 t i) (hro : ∀ i, pu_sh (op t) i ≠ s → rs' t i = rs t i) (hru : ∀ u i, u ≠ t → rs' u i = rs u i) :
    pu_I n op cl vi lg dn (pu_up kv t (pu_up (kv t) s v)) kd rs' M C := by
  obtain ⟨h1, h2, h3, h4, h5, h6, h7, h8, h9, h10, h11⟩ := h
  obtain ⟨D, hD⟩ := ((h1 s (by omega)).2.2.2.2.2.1 r hr).2
  refine ⟨h1, h2, h3, h4, h5, ?_, h7, h8, h9, ?_, ?_⟩
  · intro x y hy q
    by_cases hx : x = t
    · rw [hx, pu_up_self] at q ⊢
      by_cases hxs : y = s
      · rw [hxs, pu_up_self] at q ⊢
        rw [← hD, pu_ex_vo op s _ t (by rw [hv]; exact q)]
        exact hv
      · rw [pu_up_ne _ _ hxs] at q ⊢
        exact h6 t y hy q
    · rw [pu_up_ne _ _ hx] at q ⊢
      exact h6 x y hy q
  · intro x y hy q i hi
    by_cases hx : x = t
    · rw [hx, pu_up_self] at q
      rw [hx] at hi ⊢
      by_cases hxs : y = s
      · rw [hxs, pu_up_self] at q
        rw [hxs] at hi ⊢
        rw [hrs i hi, ← hD]
        exact (pu_ex_keep op h3 s hs _ t (by rw [hv]; exact q) i hi D (by rw [hD]; exact h2.1 s hs)).symm
      · rw [pu_up_ne _ _ hxs] at q
        rw [hro i (by rw [hi]; exact hxs)]
        exact h10 t y hy q i hi
    · rw [pu_up_ne _ _ hx] at q
      rw [hru x i hx]
      exact h10 x y hy q i hi
  · intro x y hy q
    by_cases hx : x = t
    · rw [hx]; exact hc
    · rw [pu_up_ne _ _ hx] at q
      exact h11 x y hy q
/-- a transaction that isn't closed gets one more operation -/
theorem pu_I_touch (h : pu_I n op cl vi lg dn kv kd rs M C) {t : Nat} (hc : cl t = false) {o : pu_Op} (ho : o.2.1 < 12) : pu_I n (pu_up op t (op t ++ [o])) cl vi lg dn kv kd rs M C := by
  have hin := fun g (hg : g < 4) e (he : e ∈ C g) => pu_I_in h hg he
  obtain ⟨h1, h2, h3, h4, h5, h6, h7, h8, h9, h10, h11⟩ := h
  have same : ∀ u, cl u = true → pu_up op t (op t ++ [o]) u = op u := fun u hu => pu_up_ne _ _ (fun q => by rw [q, hc] at hu; cases hu)
  have exC : ∀ s, s < 4 → pu_ex (pu_up op t (op t ++ [o])) s (C s) = pu_ex op s (C s) := fun s hs => pu_ex_congr s (C s) (fun e he => same _ (hin s hs e he).1)
  have exC' : ∀ s' s, s < 4 → pu_ex (pu_up op t (op t ++ [o])) s' (C s) = pu_ex op s' (C s) := fun s' s hs => pu_ex_congr s' (C s) (fun e he => same _ (hin s hs e he).1)
  have srC : pu_sr (pu_up op t (op t ++ [o])) (C 3) = pu_sr op (C 3) := pu_sr_congr (C 3) (fun e he => same _ (hin 3 (by decide) e he).1)
  have dsc : ∀ u, pu_ds (C 3) u ≠ 0 → cl u = true := fun u hu => (hin 3 (by decide) _ (pu_ds_in u (C 3) hu)).1
  have lgok : ∀ s r, s < 3 → r < 3 → ∀ L, pu_le L (lg s r) → pu_ex (pu_up op t (op t ++ [o])) s L = pu_ex op s L := fun s r hs hr L hL => pu_ex_congr s L (fun e he => same _ (h4 s (by omega) r hr e (pu_le_mem hL he)).1)
  have okk : ∀ s r, s < 3 → r < 3 → ∀ L, pu_le L (lg s r) → pu_ok op s L → pu_ok (pu_up op t (op t ++ [o])) s L := by
    intro s r hs hr L hL hok L1 L2 u e
    rw [lgok s r hs hr L1 (pu_le_trans ⟨(1, u) :: L2, e.symm⟩ hL)]
    exact hok L1 L2 u e
  have hm : ∀ x : Nat, x % 3 < 4 := fun x => by have := Nat.mod_lt x (show 0 < 3 by decide); omega
  refine ⟨h1, ?_, ?_, h4, h5, ?_, ?_, h8, ?_, ?_, h11⟩
  · obtain ⟨j1, j2, j3, j4, j5⟩ := h2
    refine ⟨?_, ?_, ?_, ?_, ?_⟩
    · intro s hs
      exact okk s (M s % 3) hs (Nat.mod_lt _ (by decide)) (C s) (h1 s (by omega)).2.2.2.1 (j1 s hs)
    · intro u hu p hp
      rw [same u (dsc u (by rw [hu]; decide))] at hp
      rw [exC _ (hm _)]
      exact j2 u hu p hp
    · intro s hs u hu
      rw [exC s (by omega)] at hu
      exact j3 s hs u hu
    · intro k hk
      rw [exC _ (hm _), srC]
      rcases j4 k hk with ⟨u, u1, u2, u3, u4⟩ | ⟨u1, u2⟩
      · left
        have hs := same u (dsc u (by rw [u1]; decide))
        exact ⟨u, u1, u2, by rw [hs]; exact u3, by rw [hs]; exact u4⟩
      · right
        refine ⟨fun u x1 x2 => ?_, u2⟩
        rw [same u (dsc u (by rw [x1]; decide))]
        exact u1 u x1 x2
    · intro u hu s hs i hi
      rw [same u (dsc u (by rw [hu]; decide))] at hi
      rw [srC, exC s (by omega)]
      exact j5 u hu s hs i hi
  · intro u p hp
    by_cases q : u = t
    · rw [q, pu_up_self] at hp
      rcases List.mem_append.mp hp with z | z
      · exact h3 t p z
      · have : p = o := by simpa using z
        rw [this]; exact ho
    · rw [pu_up_ne _ _ q] at hp
      exact h3 u p hp
  · intro u s hs q
    rw [exC s (by omega)]
    exact h6 u s hs q
  · intro r hr u hu p hp
    rw [same u (h4 3 (by decide) r hr _ hu).1] at hp
    rw [exC _ (hm _)]
    exact h7 r hr u hu p hp
  · intro s hs
    exact okk s (M s % 3) hs (Nat.mod_lt _ (by decide)) _ (pu_le_rfl _) (h9 s hs)
  · intro u s hs q i hi
    rw [same u (h11 u s hs (by rw [q]; decide))] at hi
    rw [exC s (by omega)]
    exact h10 u s hs q i hi
/-- a replica of a shard that is alone appends -/
theorem pu_I_aloneS (h : pu_I n op cl vi lg dn kv kd rs M C) {s f : Nat} (hs : s < 3) (hf : f < 3) {e : pu_En} (hq : f = M s % 3 ∨ vi s f ≠ M s) (he : cl e.2 = true ∧ 1 ≤ e.2 ∧ e.2 ≤ n ∧ e.1 ≤ 2)
    (hk : e.1 = 1 → pu_ds (C 3) e.2 = 1 ∧ (pu_ex op s (C s)).1 e.2 = 1) (ha : e.1 = 2 → pu_ds (C 3) e.2 = 2) : pu_I n op cl vi (pu_up lg s (pu_up (lg s) f (lg s f ++ [e]))) dn kv kd rs M C := by
  obtain ⟨h1, h2, h3, h4, h5, h6, h7, h8, h9, h10, h11⟩ := h
  have hm : M s % 3 < 3 := Nat.mod_lt _ (by decide)
  have mem : ∀ g r x, x ∈ pu_up lg s (pu_up (lg s) f (lg s f ++ [e])) g r → x ∈ lg g r ∨ (g = s ∧ x = e) := by
    intro g r x hx
    by_cases q : g = s
    · rw [q, pu_up_self] at hx
      by_cases z : r = f
      · rw [z, pu_up_self] at hx
        rcases List.mem_append.mp hx with y | y
        · left; rw [q, z]; exact y
        · right; exact ⟨q, by simpa using y⟩
      · rw [pu_up_ne _ _ z] at hx
        left; rw [q]; exact hx
    · rw [pu_up_ne _ _ q] at hx
      exact Or.inl hx
  refine ⟨?_, h2, h3, ?_, h5, h6, ?_, ?_, ?_, h10, h11⟩
  · intro g hg
    by_cases q : g = s
    · subst q
      rw [pu_up_self]
      exact pu_G_alone (h1 g hg) hf e hq
    · rw [pu_up_ne _ _ q]; exact h1 g hg
  · intro g hg r hr x hx
    rcases mem g r x hx with y | ⟨y1, y2⟩
    · exact h4 g hg r hr x y
    · rw [y2]
      exact ⟨he.1, he.2.1, he.2.2.1, he.2.2.2, fun q => by omega⟩
  · intro r hr t ht
    rcases mem 3 r _ ht with y | ⟨y1, y2⟩
    · exact h7 r hr t y
    · omega
  · intro s' hs' r hr t
    constructor
    · intro ht
      rcases mem s' r _ ht with y | ⟨y1, y2⟩
      · exact (h8 s' hs' r hr t).1 y
      · have := (hk (by rw [← y2])).1
        rw [← y2] at this
        exact this
    · intro ht
      rcases mem s' r _ ht with y | ⟨y1, y2⟩
      · exact (h8 s' hs' r hr t).2 y
      · have := ha (by rw [← y2])
        rw [← y2] at this
        exact this
  · intro s' hs'
    by_cases q : s' = s
    · subst q
      rw [pu_up_self]
      by_cases z : M s' % 3 = f
      · rw [z, pu_up_self]
        rw [← z]
        refine pu_ok_snoc (h9 s' hs') (fun y => Or.inr ?_)
        obtain ⟨D, hD⟩ := (h1 s' (by omega)).2.2.2.1
        have := (hk y).2
        rw [← hD, pu_ex_vo op s' _ _ (by rw [this]; decide)]
        exact this
      · rw [pu_up_ne _ _ z]; exact h9 s' hs'
    · rw [pu_up_ne _ _ q]; exact h9 s' hs'
/-- a replica of the decisions' group that is alone appends -/
theorem pu_I_aloneD (h : pu_I n op cl vi lg dn kv kd rs M C) {f : Nat} (hf : f < 3) {e : pu_En} (hq : f = M 3 % 3 ∨ vi 3 f ≠ M 3) (he : cl e.2 = true ∧ 1 ≤ e.2 ∧ e.2 ≤ n ∧ e.1 ≤ 2 ∧ e.1 ≠ 0)
    (hk : e.1 = 1 → ∀ o, o ∈ op e.2 → (pu_ex op (o.2.1 % 3) (C (o.2.1 % 3))).1 e.2 = 1) : pu_I n op cl vi (pu_up lg 3 (pu_up (lg 3) f (lg 3 f ++ [e]))) dn kv kd rs M C := by
  obtain ⟨h1, h2, h3, h4, h5, h6, h7, h8, h9, h10, h11⟩ := h
  have mem : ∀ g r x, x ∈ pu_up lg 3 (pu_up (lg 3) f (lg 3 f ++ [e])) g r → x ∈ lg g r ∨ (g = 3 ∧ x = e) := by
    intro g r x hx
    by_cases q : g = 3
    · rw [q, pu_up_self] at hx
      by_cases z : r = f
      · rw [z, pu_up_self] at hx
        rcases List.mem_append.mp hx with y | y
        · left; rw [q, z]; exact y
        · right; exact ⟨q, by simpa using y⟩
      · rw [pu_up_ne _ _ z] at hx
        left; rw [q]; exact hx
    · rw [pu_up_ne _ _ q] at hx
      exact Or.inl hx
  refine ⟨?_, h2, h3, ?_, h5, h6, ?_, ?_, ?_, h10, h11⟩
  · intro g hg
    by_cases q : g = 3
    · subst q
      rw [pu_up_self]
      exact pu_G_alone (h1 3 hg) hf e hq
    · rw [pu_up_ne _ _ q]; exact h1 g hg
  · intro g hg r hr x hx
    rcases mem g r x hx with y | ⟨y1, y2⟩
    · exact h4 g hg r hr x y
    · rw [y2]
      exact ⟨he.1, he.2.1, he.2.2.1, he.2.2.2.1, fun _ => he.2.2.2.2⟩
  · intro r hr t ht
    rcases mem 3 r _ ht with y | ⟨y1, y2⟩
    · exact h7 r hr t y
    · have := hk (by rw [← y2])
      rw [← y2] at this
      exact this
  · intro s' hs' r hr t
    constructor
    · intro ht
      rcases mem s' r _ ht with y | ⟨y1, y2⟩
      · exact (h8 s' hs' r hr t).1 y
      · omega
    · intro ht
      rcases mem s' r _ ht with y | ⟨y1, y2⟩
      · exact (h8 s' hs' r hr t).2 y
      · omega
  · intro s' hs'
    rw [pu_up_ne _ _ (show s' ≠ 3 by omega)]
    exact h9 s' hs'
/-- the replicas of a shard that are up take L and the view v, and execute it -/
theorem pu_I_spreadS (h : pu_I n op cl vi lg dn kv kd rs M C) {s : Nat} (hs : s < 3) {up : Nat → Bool} (hc : 2 ≤ pu_cnt up) {L : List pu_En} {v : Nat} (hL : pu_le (C s) L) (hv : up (v % 3) = true)
    (hq : M s < v ∨ (M s = v ∧ ∀ r, r < 3 → up r = false → vi s r = M s → pu_le (lg s r) L)) (he : ∀ e, e ∈ L → cl e.2 = true ∧ 1 ≤ e.2 ∧ e.2 ≤ n ∧ e.1 ≤ 2 ∧ (e.1 = 1 → pu_ds (C 3) e.2 = 1) ∧ (e.1 = 2 → pu_ds (C 3) e.2 = 2)) (hok : pu_ok op s L) :
    pu_I n op cl (pu_up vi s (fun r => if up r = true then v else vi s r)) (pu_up lg s (fun r => if up r = true then L else lg s r)) (pu_up dn s (fun r => if up r = true then L.length else dn s r)) kv kd rs (pu_up M s v) (pu_up C s L) := by
  obtain ⟨h1, h2, h3, h4, h5, h6, h7, h8, h9, h10, h11⟩ := h
  obtain ⟨D, hD⟩ := hL
  subst hD
  have n3 : (3 : Nat) ≠ s := by omega
  have mem : ∀ g r x, x ∈ pu_up lg s (fun r => if up r = true then C s ++ D else lg s r) g r → x ∈ lg g r ∨ (g = s ∧ x ∈ C s ++ D) := by
    intro g r x hx
    by_cases q : g = s
    · rw [q, pu_up_self] at hx
      try dsimp only at hx
      split at hx
      · exact Or.inr ⟨q, hx⟩
      · left; rw [q]; exact hx
    · rw [pu_up_ne _ _ q] at hx
      exact Or.inl hx
  have vo : ∀ s' t, s' < 3 → (pu_ex op s' (C s')).1 t ≠ 0 → (pu_ex op s' (pu_up C s (C s ++ D) s')).1 t = (pu_ex op s' (C s')).1 t := by
    intro s' t hs' q
    by_cases z : s' = s
    · subst z
      rw [pu_up_self]
      exact pu_ex_vo op s' _ _ q D
    · rw [pu_up_ne _ _ z]
  have hG := pu_G_spread (h1 s (by omega)) hc (L := C s ++ D) (v := v) ⟨D, rfl⟩ hv hq
  have hJ := pu_J_grow h3 h2 hs D (fun e q => by
    obtain ⟨-, -, -, a, b, d⟩ := he e (List.mem_append_right _ q)
    exact ⟨a, b, d⟩) hok
  have c3 : pu_up C s (C s ++ D) 3 = C 3 := pu_up_ne _ _ n3
  have hmm : ∀ x : Nat, x % 3 < 3 := fun x => Nat.mod_lt _ (by decide)
  refine ⟨?_, hJ, h3, ?_, ?_, ?_, ?_, ?_, ?_, ?_, h11⟩
  · intro g hg
    by_cases q : g = s
    · subst q
      rw [pu_up_self, pu_up_self, pu_up_self, pu_up_self, pu_up_self]
      exact hG
    · rw [pu_up_ne _ _ q, pu_up_ne _ _ q, pu_up_ne _ _ q, pu_up_ne _ _ q, pu_up_ne _ _ q]; exact h1 g hg
  · intro g hg r hr x hx
    rcases mem g r x hx with y | ⟨y1, y2⟩
    · exact h4 g hg r hr x y
    · obtain ⟨a, b, d, f, -⟩ := he x y2
      exact ⟨a, b, d, f, fun q => by omega⟩
  · intro t q
    rw [c3]; exact h5 t q
  · intro t s' hs' q
    have := h6 t s' hs' q
    rw [vo s' t hs' (by rw [this]; exact q)]
    exact this
  · intro r hr t ht o ho
    rcases mem 3 r _ ht with y | ⟨y1, y2⟩
    · have := h7 r hr t y o ho
      rw [vo _ t (hmm _) (by rw [this]; decide)]
      exact this
    · omega
  · intro s' hs' r hr t
    rw [c3]
    constructor
    · intro ht
      rcases mem s' r _ ht with y | ⟨y1, y2⟩
      · exact (h8 s' hs' r hr t).1 y
      · exact (he _ y2).2.2.2.2.1 rfl
    · intro ht
      rcases mem s' r _ ht with y | ⟨y1, y2⟩
      · exact (h8 s' hs' r hr t).2 y
      · exact (he _ y2).2.2.2.2.2 rfl
  · intro s' hs'
    by_cases q : s' = s
    · subst q
      rw [pu_up_self, pu_up_self, if_pos hv]
      exact hok
    · rw [pu_up_ne _ _ q, pu_up_ne _ _ q]; exact h9 s' hs'
  · intro t s' hs' q i hi
    rw [h10 t s' hs' q i hi]
    by_cases z : s' = s
    · subst z
      rw [pu_up_self]
      exact (pu_ex_keep op h3 s' hs' (C s') t (by rw [h6 t s' hs' (by rw [q]; decide)]; exact q) i hi D hok).symm
    · rw [pu_up_ne _ _ z]
/-- the replicas of the decisions' group that are up take L and the view v, and execute it -/
theorem pu_I_spreadD (h : pu_I n op cl vi lg dn kv kd rs M C) {up : Nat → Bool} (hc : 2 ≤ pu_cnt up) {L : List pu_En} {v : Nat} (hL : pu_le (C 3) L) (hv : up (v % 3) = true)
    (hq : M 3 < v ∨ (M 3 = v ∧ ∀ r, r < 3 → up r = false → vi 3 r = M 3 → pu_le (lg 3 r) L)) (he : ∀ e, e ∈ L → cl e.2 = true ∧ 1 ≤ e.2 ∧ e.2 ≤ n ∧ e.1 ≤ 2 ∧ e.1 ≠ 0 ∧ (e.1 = 1 → ∀ o, o ∈ op e.2 → (pu_ex op (o.2.1 % 3) (C (o.2.1 % 3))).1 e.2 = 1)) :
    pu_I n op cl (pu_up vi 3 (fun r => if up r = true then v else vi 3 r)) (pu_up lg 3 (fun r => if up r = true then L else lg 3 r)) (pu_up dn 3 (fun r => if up r = true then L.length else dn 3 r)) kv kd rs (pu_up M 3 v) (pu_up C 3 L) := by
  obtain ⟨h1, h2, h3, h4, h5, h6, h7, h8, h9, h10, h11⟩ := h
  obtain ⟨D, hD⟩ := hL
  subst hD
  have mem : ∀ g r x, x ∈ pu_up lg 3 (fun r => if up r = true then C 3 ++ D else lg 3 r) g r → x ∈ lg g r ∨ (g = 3 ∧ x ∈ C 3 ++ D) := by
    intro g r x hx
    by_cases q : g = 3
    · rw [q, pu_up_self] at hx
      try dsimp only at hx
      split at hx
      · exact Or.inr ⟨q, hx⟩
      · left; rw [q]; exact hx
    · rw [pu_up_ne _ _ q] at hx
      exact Or.inl hx
  have cs : ∀ s', s' < 3 → pu_up C 3 (C 3 ++ D) s' = C s' := fun s' hs' => pu_up_ne _ _ (by omega)
  have hmm : ∀ x : Nat, x % 3 < 3 := fun x => Nat.mod_lt _ (by decide)
  have hG := pu_G_spread (h1 3 (by decide)) hc (L := C 3 ++ D) (v := v) ⟨D, rfl⟩ hv hq
  have hJ := pu_J_growD h3 h2 D (fun e q => by
    obtain ⟨-, -, -, -, a, b⟩ := he e (List.mem_append_right _ q)
    exact ⟨a, b⟩)
  have c3 : pu_up C 3 (C 3 ++ D) 3 = C 3 ++ D := pu_up_self _ _ _
  refine ⟨?_, hJ, h3, ?_, ?_, ?_, ?_, ?_, ?_, ?_, h11⟩
  · intro g hg
    by_cases q : g = 3
    · subst q
      rw [pu_up_self, pu_up_self, pu_up_self, pu_up_self, pu_up_self]
      exact hG
    · rw [pu_up_ne _ _ q, pu_up_ne _ _ q, pu_up_ne _ _ q, pu_up_ne _ _ q, pu_up_ne _ _ q]; exact h1 g hg
  · intro g hg r hr x hx
    rcases mem g r x hx with y | ⟨y1, y2⟩
    · exact h4 g hg r hr x y
    · obtain ⟨a, b, d, f, f2, -⟩ := he x y2
      exact ⟨a, b, d, f, fun _ => f2⟩
  · intro t q
    have := h5 t q
    rw [c3, pu_ds_app _ _ (by rw [this]; exact q)]
    exact this
  · intro t s' hs' q
    rw [cs s' hs']; exact h6 t s' hs' q
  · intro r hr t ht o ho
    rw [cs _ (hmm _)]
    rcases mem 3 r _ ht with y | ⟨y1, y2⟩
    · exact h7 r hr t y o ho
    · exact (he _ y2).2.2.2.2.2 rfl o ho
  · intro s' hs' r hr t
    rw [c3]
    constructor
    · intro ht
      rcases mem s' r _ ht with y | ⟨y1, y2⟩
      · have := (h8 s' hs' r hr t).1 y
        rw [pu_ds_app _ _ (by rw [this]; decide)]
        exact this
      · omega
    · intro ht
      rcases mem s' r _ ht with y | ⟨y1, y2⟩
      · have := (h8 s' hs' r hr t).2 y
        rw [pu_ds_app _ _ (by rw [this]; decide)]
        exact this
      · omega
  · intro s' hs'
    rw [pu_up_ne _ _ (show s' ≠ 3 by omega), pu_up_ne _ _ (show s' ≠ 3 by omega)]; exact h9 s' hs'
  · intro t s' hs' q i hi
    rw [cs s' hs']; exact h10 t s' hs' q i hi
/-- the answer of result: what the vote noted is what the serial order gives -/
theorem pu_I_result (h : pu_I n op cl vi lg dn kv kd rs M C) {t s i : Nat} (hs : s < 3) (hi : pu_sh (op t) i = s) (hd : kd t = 1) (hv : kv t s = 1) : rs t i = (pu_sr op (C 3)).2.2 t i := by
  obtain ⟨h1, h2, h3, h4, h5, h6, h7, h8, h9, h10, h11⟩ := h
  rw [h10 t s hs hv i hi]
  exact (h2.2.2.2.2 t (by rw [h5 t (by rw [hd]; decide)]; exact hd) s hs i hi).symm
end
