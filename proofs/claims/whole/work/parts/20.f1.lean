/-! the frame: one world of fixed cells at addresses ad 0, ad 1, ..; what they hold is a table of numbers -/
abbrev gx_M : Type := Nat → Nat → Nat
def gx_wl (N : Nat) (ad : Nat → Nat) (f : Nat → va_E) : va_W := (List.range N).map (fun n => (ad n, f n))
theorem gx_wl_at {N n : Nat} {ad : Nat → Nat} {f : Nat → va_E} (h : n < N) : (gx_wl N ad f)[n]? = some (ad n, f n) := by
  unfold gx_wl
  rw [List.getElem?_map, List.getElem?_range h]
  rfl
theorem gx_wl_of {N n : Nat} {ad : Nat → Nat} {f : Nat → va_E} {q : Nat × va_E} (h : (gx_wl N ad f)[n]? = some q) : n < N ∧ q = (ad n, f n) := by
  have hl : (gx_wl N ad f).length = N := by simp [gx_wl]
  have hn : n < N := by
    have := (List.getElem?_eq_some_iff.mp h).1
    rwa [hl] at this
  rw [gx_wl_at hn] at h
  exact ⟨hn, (Option.some.inj h).symm⟩
theorem gx_wl_set {N n : Nat} {ad : Nat → Nat} {f : Nat → va_E} (x : va_E) (h : n < N) : (gx_wl N ad f).set n (ad n, x) = gx_wl N ad (va_up f n x) := by
  have hl : (gx_wl N ad f).length = N := by simp [gx_wl]
  apply List.ext_getElem?
  intro i
  rw [List.getElem?_set, hl]
  by_cases hi : n = i
  · subst hi
    rw [if_pos rfl, if_pos h, gx_wl_at h, va_up_self]
  · rw [if_neg hi]
    by_cases h2 : i < N
    · rw [gx_wl_at h2, gx_wl_at h2, va_up_ne _ _ (Ne.symm hi)]
    · rw [List.getElem?_eq_none (by rw [hl]; omega), List.getElem?_eq_none (by simp [gx_wl]; omega)]
theorem gx_wl_push {N : Nat} {ad : Nat → Nat} {f : Nat → va_E} (q : Nat) (x : va_E) : gx_wl N ad f ++ [(q, x)] = gx_wl (N + 1) (va_up ad N q) (va_up f N x) := by
  unfold gx_wl
  rw [List.range_succ, List.map_append]
  congr 1
  · apply List.map_congr_left
    intro a ha
    have : a ≠ N := by have := List.mem_range.mp ha; omega
    rw [va_up_ne _ _ this, va_up_ne _ _ this]
  · simp [va_up_self]
theorem gx_wl_congr {N : Nat} {ad : Nat → Nat} {f g : Nat → va_E} (h : ∀ n, n < N → f n = g n) : gx_wl N ad f = gx_wl N ad g := by
  unfold gx_wl
  apply List.map_congr_left
  intro a ha
  rw [h a (List.mem_range.mp ha)]
/-- the addresses are apart and of a kind -/
def gx_J (N : Nat) (ad : Nat → Nat) (A : Nat → Prop) : Prop := (∀ i j, i < N → j < N → ad i = ad j → i = j) ∧ ∀ i, i < N → A (ad i)
def gx_A (N : Nat) (ad : Nat → Nat) : Nat → Prop := fun q => ∃ i, i < N ∧ ad i = q
theorem gx_D {N : Nat} {ad : Nat → Nat} {A : Nat → Prop} (h : gx_J N ad A) (f : Nat → va_E) : va_D A (gx_wl N ad f) := by
  refine ⟨fun i j p q hi hj e => ?_, fun k q hk => ?_⟩
  · obtain ⟨h1, rfl⟩ := gx_wl_of hi
    obtain ⟨h2, rfl⟩ := gx_wl_of hj
    exact h.1 i j h1 h2 e
  · obtain ⟨h1, rfl⟩ := gx_wl_of hk
    exact h.2 k h1
theorem gx_J_of {N : Nat} {ad : Nat → Nat} {A : Nat → Prop} {f : Nat → va_E} (h : va_D A (gx_wl N ad f)) : gx_J N ad A :=
  ⟨fun i j hi hj e => h.1 i j _ _ (gx_wl_at hi) (gx_wl_at hj) e, fun i hi => h.2 i _ (gx_wl_at hi)⟩
theorem gx_J_own {N : Nat} {ad : Nat → Nat} {A : Nat → Prop} (h : gx_J N ad A) : gx_J N ad (gx_A N ad) := ⟨h.1, fun i hi => ⟨i, hi, rfl⟩⟩
theorem gx_J_in {N : Nat} {ad : Nat → Nat} {A : Nat → Prop} (h : gx_J N ad A) : ∀ q, gx_A N ad q → A q := fun q ⟨i, hi, e⟩ => e ▸ h.2 i hi
/-- one number is written -/
def gx_w (σ : gx_M) (n k v : Nat) : gx_M := va_up σ n (va_up (σ n) k v)
theorem gx_w_self (σ : gx_M) (n k v : Nat) : gx_w σ n k v n k = v := by simp [gx_w, va_up]
theorem gx_w_row (σ : gx_M) {n m : Nat} (k v : Nat) (h : m ≠ n) : gx_w σ n k v m = σ m := by simp [gx_w, va_up, h]
theorem gx_w_col (σ : gx_M) (n : Nat) {k j : Nat} (v : Nat) (h : j ≠ k) : gx_w σ n k v n j = σ n j := by simp [gx_w, va_up, h]
theorem gx_w_at (σ : gx_M) (n k v m j : Nat) : gx_w σ n k v m j = if m = n ∧ j = k then v else σ m j := by
  unfold gx_w va_up
  by_cases h : m = n
  · subst h
    by_cases h2 : j = k
    · simp [h2]
    · simp [h2]
  · simp [h]
def gx_P (D : va_G) (cl : List vw_C) (N : Nat) (ad : Nat → Nat) (ec : Nat → (Nat → Nat) → va_E) (σ : gx_M) (H : Heap) : Prop := va_P D cl (gx_wl N ad (fun n => ec n (σ n))) H
theorem gx_P_at {D : va_G} {cl : List vw_C} {N : Nat} {ad : Nat → Nat} {ec : Nat → (Nat → Nat) → va_E} {σ : gx_M} {H : Heap} {n : Nat} {x : va_E} (hn : n < N) (hc : ec n (σ n) = x) : (gx_wl N ad (fun n => ec n (σ n)))[n]? = some (ad n, x) := by
  rw [gx_wl_at hn, hc]
theorem gx_P_set {D : va_G} {cl : List vw_C} {N : Nat} {ad : Nat → Nat} {ec : Nat → (Nat → Nat) → va_E} {σ : gx_M} {H : Heap} {n : Nat} {row : Nat → Nat} {x : va_E} (hn : n < N) (hc : ec n row = x)
    (h : va_P D cl ((gx_wl N ad (fun n => ec n (σ n))).set n (ad n, x)) H) : gx_P D cl N ad ec (va_up σ n row) H := by
  rw [gx_wl_set _ hn] at h
  unfold gx_P
  have : gx_wl N ad (fun i => ec i (va_up σ n row i)) = gx_wl N ad (va_up (fun n => ec n (σ n)) n x) := by
    apply gx_wl_congr
    intro i _
    by_cases q : i = n
    · subst q
      rw [va_up_self, va_up_self]; exact hc
    · rw [va_up_ne _ _ q, va_up_ne _ _ q]
  rw [this]
  exact h
/-- numbers -/
theorem gx_mul (a b : Nat) : nI a * nI b = nI (a * b) := (Int32.ofNat_mul a b).symm
theorem gx_sub {a b : Nat} (h : b ≤ a) : nI a - nI b = nI (a - b) := by
  have : nI a = nI (a - b) + nI b := by rw [nI_add, Nat.sub_add_cancel h]
  rw [this, Int32.add_sub_cancel]
theorem gx_mod {a b : Nat} (ha : a < 2 ^ 31) (hb : b < 2 ^ 31) (h0 : 0 < b) : nI a % nI b = nI (a % b) := by
  apply Int32.toInt_inj.mp
  have hm : a % b < b := Nat.mod_lt _ h0
  rw [Int32.toInt_mod, nI_toInt ha, nI_toInt hb, nI_toInt (by omega)]
  rfl
theorem gx_div {a b : Nat} (ha : a < 2 ^ 31) (hb : b < 2 ^ 31) : nI a / nI b = nI (a / b) := by
  apply Int32.toInt_inj.mp
  have hd : a / b ≤ a := Nat.div_le_self a b
  rw [Int32.toInt_div, nI_toInt ha, nI_toInt hb, nI_toInt (by omega)]
  show (((a / b : Nat) : Int)).bmod (2 ^ 32) = ((a / b : Nat) : Int)
  generalize a / b = q at hd
  have e32 : ((2 ^ 32 : Nat) : Int) = 4294967296 := by decide
  rw [Int.bmod_def, e32]
  split <;> omega
theorem gx_surj (x : Int32) : ∃ n : Nat, n < 2 ^ 32 ∧ x = nI n := by
  refine ⟨x.toUInt32.toNat, x.toUInt32.toNat_lt, ?_⟩
  apply Int32.toBitVec_inj.mp
  simp [nI]
theorem gx_row (f : Nat → Nat) (i v : Nat) : upd (fun j => nI (f j)) i (nI v) = fun j => nI (va_up f i v j) := by
  funext j
  unfold upd va_up
  split <;> rfl
section GX
variable {p : Program} {l : Launch} {e : Env} {R : Room} {s : State} {m : MethodId} {args : Array Value} {below : List Frame} {meth : Method} {c : Code} {H : Heap} {locs : List Loc} {cells slots : Nat} {Q : State → Prop}
variable {cc : ByteArray} {pc : Nat} {ls : Array Slot} {rest : List Value} {D : va_G} {cl : List vw_C} {A : Nat → Prop} {tys : List (ClassId × FieldType)} {H0 : Heap} {N : Nat} {ad : Nat → Nat} {ec : Nat → (Nat → Nat) → va_E} {σ : gx_M}
theorem gx_iald (hexec : p.tables.exec = Jvm.exec) (hb : c.code = cc) (hK : va_K D cl tys s) (hP : gx_P D cl N ad ec σ H) {n len i : Nat} (hn : n < N) (t0 : Nat) {cA : ClassId} (hc : ec n (σ n) = .inl (cA, len, .inl (fun j => nI (σ n j)))) (ht : tys[t0]? = some (cA, .int)) (hi : i < len) (hl : len < 2 ^ 31) (hdg : decode cc pc = .ok (.iaload, 1))
    (kk : W p l e R s m args below meth c H locs cells slots Q (F0 m (pc + 1) ls (.int (nI (σ n i)) :: rest))) : W p l e R s m args below meth c H locs cells slots Q (F0 m pc ls (.int (nI i) :: .ref (ad n) :: rest)) := by
  refine va_iald hexec hb hK hP n t0 (gx_P_at (D := D) (cl := cl) (H := H) hn hc) ht (vp_in_nI hi hl) hdg ?_
  rw [nI_clamp (Nat.lt_trans hi hl)]
  exact kk
theorem gx_zald (hexec : p.tables.exec = Jvm.exec) (hb : c.code = cc) (hK : va_K D cl tys s) (hP : gx_P D cl N ad ec σ H) {n len i : Nat} (hn : n < N) (t0 : Nat) {cA : ClassId} (hc : ec n (σ n) = .inl (cA, len, .inl (fun j => nI (σ n j)))) (ht : tys[t0]? = some (cA, .boolean)) (hi : i < len) (hl : len < 2 ^ 31) (hdg : decode cc pc = .ok (.baload, 1))
    (kk : W p l e R s m args below meth c H locs cells slots Q (F0 m (pc + 1) ls (.int (nI (σ n i)) :: rest))) : W p l e R s m args below meth c H locs cells slots Q (F0 m pc ls (.int (nI i) :: .ref (ad n) :: rest)) := by
  refine va_zald hexec hb hK hP n t0 (gx_P_at (D := D) (cl := cl) (H := H) hn hc) ht (vp_in_nI hi hl) hdg ?_
  rw [nI_clamp (Nat.lt_trans hi hl)]
  exact kk
theorem gx_aald (hexec : p.tables.exec = Jvm.exec) (hb : c.code = cc) (hK : va_K D cl tys s) (hP : gx_P D cl N ad ec σ H) {n len i a : Nat} (hn : n < N) (t0 : Nat) {cA : ClassId} {C : String} {f : Nat → Option Nat} (hc : ec n (σ n) = .inl (cA, len, .inr (.inr (.inr (.inr f))))) (ht : tys[t0]? = some (cA, .object C)) (hi : i < len) (hl : len < 2 ^ 31) (hf : f i = some a) (hdg : decode cc pc = .ok (.aaload, 1))
    (kk : W p l e R s m args below meth c H locs cells slots Q (F0 m (pc + 1) ls (.ref a :: rest))) : W p l e R s m args below meth c H locs cells slots Q (F0 m pc ls (.int (nI i) :: .ref (ad n) :: rest)) := by
  refine va_aldq hexec hb hK hP n t0 (gx_P_at (D := D) (cl := cl) (H := H) hn hc) ht (vp_in_nI hi hl) hdg ?_
  rw [nI_clamp (Nat.lt_trans hi hl), hf]
  exact kk
theorem gx_iast (hexec : p.tables.exec = Jvm.exec) (hb : c.code = cc) (hK : va_K D cl tys s) (hJ : gx_J N ad A) (hP : gx_P D cl N ad ec σ H) (hS : va_S A H0 H locs) {n len i v : Nat} (hn : n < N) (t0 : Nat) {cA : ClassId} (hc : ∀ f : Nat → Nat, ec n f = .inl (cA, len, .inl (fun j => nI (f j)))) (ht : tys[t0]? = some (cA, .int)) (hi : i < len) (hl : len < 2 ^ 31) (hdg : decode cc pc = .ok (.iastore, 1))
    (kk : ∀ (H : Heap) (locs : List Loc), gx_P D cl N ad ec (gx_w σ n i v) H → va_S A H0 H locs → W p l e R s m args below meth c H locs cells slots Q (F0 m (pc + 1) ls rest)) : W p l e R s m args below meth c H locs cells slots Q (F0 m pc ls (.int (nI v) :: .int (nI i) :: .ref (ad n) :: rest)) := by
  refine va_iast hexec hb hK hP (gx_D hJ _) hS n t0 (gx_P_at (D := D) (cl := cl) (H := H) hn (hc (σ n))) ht (vp_in_nI hi hl) hdg (fun H1 locs1 hP1 _ hS1 => kk H1 locs1 ?_ hS1)
  rw [nI_clamp (Nat.lt_trans hi hl), gx_row] at hP1
  exact gx_P_set hn (hc _) hP1
theorem gx_zast (hexec : p.tables.exec = Jvm.exec) (hb : c.code = cc) (hK : va_K D cl tys s) (hJ : gx_J N ad A) (hP : gx_P D cl N ad ec σ H) (hS : va_S A H0 H locs) {n len i v : Nat} (hn : n < N) (t0 : Nat) {cA : ClassId} (hc : ∀ f : Nat → Nat, ec n f = .inl (cA, len, .inl (fun j => nI (f j)))) (ht : tys[t0]? = some (cA, .boolean)) (hi : i < len) (hl : len < 2 ^ 31) (hv : vp_nar .boolean (nI v) = nI v) (hdg : decode cc pc = .ok (.bastore, 1))
    (kk : ∀ (H : Heap) (locs : List Loc), gx_P D cl N ad ec (gx_w σ n i v) H → va_S A H0 H locs → W p l e R s m args below meth c H locs cells slots Q (F0 m (pc + 1) ls rest)) : W p l e R s m args below meth c H locs cells slots Q (F0 m pc ls (.int (nI v) :: .int (nI i) :: .ref (ad n) :: rest)) := by
  refine va_zast hexec hb hK hP (gx_D hJ _) hS n t0 (gx_P_at (D := D) (cl := cl) (H := H) hn (hc (σ n))) ht (vp_in_nI hi hl) hdg (fun H1 locs1 hP1 _ hS1 => kk H1 locs1 ?_ hS1)
  rw [hv, nI_clamp (Nat.lt_trans hi hl), gx_row] at hP1
  exact gx_P_set hn (hc _) hP1
theorem gx_get (hexec : p.tables.exec = Jvm.exec) (hb : c.code = cc) {own ref C : String} {T : u_T} {NF ci index : Nat} {Ts : List Cond} (hts : ∀ w ∈ Ts, w.before args s = true) (hin : ∀ w ∈ u_ws C T NF, w ∈ Ts) (hown : s.vm.findClass own = some m.cls) (hK : va_K D cl tys s) (hP : gx_P D cl N ad ec σ H) {n : Nat} (hn : n < N) {fs : List Value} (hc : ec n (σ n) = .inr (ci, fs)) (hcl : cl[ci]? = some (C, T, NF)) (k : Nat) (hk : k < NF) (hlink : (Cond.fieldLink own index ref (T k).2.1 (T k).2.2.1).before args s = true) (hsame : ∀ x, s.fieldFound? (T k).1 (T k).2.1 (T k).2.2.1 = some x → s.fieldFound? ref (T k).2.1 (T k).2.2.1 = some x) {v : Value} (hv : fs[k]? = some v) (hdg : decode cc pc = .ok (.getfield index, 3))
    (kk : W p l e R s m args below meth c H locs cells slots Q (F0 m (pc + 3) ls (v :: rest))) : W p l e R s m args below meth c H locs cells slots Q (F0 m pc ls (.ref (ad n) :: rest)) :=
  va_get hexec hb hts hin hown hK hP n (gx_P_at (D := D) (cl := cl) (H := H) hn hc) hcl k hk hlink hsame hv hdg kk
theorem gx_put (hexec : p.tables.exec = Jvm.exec) (hb : c.code = cc) {own ref C : String} {T : u_T} {NF ci index : Nat} {Ts : List Cond} (hts : ∀ w ∈ Ts, w.before args s = true) (hin : ∀ w ∈ u_ws C T NF, w ∈ Ts) (ty0 : Nat → FieldType) (hty : ∀ k, k < NF → parseFieldDescriptor (T k).2.2.1 = some (ty0 k)) (hnm : ∀ a, a < NF → ∀ b, b < NF → a ≠ b → (T a).2.1 ≠ (T b).2.1) (hown : s.vm.findClass own = some m.cls) (hK : va_K D cl tys s) (hJ : gx_J N ad A) (hP : gx_P D cl N ad ec σ H) (hS : va_S A H0 H locs) {n : Nat} (hn : n < N) {fs : (Nat → Nat) → List Value} (hc : ∀ f, ec n f = .inr (ci, fs f)) (hcl : cl[ci]? = some (C, T, NF)) (k : Nat) (hk : k < NF) (hlink : (Cond.fieldLink own index ref (T k).2.1 (T k).2.2.1).before args s = true) (hsame : ∀ x, s.fieldFound? (T k).1 (T k).2.1 (T k).2.2.1 = some x → s.fieldFound? ref (T k).2.1 (T k).2.2.1 = some x) (hfin : (T k).2.2.2 = false) {ty : FieldType} {v : Nat} {w : Value} (hd : parseFieldDescriptor (T k).2.2.1 = some ty) (hnw : narrow ty w = w) (hfit : fits ty w = true) (hl : k < (fs (σ n)).length) (hset : ∀ f, (fs f).set k w = fs (va_up f k v))
    (hdg : decode cc pc = .ok (.putfield index, 3)) (kk : ∀ (H : Heap) (locs : List Loc), gx_P D cl N ad ec (gx_w σ n k v) H → va_S A H0 H locs → W p l e R s m args below meth c H locs cells slots Q (F0 m (pc + 3) ls rest)) : W p l e R s m args below meth c H locs cells slots Q (F0 m pc ls (w :: .ref (ad n) :: rest)) := by
  refine va_put hexec hb hts hin ty0 hty hnm hown hK hP (gx_D hJ _) hS n (gx_P_at (D := D) (cl := cl) (H := H) hn (hc (σ n))) hcl k hk hlink hsame hfin hd hnw hfit hl hdg (fun H1 locs1 hP1 _ hS1 => kk H1 locs1 ?_ hS1)
  rw [hset] at hP1
  exact gx_P_set hn (hc _) hP1
/-- compares of small numbers -/
theorem gx_icmp_ge (hexec : p.tables.exec = Jvm.exec) (hb : c.code = cc) {x y : Nat} {off : Int} {tgt : Nat} (hdg : decode cc pc = .ok (.if_icmp .ge off, 3)) (ht : (pc : Int) + off = (tgt : Int)) (hx : x < 2 ^ 31) (hy : y < 2 ^ 31)
    (kt : y ≤ x → W p l e R s m args below meth c H locs cells slots Q (F0 m tgt ls rest)) (kf : x < y → W p l e R s m args below meth c H locs cells slots Q (F0 m (pc + 3) ls rest)) : W p l e R s m args below meth c H locs cells slots Q (F0 m pc ls (.int (nI y) :: .int (nI x) :: rest)) :=
  lv_icmp_ge hexec hb hdg ht (fun h => kt ((nI_leI hy hx).mp h)) (fun h => kf (by have := mt (nI_leI hy hx).mpr h; omega))
theorem gx_icmp_lt (hexec : p.tables.exec = Jvm.exec) (hb : c.code = cc) {x y : Nat} {off : Int} {tgt : Nat} (hdg : decode cc pc = .ok (.if_icmp .lt off, 3)) (ht : (pc : Int) + off = (tgt : Int)) (hx : x < 2 ^ 31) (hy : y < 2 ^ 31)
    (kt : x < y → W p l e R s m args below meth c H locs cells slots Q (F0 m tgt ls rest)) (kf : y ≤ x → W p l e R s m args below meth c H locs cells slots Q (F0 m (pc + 3) ls rest)) : W p l e R s m args below meth c H locs cells slots Q (F0 m pc ls (.int (nI y) :: .int (nI x) :: rest)) :=
  lv_icmp_lt hexec hb hdg ht (fun h => kt ((nI_ltI hx hy).mp h)) (fun h => kf (by have := mt (nI_ltI hx hy).mpr h; omega))
theorem gx_icmp_gt (hexec : p.tables.exec = Jvm.exec) (hb : c.code = cc) {x y : Nat} {off : Int} {tgt : Nat} (hdg : decode cc pc = .ok (.if_icmp .gt off, 3)) (ht : (pc : Int) + off = (tgt : Int)) (hx : x < 2 ^ 31) (hy : y < 2 ^ 31)
    (kt : y < x → W p l e R s m args below meth c H locs cells slots Q (F0 m tgt ls rest)) (kf : x ≤ y → W p l e R s m args below meth c H locs cells slots Q (F0 m (pc + 3) ls rest)) : W p l e R s m args below meth c H locs cells slots Q (F0 m pc ls (.int (nI y) :: .int (nI x) :: rest)) :=
  lv_icmp_gt hexec hb hdg ht (fun h => kt ((nI_ltI hy hx).mp h)) (fun h => kf (by have := mt (nI_ltI hy hx).mpr h; omega))
theorem gx_icmp_le (hexec : p.tables.exec = Jvm.exec) (hb : c.code = cc) {x y : Nat} {off : Int} {tgt : Nat} (hdg : decode cc pc = .ok (.if_icmp .le off, 3)) (ht : (pc : Int) + off = (tgt : Int)) (hx : x < 2 ^ 31) (hy : y < 2 ^ 31)
    (kt : x ≤ y → W p l e R s m args below meth c H locs cells slots Q (F0 m tgt ls rest)) (kf : y < x → W p l e R s m args below meth c H locs cells slots Q (F0 m (pc + 3) ls rest)) : W p l e R s m args below meth c H locs cells slots Q (F0 m pc ls (.int (nI y) :: .int (nI x) :: rest)) :=
  lv_icmp_le hexec hb hdg ht (fun h => kt ((nI_leI hx hy).mp h)) (fun h => kf (by have := mt (nI_leI hx hy).mpr h; omega))
theorem gx_icmp_eq (hexec : p.tables.exec = Jvm.exec) (hb : c.code = cc) {x y : Nat} {off : Int} {tgt : Nat} (hdg : decode cc pc = .ok (.if_icmp .eq off, 3)) (ht : (pc : Int) + off = (tgt : Int)) (hx : x < 2 ^ 31) (hy : y < 2 ^ 31)
    (kt : x = y → W p l e R s m args below meth c H locs cells slots Q (F0 m tgt ls rest)) (kf : x ≠ y → W p l e R s m args below meth c H locs cells slots Q (F0 m (pc + 3) ls rest)) : W p l e R s m args below meth c H locs cells slots Q (F0 m pc ls (.int (nI y) :: .int (nI x) :: rest)) :=
  lv_icmp_eq hexec hb hdg ht (fun h => kt ((nI_eq hx hy).mp h)) (fun h => kf (mt (nI_eq hx hy).mpr h))
theorem gx_icmp_ne (hexec : p.tables.exec = Jvm.exec) (hb : c.code = cc) {x y : Nat} {off : Int} {tgt : Nat} (hdg : decode cc pc = .ok (.if_icmp .ne off, 3)) (ht : (pc : Int) + off = (tgt : Int)) (hx : x < 2 ^ 31) (hy : y < 2 ^ 31)
    (kt : x ≠ y → W p l e R s m args below meth c H locs cells slots Q (F0 m tgt ls rest)) (kf : x = y → W p l e R s m args below meth c H locs cells slots Q (F0 m (pc + 3) ls rest)) : W p l e R s m args below meth c H locs cells slots Q (F0 m pc ls (.int (nI y) :: .int (nI x) :: rest)) :=
  lv_icmp_ne hexec hb hdg ht (fun h => kt (mt (nI_eq hx hy).mpr h)) (fun h => kf ((nI_eq hx hy).mp h))
theorem gx_if_eq (hexec : p.tables.exec = Jvm.exec) (hb : c.code = cc) {x : Nat} {off : Int} {tgt : Nat} (hdg : decode cc pc = .ok (.ifCond .eq off, 3)) (ht : (pc : Int) + off = (tgt : Int)) (hx : x < 2 ^ 31)
    (kt : x = 0 → W p l e R s m args below meth c H locs cells slots Q (F0 m tgt ls rest)) (kf : x ≠ 0 → W p l e R s m args below meth c H locs cells slots Q (F0 m (pc + 3) ls rest)) : W p l e R s m args below meth c H locs cells slots Q (F0 m pc ls (.int (nI x) :: rest)) := by
  have h0 : nI x = 0 ↔ x = 0 := by rw [← nI_0]; exact nI_eq hx (by decide)
  exact lv_if_eq hexec hb hdg ht (fun h => kt (h0.mp h)) (fun h => kf (mt h0.mpr h))
theorem gx_if_ne (hexec : p.tables.exec = Jvm.exec) (hb : c.code = cc) {x : Nat} {off : Int} {tgt : Nat} (hdg : decode cc pc = .ok (.ifCond .ne off, 3)) (ht : (pc : Int) + off = (tgt : Int)) (hx : x < 2 ^ 31)
    (kt : x ≠ 0 → W p l e R s m args below meth c H locs cells slots Q (F0 m tgt ls rest)) (kf : x = 0 → W p l e R s m args below meth c H locs cells slots Q (F0 m (pc + 3) ls rest)) : W p l e R s m args below meth c H locs cells slots Q (F0 m pc ls (.int (nI x) :: rest)) := by
  have h0 : nI x = 0 ↔ x = 0 := by rw [← nI_0]; exact nI_eq hx (by decide)
  exact lv_if_ne hexec hb hdg ht (fun h => kt (mt h0.mpr h)) (fun h => kf (h0.mp h))
theorem gx_if_ge (hexec : p.tables.exec = Jvm.exec) (hb : c.code = cc) {x : Nat} {off : Int} {tgt : Nat} (hdg : decode cc pc = .ok (.ifCond .ge off, 3)) (ht : (pc : Int) + off = (tgt : Int)) (hx : x < 2 ^ 31)
    (kt : W p l e R s m args below meth c H locs cells slots Q (F0 m tgt ls rest)) : W p l e R s m args below meth c H locs cells slots Q (F0 m pc ls (.int (nI x) :: rest)) :=
  lv_if_ge hexec hb hdg ht (fun _ => kt) (fun h => absurd (nI_pos' hx) h)
theorem gx_if_lt (hexec : p.tables.exec = Jvm.exec) (hb : c.code = cc) {x : Nat} {off : Int} {tgt : Nat} (hdg : decode cc pc = .ok (.ifCond .lt off, 3)) (ht : (pc : Int) + off = (tgt : Int)) (hx : x < 2 ^ 31)
    (kf : W p l e R s m args below meth c H locs cells slots Q (F0 m (pc + 3) ls rest)) : W p l e R s m args below meth c H locs cells slots Q (F0 m pc ls (.int (nI x) :: rest)) :=
  lv_if_lt hexec hb hdg ht (fun h => absurd h (nI_pos hx)) (fun _ => kf)
/-- arithmetic of numbers -/
theorem gx_iadd (hexec : p.tables.exec = Jvm.exec) (hb : c.code = cc) {x y : Nat} (hdg : decode cc pc = .ok (.iadd, 1)) (k : W p l e R s m args below meth c H locs cells slots Q (F0 m (pc + 1) ls (.int (nI (x + y)) :: rest))) : W p l e R s m args below meth c H locs cells slots Q (F0 m pc ls (.int (nI y) :: .int (nI x) :: rest)) :=
  lv_iadd hexec hb hdg (by rw [nI_add]; exact k)
theorem gx_imul (hexec : p.tables.exec = Jvm.exec) (hb : c.code = cc) {x y : Nat} (hdg : decode cc pc = .ok (.imul, 1)) (k : W p l e R s m args below meth c H locs cells slots Q (F0 m (pc + 1) ls (.int (nI (x * y)) :: rest))) : W p l e R s m args below meth c H locs cells slots Q (F0 m pc ls (.int (nI y) :: .int (nI x) :: rest)) :=
  lv_imul hexec hb hdg (by rw [gx_mul]; exact k)
theorem gx_isub (hexec : p.tables.exec = Jvm.exec) (hb : c.code = cc) {x y : Nat} (hdg : decode cc pc = .ok (.isub, 1)) (hyx : y ≤ x) (k : W p l e R s m args below meth c H locs cells slots Q (F0 m (pc + 1) ls (.int (nI (x - y)) :: rest))) : W p l e R s m args below meth c H locs cells slots Q (F0 m pc ls (.int (nI y) :: .int (nI x) :: rest)) :=
  lv_isub hexec hb hdg (by rw [gx_sub hyx]; exact k)
theorem gx_irem (hexec : p.tables.exec = Jvm.exec) (hb : c.code = cc) {x y : Nat} (hdg : decode cc pc = .ok (.irem, 1)) (hx : x < 2 ^ 31) (hy : y < 2 ^ 31) (h0 : 0 < y) (k : W p l e R s m args below meth c H locs cells slots Q (F0 m (pc + 1) ls (.int (nI (x % y)) :: rest))) : W p l e R s m args below meth c H locs cells slots Q (F0 m pc ls (.int (nI y) :: .int (nI x) :: rest)) :=
  lv_irem hexec hb hdg (nI_ne0 h0 hy) (by
    have h1 : x / y * y ≤ x := Nat.div_mul_le_self x y
    have h2 : x - x / y * y = x % y := by
      have := Nat.div_add_mod x y
      rw [Nat.mul_comm] at this
      omega
    rw [gx_div hx hy, gx_mul, gx_sub h1, h2]
    exact k)
theorem gx_idiv (hexec : p.tables.exec = Jvm.exec) (hb : c.code = cc) {x y : Nat} (hdg : decode cc pc = .ok (.idiv, 1)) (hx : x < 2 ^ 31) (hy : y < 2 ^ 31) (h0 : 0 < y) (k : W p l e R s m args below meth c H locs cells slots Q (F0 m (pc + 1) ls (.int (nI (x / y)) :: rest))) : W p l e R s m args below meth c H locs cells slots Q (F0 m pc ls (.int (nI y) :: .int (nI x) :: rest)) :=
  lv_idiv hexec hb hdg (nI_ne0 h0 hy) (by rw [gx_div hx hy]; exact k)
end GX
