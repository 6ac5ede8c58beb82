/-! constructors: a world that grows -/
def ct_h (U : State) : Prop := cg_hw U ∧ va_Nw (.methodLinkNest "CommitGroups" 11 ⟨"CommitGroups$Transaction", "<init>", "()V"⟩ "CommitGroups") U ∧ va_Nw (.methodLinkNest "CommitGroups" 36 ⟨"CommitGroups$Coordinator", "<init>", "()V"⟩ "CommitGroups") U ∧ va_Nw (.methodLinkNest "CommitGroups$ShardState" 3 ⟨"CommitGroups$State", "<init>", "()V"⟩ "CommitGroups") U ∧ va_Nw (.methodLinkNest "CommitGroups" 56 ⟨"CommitGroups$DecisionState", "<init>", "()V"⟩ "CommitGroups") U ∧ va_Nw (.methodLinkNest "CommitGroups$DecisionState" 3 ⟨"CommitGroups$State", "<init>", "()V"⟩ "CommitGroups") U ∧ va_AO "CommitGroups$Transaction" U ∧ va_AO "CommitGroups$Group" U ∧ va_AO "CommitGroups$ShardState" U ∧ va_AO "CommitGroups$DecisionState" U ∧ va_AO "CommitGroups$Replica" U
theorem ct_H : gx_H ct_h := by
  constructor
  · intro U g mk a h
    obtain ⟨h0, h1, h2, h3, h4, h5, a1, a2, a3, a4, a5⟩ := h
    have hv : U.vm.Alike (U.calling g mk a).vm := Vm.Alike.refl U.vm
    exact ⟨cg_H.1 U g mk a h0, va_Nw.same (u := U) rfl rfl h1, va_Nw.same (u := U) rfl rfl h2, va_Nw.same (u := U) rfl rfl h3, va_Nw.same (u := U) rfl rfl h4, va_Nw.same (u := U) rfl rfl h5, va_AO.moved hv a1, va_AO.moved hv a2, va_AO.moved hv a3, va_AO.moved hv a4, va_AO.moved hv a5⟩
  · intro s U hW h
    obtain ⟨h0, h1, h2, h3, h4, h5, a1, a2, a3, a4, a5⟩ := h
    exact ⟨cg_H.2 s U hW h0, va_Nw.warmM hW h1, va_Nw.warmM hW h2, va_Nw.warmM hW h3, va_Nw.warmM hW h4, va_Nw.warmM hW h5, va_AO.moved hW.alike a1, va_AO.moved hW.alike a2, va_AO.moved hW.alike a3, va_AO.moved hW.alike a4, va_AO.moved hW.alike a5⟩
def ct_A (N : Nat) (ad : Nat → Nat) (sz : Nat) : Nat → Prop := fun q => gx_A N ad q ∨ sz ≤ q
abbrev ct_P (dC : Nat → ClassId) (dI : Nat → Nat → Nat) (N : Nat) (ad : Nat → Nat) (E : Nat → va_E) (H : Heap) : Prop := va_P (dC, dI) cg_cl (gx_wl N ad E) H
abbrev ct_B (dC : Nat → ClassId) (dI : Nat → Nat → Nat) (cx : Nat → ClassId) (N : Nat) (ad : Nat → Nat) (E : Nat → va_E) (sz : Nat) (U : State) : Prop := U.heap.size = sz ∧ ct_P dC dI N ad E U.heap ∧ va_K (dC, dI) cg_cl (cg_tys cx) U ∧ ct_h U
abbrev ct_R (d mc ms : Nat) : Room := { frames := d, cells := mc, slots := ms, locals := 45 * d }
/-- a constructor: from a world of N cells to one of N2 -/
def ct_M (l : Launch) (dC : Nat → ClassId) (dI : Nat → Nat → Nat) (cx : Nat → ClassId) (y : MethodName) (ws : List Cond) (d mc ms : Nat) (av : List Value) (N : Nat) (ad : Nat → Nat) (E : Nat → va_E) (sz N2 : Nat) (E2 : (Nat → Nat) → Nat → va_E) : Prop :=
  Met l y ws (ct_R d mc ms) (va_Pc av (ct_B dC dI cx N ad E sz)) (va_Qv (fun ad2 : Nat → Nat => (∀ n, n < N → ad2 n = ad n) ∧ gx_J N2 ad2 (ct_A N ad sz)) (fun ad2 t => ct_P dC dI N2 ad2 (E2 ad2) t.heap) (ct_A N ad sz)) mc ms (ct_A N ad sz)
theorem ct_push {N : Nat} {ad : Nat → Nat} {A : Nat → Prop} {f : Nat → va_E} {q : Nat} {x : va_E} (h : va_D A (gx_wl N ad f ++ [(q, x)])) : gx_J (N + 1) (va_up ad N q) A := by
  rw [gx_wl_push] at h
  exact gx_J_of h
theorem ct_J {N : Nat} {ad : Nat → Nat} (h : gx_J N ad (fun _ => True)) (sz : Nat) : gx_J N ad (ct_A N ad sz) := ⟨h.1, fun i hi => Or.inl ⟨i, hi, rfl⟩⟩
section CT
variable {p : Program} {l : Launch} {e : Env} {R : Room} {s : State} {m : MethodId} {args : Array Value} {below : List Frame} {meth : Method} {c : Code} {H : Heap} {locs : List Loc} {cells slots : Nat} {Q : State → Prop}
variable {cc : ByteArray} {pc : Nat} {ls : Array Slot} {rest st0 : List Value} {A : Nat → Prop} {H0 : Heap} {dC : Nat → ClassId} {dI : Nat → Nat → Nat} {cx : Nat → ClassId} {ad : Nat → Nat} {own : String} {nL N : Nat} {E : Nat → va_E}
theorem ct_ofW {y : MethodName} {ws ws' : List Cond} {d mc ms : Nat} {av : List Value} {maxL sz N2 : Nat} {E2 : (Nat → Nat) → Nat → va_E} (hy : plainName y.cls = true) (hyn : y.name = "<init>") (hww : ws = Cond.code y cc maxL none :: ws') (hlen : (lg_sl av).length ≤ maxL) (hJ : gx_J N ad (fun _ => True))
    (body : ∀ (p : Program) (e : Env) (s : State) (m : MethodId) (below : List Frame) (meth : Method) (c : Code) (ls : Array Slot), CallFix p m c cc maxL s av.toArray ws y.cls → meth.sig.returnType = none → meth.locks = false → meth.name = "<init>" → va_K (dC, dI) cg_cl (cg_tys cx) s → ct_h s → lv_has ls maxL (lv_args 0 av) → ct_P dC dI N ad E s.heap → gx_J N ad (ct_A N ad s.heap.size) → (∀ q, s.heap.size ≤ q → ct_A N ad s.heap.size q) →
      W p l e (ct_R d mc ms) s m av.toArray below meth c s.heap [] 0 0 (MQ below (va_Qv (fun ad2 : Nat → Nat => (∀ n, n < N → ad2 n = ad n) ∧ gx_J N2 ad2 (ct_A N ad s.heap.size)) (fun ad2 t => ct_P dC dI N2 ad2 (E2 ad2) t.heap) (ct_A N ad s.heap.size)) av.toArray s mc ms (ct_A N ad s.heap.size)) (F0 m 0 ls [])) : ct_M l dC dI cx y ws d mc ms av N ad E sz N2 E2 := by
  refine Met.ofW (cc := cc) (maxL := maxL) (ret := none) hy hww ?_
  intro p e s m args below meth c s₁ B hml hv
  obtain ⟨rfl, hsz, hP, hK, hN⟩ := hv
  subst hsz
  rw [lg_entry_eq]
  exact body p e s m below meth c _ ⟨B.exec, B.bytes, hml, findClass_of_methodNamed B.named, atoms_spec (ws := ws) B.pre⟩ B.returns B.notSynchronized ((name_of_methodNamed B.named B.method).1.trans hyn) hK hN (lv_entry av hlen) hP (ct_J hJ _) (fun q h => Or.inr h)
theorem ct_ret {N0 N2 : Nat} {ad0 : Nat → Nat} {E2 : (Nat → Nat) → Nat → va_E} (hexec : p.tables.exec = Jvm.exec) (hb : c.code = cc) (hr : meth.sig.returnType = none) (hlocks : meth.locks = false) (hP : ct_P dC dI N2 ad E H) (hJ : gx_J N2 ad (ct_A N0 ad0 s.heap.size)) (hS : va_S (ct_A N0 ad0 s.heap.size) s.heap H locs) (hdg : decode cc pc = .ok (.return_, 1)) (h1 : ∀ n, n < N0 → ad n = ad0 n) (h2 : ∀ n, n < N2 → E n = E2 ad n) :
    W p l e R s m args below meth c H locs cells slots (MQ below (va_Qv (fun ad2 : Nat → Nat => (∀ n, n < N0 → ad2 n = ad0 n) ∧ gx_J N2 ad2 (ct_A N0 ad0 s.heap.size)) (fun ad2 t => ct_P dC dI N2 ad2 (E2 ad2) t.heap) (ct_A N0 ad0 s.heap.size)) args s cells slots (ct_A N0 ad0 s.heap.size)) (F0 m pc ls []) := by
  refine W.vret hexec hb hr (fun t ht _ => ⟨⟨ad, rfl, ⟨h1, hJ⟩, ?_⟩, hS.F ht⟩) hS.2.2 hdg hlocks
  show va_P (dC, dI) cg_cl (gx_wl N2 ad (E2 ad)) t.heap
  rw [ht, ← gx_wl_congr h2]
  exact hP
theorem ct_newi (X : cg_X cc own nL dC dI cx p m c s args) (hP : ct_P dC dI N ad E H) (hJ : gx_J N ad A) (hS : va_S A H0 H locs) (hA : ∀ q, H0.size ≤ q → A q) {k : Nat} (hk : k < 1000) (harr : (Cond.arrayClass .int).before args s = true) (hcells : cells + 1 ≤ R.cells) (hslots : slots + k ≤ R.slots) (hdg : decode cc pc = .ok (.newarray .int, 2))
    (kk : ∀ (q : Nat) (H1 : Heap), ct_P dC dI (N + 1) (va_up ad N q) (va_up E N (ce_i cx k (fun _ => 0))) H1 → gx_J (N + 1) (va_up ad N q) A → va_S A H0 H1 locs → W p l e R s m args below meth c H1 locs (cells + 1) (slots + k) Q (F0 m (pc + 2) ls (.ref q :: rest))) : W p l e R s m args below meth c H locs cells slots Q (F0 m pc ls (.int (nI k) :: rest)) := by
  refine va_newa (D := (dC, dI)) (cl := cg_cl) X.1 X.2.1 (atype := .int) (ty := .int) (a0 := (k, .inl (fun _ => nI 0))) harr rfl X.2.2.2.2.1 hP (gx_D hJ _) hS hA (fun cA => ?_) (nI_pos (by omega)) (nI_clamp (by omega)) (by show k * 4 ≤ _; omega) hcells hslots hdg (fun q cA H1 hK hP1 hD1 hS1 => ?_)
  · rw [nI_0]; rfl
  · have e1 : cA = cx 0 := by
      have h1 := va_nm_int (hK.2 7 (cA, .int) rfl).2
      have h2 := va_nm_int (X.2.2.2.2.1.2 0 (cx 0, .int) rfl).2
      exact Option.some.inj (h1.symm.trans h2)
    subst e1
    have hJ1 := ct_push hD1
    have hP1 : va_P (dC, dI) cg_cl (gx_wl N ad E ++ [(q, .inl (cx 0, k, .inl (fun _ => nI 0)))]) H1 := hP1
    rw [gx_wl_push] at hP1
    exact kk q H1 hP1 hJ1 hS1
theorem ct_newz (X : cg_X cc own nL dC dI cx p m c s args) (hP : ct_P dC dI N ad E H) (hJ : gx_J N ad A) (hS : va_S A H0 H locs) (hA : ∀ q, H0.size ≤ q → A q) {k : Nat} (hk : k < 1000) (harr : (Cond.arrayClass .boolean).before args s = true) (hcells : cells + 1 ≤ R.cells) (hslots : slots + k ≤ R.slots) (hdg : decode cc pc = .ok (.newarray .boolean, 2))
    (kk : ∀ (q : Nat) (H1 : Heap), ct_P dC dI (N + 1) (va_up ad N q) (va_up E N (ce_z cx k (fun _ => 0))) H1 → gx_J (N + 1) (va_up ad N q) A → va_S A H0 H1 locs → W p l e R s m args below meth c H1 locs (cells + 1) (slots + k) Q (F0 m (pc + 2) ls (.ref q :: rest))) : W p l e R s m args below meth c H locs cells slots Q (F0 m pc ls (.int (nI k) :: rest)) := by
  refine va_newa (D := (dC, dI)) (cl := cg_cl) X.1 X.2.1 (atype := .boolean) (ty := .boolean) (a0 := (k, .inl (fun _ => nI 0))) harr rfl X.2.2.2.2.1 hP (gx_D hJ _) hS hA (fun cA => ?_) (nI_pos (by omega)) (nI_clamp (by omega)) (by show k * 1 ≤ _; omega) hcells hslots hdg (fun q cA H1 hK hP1 hD1 hS1 => ?_)
  · rw [nI_0]; rfl
  · have e1 : cA = cx 1 := by
      have h1 := va_nm_boolean (hK.2 7 (cA, .boolean) rfl).2
      have h2 := va_nm_boolean (X.2.2.2.2.1.2 1 (cx 1, .boolean) rfl).2
      exact Option.some.inj (h1.symm.trans h2)
    subst e1
    have hJ1 := ct_push hD1
    have hP1 : va_P (dC, dI) cg_cl (gx_wl N ad E ++ [(q, .inl (cx 1, k, .inl (fun _ => nI 0)))]) H1 := hP1
    rw [gx_wl_push] at hP1
    exact kk q H1 hP1 hJ1 hS1
theorem ct_newq (X : cg_X cc own nL dC dI cx p m c s args) (hP : ct_P dC dI N ad E H) (hJ : gx_J N ad A) (hS : va_S A H0 H locs) (hA : ∀ q, H0.size ≤ q → A q) {k t0 index : Nat} {C nm : String} (hk : k < 1000) (ht : (cg_tys cx)[t0]? = some (cx t0, .object C)) (hnm : "[" ++ (FieldType.object C).toString = nm) (hlk : Cond.classLink own index C ∈ gU) (hAO : va_AO C s) (hcells : cells + 1 ≤ R.cells) (hslots : slots + k ≤ R.slots) (hdg : decode cc pc = .ok (.anewarray index, 3))
    (kk : ∀ (q : Nat) (H1 : Heap), ct_P dC dI (N + 1) (va_up ad N q) (va_up E N (.inl (cx t0, k, .inr (.inr (.inr (.inr (fun _ => none))))))) H1 → gx_J (N + 1) (va_up ad N q) A → va_S A H0 H1 locs → W p l e R s m args below meth c H1 locs (cells + 1) (slots + k) Q (F0 m (pc + 3) ls (.ref q :: rest))) : W p l e R s m args below meth c H locs cells slots Q (F0 m pc ls (.int (nI k) :: rest)) := by
  refine va_newq (D := (dC, dI)) (cl := cg_cl) X.1 X.2.1 X.2.2.1 (X.2.2.2.1 _ hlk) hAO X.2.2.2.2.1 hP (gx_D hJ _) hS hA (nI_pos (by omega)) (nI_clamp (by omega)) (by omega) hcells hslots hdg (fun q cA H1 hK hP1 hD1 hS1 => ?_)
  have e1 : cA = cx t0 := by
    have h1 := va_nmO (hK.2 7 (cA, .object C) rfl).2 hnm
    have h2 := va_nmO (X.2.2.2.2.1.2 t0 _ ht).2 hnm
    exact Option.some.inj (h1.symm.trans h2)
  subst e1
  have hJ1 := ct_push hD1
  rw [gx_wl_push] at hP1
  exact kk q H1 hP1 hJ1 hS1
theorem ct_new (X : cg_X cc own nL dC dI cx p m c s args) (hP : ct_P dC dI N ad E H) (hJ : gx_J N ad A) (hS : va_S A H0 H locs) (hA : ∀ q, H0.size ≤ q → A q) {C : String} {T : u_T} {NF ci index : Nat} (hin : ∀ w ∈ u_ws C T NF, w ∈ gU) (ty : Nat → FieldType) (hty : ∀ k, k < NF → parseFieldDescriptor (T k).2.2.1 = some (ty k)) (hcl : Cond.classLink own index C ∈ gU) (hinst : (Cond.instantiable C NF).before args s = true) (hini : Cond.initialized C ∈ gU) (hc : cg_cl[ci]? = some (C, T, NF)) {fs : List Value} (hfs : ∀ j, j < NF → defaultValue (ty j) = vp_V fs j) (hcells : cells + 1 ≤ R.cells) (hslots : slots + NF ≤ R.slots) (hdg : decode cc pc = .ok (.new index, 3))
    (kk : ∀ (q : Nat) (H1 : Heap), ct_P dC dI (N + 1) (va_up ad N q) (va_up E N (.inr (ci, fs))) H1 → gx_J (N + 1) (va_up ad N q) A → va_S A H0 H1 locs → W p l e R s m args below meth c H1 locs (cells + 1) (slots + NF) Q (F0 m (pc + 3) ls (.ref q :: rest))) : W p l e R s m args below meth c H locs cells slots Q (F0 m pc ls rest) := by
  refine va_new (D := (dC, dI)) (cl := cg_cl) (ci := ci) (fs := fs) X.1 X.2.1 X.2.2.2.1 hin ty hty X.2.2.1 (X.2.2.2.1 _ hcl) hinst (X.2.2.2.1 _ hini) X.2.2.2.2.1 hP (gx_D hJ _) hS hA hc hfs hcells hslots hdg (fun q H1 hP1 hD1 hS1 => ?_)
  have hJ1 := ct_push hD1
  rw [gx_wl_push] at hP1
  exact kk q H1 hP1 hJ1 hS1
theorem ct_put (X : cg_X cc own nL dC dI cx p m c s args) (hP : ct_P dC dI N ad E H) (hJ : gx_J N ad A) (hS : va_S A H0 H locs) {n : Nat} (hn : n < N) {C ref : String} {T : u_T} {NF ci index : Nat} (hin : ∀ w ∈ u_ws C T NF, w ∈ gU) (ty0 : Nat → FieldType) (hty : ∀ k, k < NF → parseFieldDescriptor (T k).2.2.1 = some (ty0 k)) (hnm : ∀ a, a < NF → ∀ b, b < NF → a ≠ b → (T a).2.1 ≠ (T b).2.1) {fs : List Value} (hE : E n = .inr (ci, fs)) (hc : cg_cl[ci]? = some (C, T, NF)) (k : Nat) (hk : k < NF) (hlink : Cond.fieldLink own index ref (T k).2.1 (T k).2.2.1 ∈ gU) (hsame : ∀ x, s.fieldFound? (T k).1 (T k).2.1 (T k).2.2.1 = some x → s.fieldFound? ref (T k).2.1 (T k).2.2.1 = some x) (hfin : (T k).2.2.2 = false ∨ ((T k).2.2.2 = true ∧ meth.name = "<init>" ∧ (T k).1 = own)) {ty : FieldType} {w : Value} (hd : parseFieldDescriptor (T k).2.2.1 = some ty) (hnw : narrow ty w = w) (hfit : fits ty w = true) (hl : k < fs.length) (hdg : decode cc pc = .ok (.putfield index, 3))
    (kk : ∀ (H : Heap) (locs : List Loc), ct_P dC dI N ad (va_up E n (.inr (ci, fs.set k w))) H → va_S A H0 H locs → W p l e R s m args below meth c H locs cells slots Q (F0 m (pc + 3) ls rest)) : W p l e R s m args below meth c H locs cells slots Q (F0 m pc ls (w :: .ref (ad n) :: rest)) := by
  have he : (gx_wl N ad E)[n]? = some (ad n, .inr (ci, fs)) := by rw [gx_wl_at hn, hE]
  rcases hfin with hfin | ⟨hfin, hi, hdc⟩
  · refine va_put (D := (dC, dI)) (cl := cg_cl) X.1 X.2.1 X.2.2.2.1 hin ty0 hty hnm X.2.2.1 X.2.2.2.2.1 hP (gx_D hJ _) hS n he hc k hk (X.2.2.2.1 _ hlink) hsame hfin hd hnw hfit hl hdg (fun H1 locs1 hP1 _ hS1 => kk H1 locs1 ?_ hS1)
    rw [gx_wl_set _ hn] at hP1
    exact hP1
  · refine va_putF (D := (dC, dI)) (cl := cg_cl) X.1 X.2.1 X.2.2.2.1 hin ty0 hty hnm X.2.2.1 X.2.2.2.2.1 hP (gx_D hJ _) hS n he hc k hk (X.2.2.2.1 _ hlink) hsame hfin hi hdc hd hnw hfit hl hdg (fun H1 locs1 hP1 _ hS1 => kk H1 locs1 ?_ hS1)
    rw [gx_wl_set _ hn] at hP1
    exact hP1
theorem ct_ast (X : cg_X cc own nL dC dI cx p m c s args) (hP : ct_P dC dI N ad E H) (hJ : gx_J N ad A) (hS : va_S A H0 H locs) {n v i len t0 ci : Nat} {r : vw_C} {vs : List Value} {f : Nat → Option Nat} (hn : n < N) (hv : v < N) (hE : E n = .inl (cx t0, len, .inr (.inr (.inr (.inr f))))) (ht : (cg_tys cx)[t0]? = some (cx t0, .object r.1)) (hEv : E v = .inr (ci, vs)) (hc : cg_cl[ci]? = some r) (hi : i < len) (hlen : len < 2 ^ 31) (hdg : decode cc pc = .ok (.aastore, 1))
    (kk : ∀ (H : Heap) (locs : List Loc), ct_P dC dI N ad (va_up E n (.inl (cx t0, len, .inr (.inr (.inr (.inr (va_up f i (some (ad v))))))))) H → va_S A H0 H locs → W p l e R s m args below meth c H locs cells slots Q (F0 m (pc + 1) ls rest)) : W p l e R s m args below meth c H locs cells slots Q (F0 m pc ls (.ref (ad v) :: .int (nI i) :: .ref (ad n) :: rest)) := by
  refine va_astq (D := (dC, dI)) (cl := cg_cl) (r := r) X.1 X.2.1 X.2.2.2.2.1 hP (gx_D hJ _) hS n t0 v ci (by rw [gx_wl_at hn, hE]) ht (by rw [gx_wl_at hv, hEv]) hc (vp_in_nI hi hlen) hdg (fun H1 locs1 hP1 _ hS1 => kk H1 locs1 ?_ hS1)
  rw [nI_clamp (by omega), gx_wl_set _ hn] at hP1
  exact hP1
theorem ct_get (X : cg_X cc own nL dC dI cx p m c s args) (hP : ct_P dC dI N ad E H) {n : Nat} (hn : n < N) {C ref : String} {T : u_T} {NF ci index : Nat} (hin : ∀ w ∈ u_ws C T NF, w ∈ gU) {fs : List Value} (hE : E n = .inr (ci, fs)) (hc : cg_cl[ci]? = some (C, T, NF)) (k : Nat) (hk : k < NF) (hlink : Cond.fieldLink own index ref (T k).2.1 (T k).2.2.1 ∈ gU) (hsame : ∀ x, s.fieldFound? (T k).1 (T k).2.1 (T k).2.2.1 = some x → s.fieldFound? ref (T k).2.1 (T k).2.2.1 = some x) {v : Value} (hv : fs[k]? = some v) (hdg : decode cc pc = .ok (.getfield index, 3))
    (kk : W p l e R s m args below meth c H locs cells slots Q (F0 m (pc + 3) ls (v :: rest))) : W p l e R s m args below meth c H locs cells slots Q (F0 m pc ls (.ref (ad n) :: rest)) :=
  va_get (D := (dC, dI)) (cl := cg_cl) X.1 X.2.1 X.2.2.2.1 hin X.2.2.1 X.2.2.2.2.1 hP n (by rw [gx_wl_at hn, hE]) hc k hk (X.2.2.2.1 _ hlink) hsame hv hdg kk
/-- behind a constructor -/
theorem ct_call {N2 mc ms : Nat} {E2 : (Nat → Nat) → Nat → va_E} {a : Array Value} (hJ : gx_J N ad A) (hS : va_S A H0 H locs) (hA : ∀ q, H0.size ≤ q → A q)
    (hr : va_Run p l e R s m args below meth c H locs cells slots mc ms (F0 m pc ls st0) rest (va_Qv (fun ad2 : Nat → Nat => (∀ n, n < N → ad2 n = ad n) ∧ gx_J N2 ad2 (ct_A N ad H.size)) (fun ad2 t => ct_P dC dI N2 ad2 (E2 ad2) t.heap) (ct_A N ad H.size) a) (ct_A N ad H.size))
    (kk : ∀ (ad2 : Nat → Nat) (H : Heap) (locs : List Loc), (∀ n, n < N → ad2 n = ad n) → gx_J N2 ad2 A → ct_P dC dI N2 ad2 (E2 ad2) H → va_S A H0 H locs → W p l e R s m args below meth c H locs (cells + mc) (slots + ms) Q (F0 m (pc + 3) ls rest)) : W p l e R s m args below meth c H locs cells slots Q (F0 m pc ls st0) := by
  have hsub : ∀ q, ct_A N ad H.size q → A q := by
    intro q h
    rcases h with h | h
    · exact gx_J_in hJ q h
    · exact hA q (Nat.le_trans hS.1 h)
  exact va_callv hr hS (fun q _ h => hsub q h) hsub (fun u t H1 locs1 ht _ hp hB _ _ hS1 => kk u H1 locs1 hp.1 ⟨hp.2.1, fun i hi => hsub _ (hp.2.2 i hi)⟩ (by rw [← ht]; exact hB) hS1)
theorem ct_pre (hK : va_K (dC, dI) cg_cl (cg_tys cx) s) (hN : ct_h s) (hP : ct_P dC dI N ad E H) (As : List Value) : PreS s H (va_Pc As (ct_B dC dI cx N ad E H.size)) As :=
  ⟨fun a U g mk q => ⟨q.1, q.2.1, q.2.2.1, va_K.moved (u := U) (U := U.calling g mk a) (Vm.Alike.refl U.vm) q.2.2.2.1, ct_H.1 U g mk a q.2.2.2.2⟩, fun U hU hW => ⟨rfl, by rw [hU], by rw [hU]; exact hP, va_K.moved hW.alike hK, ct_H.2 s U hW hN⟩⟩
end CT
