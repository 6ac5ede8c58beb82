/-! rows for bits, lengths, copies; runs of operations, one more -/
section GR
variable {p : Program} {l : Launch} {e : Env} {R : Room} {s : State} {m : MethodId} {args : Array Value} {below : List Frame} {meth : Method} {c : Code} {H : Heap} {locs : List Loc} {cells slots : Nat} {Q : State → Prop}
variable {cc : ByteArray} {pc : Nat} {ls : Array Slot} {rest st0 : List Value} {A : Nat → Prop} {H0 : Heap} {dC : Nat → ClassId} {dI : Nat → Nat → Nat} {cx : Nat → ClassId} {ad : Nat → Nat} {σ : gx_M} {own : String} {nL : Nat}
theorem gx_ishl1 (hexec : p.tables.exec = Jvm.exec) (hb : c.code = cc) {t : Nat} (hdg : decode cc pc = .ok (.ishl, 1)) (ht : t < 21) (k : W p l e R s m args below meth c H locs cells slots Q (F0 m (pc + 1) ls (.int (nI (2 ^ t)) :: rest))) : W p l e R s m args below meth c H locs cells slots Q (F0 m pc ls (.int (nI t) :: .int (nI 1) :: rest)) :=
  lv_ishl hexec hb hdg (by rw [gb_shl t ht]; exact k)
theorem gx_iandn (hexec : p.tables.exec = Jvm.exec) (hb : c.code = cc) {x t : Nat} (hdg : decode cc pc = .ok (.iand, 1)) (k : W p l e R s m args below meth c H locs cells slots Q (F0 m (pc + 1) ls (.int (nI (pt_clr x t)) :: rest))) : W p l e R s m args below meth c H locs cells slots Q (F0 m pc ls (.int (nI (2 ^ t) ^^^ (-1)) :: .int (nI x) :: rest)) :=
  lv_iand hexec hb hdg (by rw [gb_clr]; exact k)
theorem gx_iand (hexec : p.tables.exec = Jvm.exec) (hb : c.code = cc) {x y : Nat} (hdg : decode cc pc = .ok (.iand, 1)) (k : W p l e R s m args below meth c H locs cells slots Q (F0 m (pc + 1) ls (.int (nI (x &&& y)) :: rest))) : W p l e R s m args below meth c H locs cells slots Q (F0 m pc ls (.int (nI y) :: .int (nI x) :: rest)) :=
  lv_iand hexec hb hdg (by rw [gb_and]; exact k)
theorem gx_ior (hexec : p.tables.exec = Jvm.exec) (hb : c.code = cc) {x y : Nat} (hdg : decode cc pc = .ok (.ior, 1)) (k : W p l e R s m args below meth c H locs cells slots Q (F0 m (pc + 1) ls (.int (nI (x ||| y)) :: rest))) : W p l e R s m args below meth c H locs cells slots Q (F0 m pc ls (.int (nI y) :: .int (nI x) :: rest)) :=
  lv_ior hexec hb hdg (by rw [gb_or]; exact k)
theorem gx_ixor (hexec : p.tables.exec = Jvm.exec) (hb : c.code = cc) {x y : Nat} (hdg : decode cc pc = .ok (.ixor, 1)) (k : W p l e R s m args below meth c H locs cells slots Q (F0 m (pc + 1) ls (.int (nI (x ^^^ y)) :: rest))) : W p l e R s m args below meth c H locs cells slots Q (F0 m pc ls (.int (nI y) :: .int (nI x) :: rest)) :=
  lv_ixor hexec hb hdg (by rw [gb_xor]; exact k)
theorem gx_iushr (hexec : p.tables.exec = Jvm.exec) (hb : c.code = cc) {x y : Nat} (hdg : decode cc pc = .ok (.iushr, 1)) (hx : x < 2 ^ 31) (hy : y < 32) (k : W p l e R s m args below meth c H locs cells slots Q (F0 m (pc + 1) ls (.int (nI (x / 2 ^ y)) :: rest))) : W p l e R s m args below meth c H locs cells slots Q (F0 m pc ls (.int (nI y) :: .int (nI x) :: rest)) :=
  lv_iushr hexec hb hdg (gb_ushr x y hx hy) k
theorem gx_alen (X : cg_X cc own nL dC dI cx p m c s args) (hP : cg_P dC dI cx ad σ H) {n len : Nat} (hn : n < gx_N) (hc : gx_ec cx ad n (σ n) = ce_i cx len (σ n)) (hdg : decode cc pc = .ok (.arraylength, 1))
    (kk : W p l e R s m args below meth c H locs cells slots Q (F0 m (pc + 1) ls (.int (nI len) :: rest))) : W p l e R s m args below meth c H locs cells slots Q (F0 m pc ls (.ref (ad n) :: rest)) :=
  va_alen (D := (dC, dI)) (cl := cg_cl) X.1 X.2.1 X.2.2.2.2.1 hP n 0 (gx_P_at (D := (dC, dI)) (cl := cg_cl) (H := H) hn hc) rfl rfl hdg kk
/-- a copy of the first k numbers of row n to row q -/
def gx_cp (σ : gx_M) (n q k : Nat) : gx_M := va_up σ q (fun j => if j < k then σ n j else σ q j)
theorem gx_copy (X : cg_X cc own nL dC dI cx p m c s args) (hls : ls.size = nL) (hJ : gx_J gx_N ad A) (hP : cg_P dC dI cx ad σ H) (hS : va_S A H0 H locs) {n q len k idx : Nat} (hn : n < gx_N) (hq : q < gx_N) (hcn : gx_ec cx ad n (σ n) = ce_i cx len (σ n)) (hcq : ∀ f, gx_ec cx ad q f = ce_i cx len f) (hk : k ≤ len) (hlen : len < 2 ^ 31)
    (hlink : (Cond.methodLink own idx arraycopyName).before args s = true) (hnat : (Cond.native arraycopyName).before args s = true) (hstat : (Cond.static arraycopyName).before args s = true) (hini : (Cond.initialized "java/lang/System").before args s = true)
    (hframes : 1 ≤ R.frames) (hlocals : (rest.map fun v => v.category).sum + (nativeFrameWords "java/lang/System" "arraycopy" 5 + 11) ≤ R.locals) (hdg : decode cc pc = .ok (.invokestatic idx, 3))
    (kk : ∀ (H : Heap) (locs : List Loc), cg_P dC dI cx ad (gx_cp σ n q k) H → va_S A H0 H locs → W p l e R s m args below meth c H locs cells slots Q (F0 m (pc + 3) ls rest)) : W p l e R s m args below meth c H locs cells slots Q (F0 m pc ls (.int (nI k) :: .int (nI 0) :: .ref (ad q) :: .int (nI 0) :: .ref (ad n) :: rest)) := by
  have h0 : (nI 0).toNatClampNeg = 0 := nI_clamp (by decide)
  have hkk : (nI k).toNatClampNeg = k := nI_clamp (by omega)
  refine va_copyi (D := (dC, dI)) (cl := cg_cl) (ty := .int) X.1 X.2.1 (by rw [X.2.2.2.2.2.2, hls]) X.2.2.1 hlink hnat hstat hini X.2.2.2.2.1 hP (gx_D hJ _) hS n q 0 0 (gx_P_at (D := (dC, dI)) (cl := cg_cl) (H := H) hn hcn) (gx_P_at (D := (dC, dI)) (cl := cg_cl) (H := H) hq (hcq (σ q))) rfl rfl (by decide) (nI_pos (by decide)) (nI_pos (by decide)) (nI_pos (by omega)) (by rw [h0, hkk]; omega) (by rw [h0, hkk]; omega) (fun i _ => rfl) hframes hlocals hdg (fun H1 locs1 hP1 _ hS1 => kk H1 locs1 ?_ hS1)
  rw [h0, hkk] at hP1
  refine gx_P_set hq (row := fun j => if j < k then σ n j else σ q j) ?_ hP1
  rw [hcq]
  unfold ce_i
  congr 4
  funext j
  unfold va_cpy
  by_cases h : j < k
  · simp [h]
  · simp [h]
end GR
theorem pu_run_snoc (q : Nat → Bool) : ∀ (L : List pu_Op) (o : pu_Op) (va : Nat → Nat), pu_run q (L ++ [o]) va = if q o.2.1 = true then pu_do (pu_run q L va) o else pu_run q L va := by
  intro L
  induction L with
  | nil => intro o va; rfl
  | cons a L ih =>
    intro o va
    show pu_run q (L ++ [o]) _ = _
    rw [ih]
    rfl
theorem pu_rs_eq (q : Nat → Bool) : ∀ (L : List pu_Op) (i : Nat) (o : pu_Op) (va : Nat → Nat), L[i]? = some o → pu_rs q L va i = pu_res (pu_run q (L.take i) va) o := by
  intro L
  induction L with
  | nil => intro i o va h; simp at h
  | cons a L ih =>
    intro i o va h
    cases i with
    | zero =>
      simp at h
      subst h
      rfl
    | succ i =>
      show pu_rs q L _ i = pu_res (pu_run q (L.take i) _) o
      exact ih i o _ (by simpa using h)
theorem pu_take_succ {α : Type} {L : List α} {i : Nat} {o : α} (h : L[i]? = some o) : L.take (i + 1) = L.take i ++ [o] := by
  rw [List.take_add_one, h]
  rfl
