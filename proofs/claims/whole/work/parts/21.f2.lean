/-! the frame, two: contracts over the one world, their beginning, their end, calls -/
def gx_H (hw : State → Prop) : Prop := (∀ (U : State) (g : JFrame) (mk : MethodId) (a : Array Value), hw U → hw (U.calling g mk a)) ∧ ∀ s U : State, s.WarmedH U.vm → hw s → hw U
def gx_B (D : va_G) (cl : List vw_C) (tys : List (ClassId × FieldType)) (N : Nat) (ad : Nat → Nat) (ec : Nat → (Nat → Nat) → va_E) (hw : State → Prop) (σ : gx_M) (U : State) : Prop := gx_P D cl N ad ec σ U.heap ∧ va_K D cl tys U ∧ hw U
def gx_Mi (l : Launch) (D : va_G) (cl : List vw_C) (tys : List (ClassId × FieldType)) (N : Nat) (ad : Nat → Nat) (ec : Nat → (Nat → Nat) → va_E) (hw : State → Prop) (y : MethodName) (ws : List Cond) (rm : Room) (av : List Value) (σ : gx_M) (post : Int32 → gx_M → Prop) : Prop :=
  Met l y ws rm (va_Pc av (gx_B D cl tys N ad ec hw σ)) (va_Qi post (fun u t => gx_P D cl N ad ec u t.heap) (gx_A N ad)) 0 0 (gx_A N ad)
def gx_Mv (l : Launch) (D : va_G) (cl : List vw_C) (tys : List (ClassId × FieldType)) (N : Nat) (ad : Nat → Nat) (ec : Nat → (Nat → Nat) → va_E) (hw : State → Prop) (y : MethodName) (ws : List Cond) (rm : Room) (av : List Value) (σ : gx_M) (post : gx_M → Prop) : Prop :=
  Met l y ws rm (va_Pc av (gx_B D cl tys N ad ec hw σ)) (va_Qv post (fun u t => gx_P D cl N ad ec u t.heap) (gx_A N ad)) 0 0 (gx_A N ad)
def gx_Ml (l : Launch) (D : va_G) (cl : List vw_C) (tys : List (ClassId × FieldType)) (N : Nat) (ad : Nat → Nat) (ec : Nat → (Nat → Nat) → va_E) (hw : State → Prop) (y : MethodName) (ws : List Cond) (rm : Room) (av : List Value) (σ : gx_M) (post : Int64 → gx_M → Prop) : Prop :=
  Met l y ws rm (va_Pc av (gx_B D cl tys N ad ec hw σ)) (va_Ql post (fun u t => gx_P D cl N ad ec u t.heap) (gx_A N ad)) 0 0 (gx_A N ad)
section GY
variable {p : Program} {l : Launch} {e : Env} {R : Room} {s : State} {m : MethodId} {args : Array Value} {below : List Frame} {meth : Method} {c : Code} {H : Heap} {locs : List Loc} {cells slots : Nat} {Q : State → Prop}
variable {cc : ByteArray} {pc : Nat} {ls : Array Slot} {rest st0 : List Value} {D : va_G} {cl : List vw_C} {A : Nat → Prop} {tys : List (ClassId × FieldType)} {H0 : Heap} {N : Nat} {ad : Nat → Nat} {ec : Nat → (Nat → Nat) → va_E} {σ : gx_M} {hw : State → Prop}
theorem gx_ofW {y : MethodName} {ws ws' : List Cond} {rm : Room} {av : List Value} {Qc : Array Value → State → Outcome → State → Prop} {maxL : Nat} {ret : Option FieldType} (hy : plainName y.cls = true) (hww : ws = Cond.code y cc maxL ret :: ws') (hlen : (lg_sl av).length ≤ maxL)
    (body : ∀ (p : Program) (e : Env) (s : State) (m : MethodId) (below : List Frame) (meth : Method) (c : Code) (ls : Array Slot), CallFix p m c cc maxL s av.toArray ws y.cls → meth.sig.returnType = ret → meth.locks = false → va_K D cl tys s → hw s → lv_has ls maxL (lv_args 0 av) → gx_P D cl N ad ec σ s.heap →
      W p l e rm s m av.toArray below meth c s.heap [] 0 0 (MQ below Qc av.toArray s 0 0 (gx_A N ad)) (F0 m 0 ls [])) : Met l y ws rm (va_Pc av (gx_B D cl tys N ad ec hw σ)) Qc 0 0 (gx_A N ad) := by
  refine Met.ofW (cc := cc) (maxL := maxL) (ret := ret) hy hww ?_
  intro p e s m args below meth c s₁ B hml hv
  obtain ⟨rfl, hP, hK, hN⟩ := hv
  rw [lg_entry_eq]
  exact body p e s m below meth c _ ⟨B.exec, B.bytes, hml, findClass_of_methodNamed B.named, atoms_spec (ws := ws) B.pre⟩ B.returns B.notSynchronized hK hN (lv_entry av hlen) hP
theorem gx_iret {post : Int32 → gx_M → Prop} {v : Int32} (hexec : p.tables.exec = Jvm.exec) (hb : c.code = cc) (hr : meth.sig.returnType = some .int) (hlocks : meth.locks = false) (hP : gx_P D cl N ad ec σ H) (hS : va_S (gx_A N ad) s.heap H locs) (hdg : decode cc pc = .ok (.ireturn, 1)) (hpost : post v σ) :
    W p l e R s m args below meth c H locs cells slots (MQ below (va_Qi post (fun u t => gx_P D cl N ad ec u t.heap) (gx_A N ad)) args s cells slots (gx_A N ad)) (F0 m pc ls [.int v]) :=
  W.iret hexec hb hr (fun t ht _ => ⟨⟨v, σ, rfl, hpost, by show gx_P D cl N ad ec σ t.heap; rw [ht]; exact hP⟩, hS.F ht⟩) hS.2.2 hdg hlocks
theorem gx_zret {post : Int32 → gx_M → Prop} {v : Int32} (hexec : p.tables.exec = Jvm.exec) (hb : c.code = cc) (hr : meth.sig.returnType = some .boolean) (hlocks : meth.locks = false) (hP : gx_P D cl N ad ec σ H) (hS : va_S (gx_A N ad) s.heap H locs) (hdg : decode cc pc = .ok (.ireturn, 1)) (hv : v = 0 ∨ v = 1) (hpost : post v σ) :
    W p l e R s m args below meth c H locs cells slots (MQ below (va_Qi post (fun u t => gx_P D cl N ad ec u t.heap) (gx_A N ad)) args s cells slots (gx_A N ad)) (F0 m pc ls [.int v]) :=
  W.zret hexec hb hr (by rcases hv with rfl | rfl <;> decide) (fun t ht _ => ⟨⟨v, σ, rfl, hpost, by show gx_P D cl N ad ec σ t.heap; rw [ht]; exact hP⟩, hS.F ht⟩) hS.2.2 hdg hlocks
theorem gx_vret {post : gx_M → Prop} (hexec : p.tables.exec = Jvm.exec) (hb : c.code = cc) (hr : meth.sig.returnType = none) (hlocks : meth.locks = false) (hP : gx_P D cl N ad ec σ H) (hS : va_S (gx_A N ad) s.heap H locs) (hdg : decode cc pc = .ok (.return_, 1)) (hpost : post σ) :
    W p l e R s m args below meth c H locs cells slots (MQ below (va_Qv post (fun u t => gx_P D cl N ad ec u t.heap) (gx_A N ad)) args s cells slots (gx_A N ad)) (F0 m pc ls []) :=
  W.vret hexec hb hr (fun t ht _ => ⟨⟨σ, rfl, hpost, by show gx_P D cl N ad ec σ t.heap; rw [ht]; exact hP⟩, hS.F ht⟩) hS.2.2 hdg hlocks
theorem gx_preS (hH : gx_H hw) (hK : va_K D cl tys s) (hN : hw s) (hP : gx_P D cl N ad ec σ H) (As : List Value) : PreS s H (va_Pc As (gx_B D cl tys N ad ec hw σ)) As :=
  ⟨fun a U g mk q => ⟨q.1, q.2.1, va_K.moved (u := U) (U := U.calling g mk a) (Vm.Alike.refl U.vm) q.2.2.1, hH.1 U g mk a q.2.2.2⟩, fun U hU hW => ⟨rfl, by rw [hU]; exact hP, va_K.moved hW.alike hK, hH.2 s U hW hN⟩⟩
theorem gx_preV (hH : gx_H hw) (hK : va_K D cl tys s) (hN : hw s) (hP : gx_P D cl N ad ec σ H) {n ci : Nat} {fs : List Value} {C : String} {T : u_T} {NF : Nat} (hn : n < N) (hc : ec n (σ n) = .inr (ci, fs)) (hcl : cl[ci]? = some (C, T, NF)) (As : List Value) : PreV s H C (ad n) (va_Pc (.ref (ad n) :: As) (gx_B D cl tys N ad ec hw σ)) As :=
  ⟨(gx_preS hH hK hN hP (.ref (ad n) :: As)).1, va_recv hK hP hcl (gx_P_at (D := D) (cl := cl) (H := H) hn hc), (gx_preS hH hK hN hP (.ref (ad n) :: As)).2⟩
theorem gx_calli {post : Int32 → gx_M → Prop} {a : Array Value} (hJ : gx_J N ad A) (hS : va_S A H0 H locs) (hr : va_Run p l e R s m args below meth c H locs cells slots 0 0 (F0 m pc ls st0) rest (va_Qi post (fun u t => gx_P D cl N ad ec u t.heap) (gx_A N ad) a) (gx_A N ad))
    (kk : ∀ (r : Int32) (σ' : gx_M) (H : Heap) (locs : List Loc), post r σ' → gx_P D cl N ad ec σ' H → va_S A H0 H locs → W p l e R s m args below meth c H locs cells slots Q (F0 m (pc + 3) ls (.int r :: rest))) : W p l e R s m args below meth c H locs cells slots Q (F0 m pc ls st0) :=
  va_calli hr hS (fun q _ h => gx_J_in hJ q h) (gx_J_in hJ) (fun r u t H1 locs1 ht _ hp hB _ _ hS1 => kk r u H1 locs1 hp (by rw [← ht]; exact hB) hS1)
theorem gx_calll {post : Int64 → gx_M → Prop} {a : Array Value} (hJ : gx_J N ad A) (hS : va_S A H0 H locs) (hr : va_Run p l e R s m args below meth c H locs cells slots 0 0 (F0 m pc ls st0) rest (va_Ql post (fun u t => gx_P D cl N ad ec u t.heap) (gx_A N ad) a) (gx_A N ad))
    (kk : ∀ (r : Int64) (σ' : gx_M) (H : Heap) (locs : List Loc), post r σ' → gx_P D cl N ad ec σ' H → va_S A H0 H locs → W p l e R s m args below meth c H locs cells slots Q (F0 m (pc + 3) ls (.long r :: rest))) : W p l e R s m args below meth c H locs cells slots Q (F0 m pc ls st0) :=
  va_calll hr hS (fun q _ h => gx_J_in hJ q h) (gx_J_in hJ) (fun r u t H1 locs1 ht _ hp hB _ _ hS1 => kk r u H1 locs1 hp (by rw [← ht]; exact hB) hS1)
theorem gx_callv {post : gx_M → Prop} {a : Array Value} (hJ : gx_J N ad A) (hS : va_S A H0 H locs) (hr : va_Run p l e R s m args below meth c H locs cells slots 0 0 (F0 m pc ls st0) rest (va_Qv post (fun u t => gx_P D cl N ad ec u t.heap) (gx_A N ad) a) (gx_A N ad))
    (kk : ∀ (σ' : gx_M) (H : Heap) (locs : List Loc), post σ' → gx_P D cl N ad ec σ' H → va_S A H0 H locs → W p l e R s m args below meth c H locs cells slots Q (F0 m (pc + 3) ls rest)) : W p l e R s m args below meth c H locs cells slots Q (F0 m pc ls st0) :=
  va_callv hr hS (fun q _ h => gx_J_in hJ q h) (gx_J_in hJ) (fun u t H1 locs1 ht _ hp hB _ _ hS1 => kk u H1 locs1 hp (by rw [← ht]; exact hB) hS1)
end GY
