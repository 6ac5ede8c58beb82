/-! the start -/
theorem in_all : ct_in 224 21 4 9 3 4 0 := by unfold ct_in; decide +kernel
theorem ec_all {cx : Nat → ClassId} {a b : Nat → Nat} (hk : ∀ k, k < 224 → b k = a k) : ∀ n, n < 224 → gx_ec cx b n (gs0 n) = gx_ec cx a n (gs0 n) := by
  intro n hn
  rw [← ct_E_fin (a := b) (hk 1 (by decide)) (hk 107 (by decide)) (hk 108 (by decide)) (hk 109 (by decide)) (hk 110 (by decide)) n hn, ← ct_E_fin (a := a) rfl rfl rfl rfl rfl n hn]
  exact ct_E_q in_all hk n hn
theorem xr_new : xr gs0 ab_new := by
  refine ⟨rfl, ?_, ?_, ?_, ?_, ?_⟩
  · intro t ht
    have f0 : nTx t = 2 + 5 * t := rfl
    have f4 : nTn t = 6 + 5 * t := rfl
    rw [gs0_z (n := nTx t) (by omega), gs0_z (n := nTn t) (by omega)]
    refine ⟨rfl, rfl, fun i o ho => ?_, fun k hk => rfl⟩
    have ho : ([] : List pu_Op)[i]? = some o := ho
    simp at ho
  · intro g r hg hr
    obtain ⟨z1, z2, z3, z4⟩ := gs0_Rp hg hr
    rw [z1, z2, z3, z4]
    refine ⟨rfl, rfl, rfl, rfl, fun i e he => ?_⟩
    have he : ([] : List pu_En)[i]? = some e := he
    simp at he
  · intro s r hs hr
    refine ⟨gs0_SS hs hr, ?_⟩
    have f1 : nSv s r = 116 + 32 * s + 10 * r := rfl
    have f3 : nSa s r = 118 + 32 * s + 10 * r := rfl
    have f4 : nSh s r = 119 + 32 * s + 10 * r := rfl
    have f5 : nSo s r = 120 + 32 * s + 10 * r := rfl
    have f6 : nSf s r = 121 + 32 * s + 10 * r := rfl
    have f7 : nSn s r = 122 + 32 * s + 10 * r := rfl
    rw [gs0_z (n := nSv s r) (by omega), gs0_z (n := nSa s r) (by omega), gs0_z (n := nSh s r) (by omega), gs0_z (n := nSo s r) (by omega), gs0_z (n := nSf s r) (by omega), gs0_z (n := nSn s r) (by omega)]
    exact pt_new _ _
  · intro r hr t ht
    have f1 : nDd r = 212 + 4 * r := rfl
    rw [gs0_z (n := nDd r) (by omega)]
    rfl
  · refine ⟨rfl, fun t s _ _ => ?_, fun t _ => ?_, fun t i _ _ => ?_⟩
    · rw [gs0_z (by omega)]; rfl
    · rw [gs0_z (by omega)]; rfl
    · rw [gs0_z (by omega)]; rfl
theorem mr_new : mr gs0 ab_new := by
  refine ⟨by rw [gs0_z (by omega)]; rfl, ?_, ?_, ?_⟩
  · intro t ht
    rw [gs0_z (n := 225) (by omega), gs0_z (n := 226) (by omega)]
    refine ⟨rfl, rfl, fun i o ho => ?_⟩
    have ho : ([] : List pu_Op)[i]? = some o := ho
    simp at ho
  · intro g r hg hr
    rw [gs0_z (n := 230) (by omega), gs0_z (n := 231) (by omega), gs0_z (n := 232) (by omega), gs0_z (n := 233) (by omega)]
    refine ⟨rfl, rfl, rfl, rfl, fun i e he => ?_⟩
    have he : ([] : List pu_En)[i]? = some e := he
    simp at he
  · unfold mr_co
    rw [gs0_z (n := 224) (by omega), gs0_z (n := 235) (by omega), gs0_z (n := 236) (by omega)]
    exact ⟨rfl, fun _ _ _ _ => rfl, fun _ _ => rfl⟩
theorem ar_p {ty : FieldType} {args : Array Value} {s : State} (h : (Cond.arrayClass ty).before args s = true) (hty : ∀ C, ty ≠ .object C) : ∃ c : ClassId, ArrOfT s c ty ∧ s.vm.findClass ("[" ++ ty.toString) = some c := by
  obtain ⟨c, k, comp, h1, h2, h3⟩ := Cond.arrayClass_spec h
  exact ⟨c, fun n z => ⟨(fun k h => by cases h), k, h2, comp, h3⟩, h1⟩
theorem ar_o {C : String} {args : Array Value} {s : State} (h : (Cond.arrayOver (.object C)).before args s = true) : ∃ c : ClassId, ArrOfT s c (.object C) ∧ va_RA s c (.object C) := by
  obtain ⟨comp, c, k, h1, h2, h3, h4, h5⟩ := Cond.arrayOver_spec h
  exact ⟨c, fun n z => ⟨(fun k h => by cases h), k, h3, comp, h4⟩, k, comp, h3, h4, h1, h5⟩
set_option maxRecDepth 100000 in
set_option maxHeartbeats 8000000 in
theorem whole_start {p : Program} {e : Env} {s : State} {m : MethodId} {below : List Frame} {meth : Method} {c : Code} (l : Launch) {b L : Nat} {xs : Nat → Int32} (hL : L ≤ 2560) (C0 : lw_At p s m meth c b L xs) : W p l e room_1 s m #[Value.ref b] below meth c s.heap [] 0 0 (lw_Z below #[Value.ref b] s) (entryFrame m ([Value.ref b] : List Value).toArray 4) := by
  obtain ⟨c1, c2, c3, c4, c5, c6, hX, hbl, c9, c10⟩ := id C0
  have hg : ∀ w ∈ gU, w.before #[Value.ref b] s = true := gU_of c6
  obtain ⟨c0, i0, k0⟩ := u_known (n := 6) hg in_CG (hg _ (gU_mem (List.mem_append_right _ (List.mem_append_left _ (List.mem_of_getElem? (i := 15) rfl))) rfl))
  obtain ⟨c1', i1, k1⟩ := u_known (n := 6) hg in_Tx (hg _ (gU_mem (List.mem_append_right _ (List.mem_append_left _ (List.mem_of_getElem? (i := 24) rfl))) rfl))
  obtain ⟨c2', i2, k2⟩ := u_known (n := 4) hg in_Co (hg _ (gU_mem (List.mem_append_right _ (List.mem_append_left _ (List.mem_of_getElem? (i := 66) rfl))) rfl))
  obtain ⟨c3', i3, k3⟩ := u_known (n := 9) hg in_SS (hg _ (gU_mem (List.mem_append_right _ (List.mem_append_left _ (List.mem_of_getElem? (i := 90) rfl))) rfl))
  obtain ⟨c4', i4, k4⟩ := u_known (n := 1) hg in_DS (hg _ (gU_mem (List.mem_append_right _ (List.mem_append_left _ (List.mem_of_getElem? (i := 173) rfl))) rfl))
  obtain ⟨c5', i5, k5⟩ := u_known (n := 6) hg in_Rp (hg _ (gU_mem (List.mem_append_right _ (List.mem_append_left _ (List.mem_of_getElem? (i := 133) rfl))) rfl))
  obtain ⟨c6', i6, k6⟩ := u_known (n := 1) hg in_Gr (hg _ (gU_mem (List.mem_append_right _ (List.mem_append_left _ (List.mem_of_getElem? (i := 163) rfl))) rfl))
  obtain ⟨c7, i7, k7⟩ := u_known (n := 19) hg in_Mo (hg _ (gU_mem (List.mem_append_right _ (List.mem_append_right _ (List.mem_append_left _ (List.mem_of_getElem? (i := 206) rfl)))) rfl))
  obtain ⟨x0, y0, z0⟩ := ar_p (hg _ (gU_mem (List.mem_append_right _ (List.mem_append_left _ (List.mem_of_getElem? (i := 58) rfl))) rfl)) (fun C q => by cases q)
  obtain ⟨x1, y1, z1⟩ := ar_p (hg _ (gU_mem (List.mem_append_right _ (List.mem_append_left _ (List.mem_of_getElem? (i := 132) rfl))) rfl)) (fun C q => by cases q)
  obtain ⟨x2, y2, z2⟩ := ar_o (c6 _ (List.mem_append_right _ (List.mem_append_left _ (List.mem_of_getElem? (i := 23) rfl))))
  obtain ⟨x3, y3, z3⟩ := ar_o (c6 _ (List.mem_append_right _ (List.mem_append_left _ (List.mem_of_getElem? (i := 60) rfl))))
  obtain ⟨x4, y4, z4⟩ := ar_o (c6 _ (List.mem_append_right _ (List.mem_append_left _ (List.mem_of_getElem? (i := 62) rfl))))
  obtain ⟨x5, y5, z5⟩ := ar_o (c6 _ (List.mem_append_right _ (List.mem_append_left _ (List.mem_of_getElem? (i := 64) rfl))))
  obtain ⟨x6, y6, z6⟩ := ar_o (c6 _ (List.mem_append_right _ (List.mem_append_left _ (List.mem_of_getElem? (i := 89) rfl))))
  obtain ⟨dC, hdC⟩ : ∃ dC : Nat → ClassId, dC 0 = c0 ∧ dC 1 = c1' ∧ dC 2 = c2' ∧ dC 3 = c3' ∧ dC 4 = c4' ∧ dC 5 = c5' ∧ dC 6 = c6' ∧ dC 7 = c7 := ⟨fun n => if n = 0 then c0 else if n = 1 then c1' else if n = 2 then c2' else if n = 3 then c3' else if n = 4 then c4' else if n = 5 then c5' else if n = 6 then c6' else c7, rfl, rfl, rfl, rfl, rfl, rfl, rfl, rfl⟩
  obtain ⟨dI, hdI⟩ : ∃ dI : Nat → Nat → Nat, dI 0 = i0 ∧ dI 1 = i1 ∧ dI 2 = i2 ∧ dI 3 = i3 ∧ dI 4 = i4 ∧ dI 5 = i5 ∧ dI 6 = i6 ∧ dI 7 = i7 := ⟨fun n => if n = 0 then i0 else if n = 1 then i1 else if n = 2 then i2 else if n = 3 then i3 else if n = 4 then i4 else if n = 5 then i5 else if n = 6 then i6 else i7, rfl, rfl, rfl, rfl, rfl, rfl, rfl, rfl⟩
  obtain ⟨cx, hcx⟩ : ∃ cx : Nat → ClassId, cx 0 = x0 ∧ cx 1 = x1 ∧ cx 2 = x2 ∧ cx 3 = x3 ∧ cx 4 = x4 ∧ cx 5 = x5 ∧ cx 6 = x6 := ⟨fun n => if n = 0 then x0 else if n = 1 then x1 else if n = 2 then x2 else if n = 3 then x3 else if n = 4 then x4 else if n = 5 then x5 else x6, rfl, rfl, rfl, rfl, rfl, rfl, rfl⟩
  obtain ⟨d0, d1, d2, d3, d4, d5, d6, d7⟩ := hdC
  obtain ⟨j0, j1, j2, j3, j4, j5, j6, j7⟩ := hdI
  obtain ⟨e0, e1, e2, e3, e4, e5, e6⟩ := hcx
  have hK : va_K (dC, dI) cg_cl (cg_tys cx) s := by
    constructor
    · intro q r hq
      have hq8 : q < 8 := (List.getElem?_eq_some_iff.mp hq).1
      rcases (show q = 0 ∨ q = 1 ∨ q = 2 ∨ q = 3 ∨ q = 4 ∨ q = 5 ∨ q = 6 ∨ q = 7 by omega) with rfl | rfl | rfl | rfl | rfl | rfl | rfl | rfl
      · cases hq; show u_Kn s _ _ _ (dC 0) (dI 0); rw [d0, j0]; exact k0
      · cases hq; show u_Kn s _ _ _ (dC 1) (dI 1); rw [d1, j1]; exact k1
      · cases hq; show u_Kn s _ _ _ (dC 2) (dI 2); rw [d2, j2]; exact k2
      · cases hq; show u_Kn s _ _ _ (dC 3) (dI 3); rw [d3, j3]; exact k3
      · cases hq; show u_Kn s _ _ _ (dC 4) (dI 4); rw [d4, j4]; exact k4
      · cases hq; show u_Kn s _ _ _ (dC 5) (dI 5); rw [d5, j5]; exact k5
      · cases hq; show u_Kn s _ _ _ (dC 6) (dI 6); rw [d6, j6]; exact k6
      · cases hq; show u_Kn s _ _ _ (dC 7) (dI 7); rw [d7, j7]; exact k7
    · intro q r hq
      have hq7 : q < 7 := (List.getElem?_eq_some_iff.mp hq).1
      rcases (show q = 0 ∨ q = 1 ∨ q = 2 ∨ q = 3 ∨ q = 4 ∨ q = 5 ∨ q = 6 by omega) with rfl | rfl | rfl | rfl | rfl | rfl | rfl
      · cases hq; show ArrOfT s (cx 0) _ ∧ va_RA s (cx 0) _; rw [e0]; exact ⟨y0, z0⟩
      · cases hq; show ArrOfT s (cx 1) _ ∧ va_RA s (cx 1) _; rw [e1]; exact ⟨y1, z1⟩
      · cases hq; show ArrOfT s (cx 2) _ ∧ va_RA s (cx 2) _; rw [e2]; exact ⟨y2, z2⟩
      · cases hq; show ArrOfT s (cx 3) _ ∧ va_RA s (cx 3) _; rw [e3]; exact ⟨y3, z3⟩
      · cases hq; show ArrOfT s (cx 4) _ ∧ va_RA s (cx 4) _; rw [e4]; exact ⟨y4, z4⟩
      · cases hq; show ArrOfT s (cx 5) _ ∧ va_RA s (cx 5) _; rw [e5]; exact ⟨y5, z5⟩
      · cases hq; show ArrOfT s (cx 6) _ ∧ va_RA s (cx 6) _; rw [e6]; exact ⟨y6, z6⟩
  have hw0 : cg_hw s := va_Nw.of rfl (c6 _ (List.mem_append_right _ (List.mem_append_right _ (List.mem_append_left _ (List.mem_of_getElem? (i := 43) rfl)))))
  have hN : ct_h s := ⟨hw0, va_Nw.of rfl (c6 _ (List.mem_append_right _ (List.mem_append_left _ (List.mem_of_getElem? (i := 25) rfl)))), va_Nw.of rfl (c6 _ (List.mem_append_right _ (List.mem_append_left _ (List.mem_of_getElem? (i := 67) rfl)))), va_Nw.of rfl (c6 _ (List.mem_append_right _ (List.mem_append_left _ (List.mem_of_getElem? (i := 94) rfl)))), va_Nw.of rfl (c6 _ (List.mem_append_right _ (List.mem_append_left _ (List.mem_of_getElem? (i := 174) rfl)))), va_Nw.of rfl (c6 _ (List.mem_append_right _ (List.mem_append_left _ (List.mem_of_getElem? (i := 177) rfl)))), va_AO.of (c6 _ (List.mem_append_right _ (List.mem_append_left _ (List.mem_of_getElem? (i := 23) rfl)))), va_AO.of (c6 _ (List.mem_append_right _ (List.mem_append_left _ (List.mem_of_getElem? (i := 60) rfl)))), va_AO.of (c6 _ (List.mem_append_right _ (List.mem_append_left _ (List.mem_of_getElem? (i := 62) rfl)))), va_AO.of (c6 _ (List.mem_append_right _ (List.mem_append_left _ (List.mem_of_getElem? (i := 64) rfl)))), va_AO.of (c6 _ (List.mem_append_right _ (List.mem_append_left _ (List.mem_of_getElem? (i := 89) rfl))))⟩
  have X : cg_X code R_La 4 dC dI cx p m c s #[Value.ref b] := ⟨c1, c2, c5, hg, hK, hw0, c4⟩
  have hl := lv_entry ([.ref b]) (n := 4) (Nat.le_of_ble_eq_true rfl)
  rw [lg_entry_eq]
  generalize (lg_sl ([.ref b]) ++ List.replicate (4 - (lg_sl ([.ref b])).length) Slot.unset).toArray = ls at hl ⊢
  have hl : lv_has ls 4 [(0, .ref b)] := hl
  have hS : va_S (fun q => s.heap.size ≤ q) s.heap s.heap [] := va_S.rf
  have hP : ct_P dC dI 0 (fun _ => 0) (fun _ => .inr (0, [])) s.heap := fun k q hq => by cases hq
  have hJ : gx_J 0 (fun _ => 0) (fun q => s.heap.size ≤ q) := ⟨fun i j hi => absurd hi (Nat.not_lt_zero _), fun i hi => absurd hi (Nat.not_lt_zero _)⟩
  refine ct_new2 (ci := kCG) (fs := [.null, .null, .null, .null, .null, .int 0]) X hP hJ hS (fun q h => h) in_CG t_CG t_CG_ok (gU_mem (List.mem_append_right _ (List.mem_append_left _ (List.mem_of_getElem? (i := 14) rfl))) rfl) (gU_mem (List.mem_append_right _ (List.mem_append_left _ (List.mem_of_getElem? (i := 15) rfl))) rfl) (gU_mem (List.mem_append_right _ (List.mem_append_left _ (List.mem_of_getElem? (i := 1) rfl))) rfl) rfl (fun j hj => by rcases (show j = 0 ∨ j = 1 ∨ j = 2 ∨ j = 3 ∨ j = 4 ∨ j = 5 by omega) with rfl | rfl | rfl | rfl | rfl | rfl <;> rfl) (Nat.le_of_ble_eq_true rfl) (Nat.le_of_ble_eq_true rfl) d_La_law_0 (fun a1 H hk1 hP hJ hS => ?_)
  refine lv_dup X.1 X.2.1 d_La_law_3 rfl ?_
  refine ct_call hJ hS (fun q h => h) (va_runI (As := []) (rest := [.ref (a1 0)]) (own := R_La) (index := 9) (bytes := c_CG_init) (maxL := 6) ⟨X.1, X.2.1, X.2.2.2.2.2.2, X.2.2.1, X.2.2.2.1⟩ (C_CG l dC dI cx a1 _ H.size ⟨hJ.1, fun _ _ => trivial⟩ (va_up_self _ _ _)) (cwI 0 X.2.2.2.1 wg_CG_init rfl rfl rfl (X.2.2.2.1 _ (gU_mem (List.mem_append_right _ (List.mem_append_left _ (List.mem_of_getElem? (i := 1) rfl))) rfl)) (X.2.2.2.1 _ (gU_mem (List.mem_append_right _ (List.mem_append_left _ (List.mem_of_getElem? (i := 16) rfl))) rfl)) (X.2.2.2.1 _ (gU_mem (List.mem_append_right _ (List.mem_append_left _ (List.mem_of_getElem? (i := 17) rfl))) rfl)) rfl (by decide +kernel) (by decide)) (ct_pre hK hN hP _) rfl rfl hl.1 rfl (lv_room (Nat.le_of_ble_eq_true rfl)) d_La_law_4 ⟨Nat.le_of_ble_eq_true rfl, Nat.le_of_ble_eq_true rfl⟩) (fun a2 H locs hk2 hJ hP hS => ?_)
  refine lv_astore_n X.1 X.2.1 d_La_law_7 rfl hl (by decide) rfl (fun ls hl => ?_)
  have hl : lv_has ls 4 [(1, .ref (a1 0)), (0, .ref b)] := hl
  refine ct_new2 (ci := kMo) (fs := [.int 0, .null, .null, .null, .null, .null, .null, .null, .null, .null, .null, .int 0, .null, .null, .null, .null, .null, .null, .long 0]) X hP hJ hS (fun q h => h) in_Mo t_Mo t_Mo_ok (gU_mem (List.mem_append_right _ (List.mem_append_right _ (List.mem_append_left _ (List.mem_of_getElem? (i := 205) rfl)))) rfl) (gU_mem (List.mem_append_right _ (List.mem_append_right _ (List.mem_append_left _ (List.mem_of_getElem? (i := 206) rfl)))) rfl) (gU_mem (List.mem_append_right _ (List.mem_append_left _ (List.mem_of_getElem? (i := 9) rfl))) rfl) rfl (fun j hj => by rcases (show j = 0 ∨ j = 1 ∨ j = 2 ∨ j = 3 ∨ j = 4 ∨ j = 5 ∨ j = 6 ∨ j = 7 ∨ j = 8 ∨ j = 9 ∨ j = 10 ∨ j = 11 ∨ j = 12 ∨ j = 13 ∨ j = 14 ∨ j = 15 ∨ j = 16 ∨ j = 17 ∨ j = 18 by omega) with rfl | rfl | rfl | rfl | rfl | rfl | rfl | rfl | rfl | rfl | rfl | rfl | rfl | rfl | rfl | rfl | rfl | rfl | rfl <;> rfl) (Nat.le_of_ble_eq_true rfl) (Nat.le_of_ble_eq_true rfl) d_La_law_8 (fun a3 H hk3 hP hJ hS => ?_)
  refine lv_dup X.1 X.2.1 d_La_law_11 rfl ?_
  refine ct_call hJ hS (fun q h => h) (va_runI (As := []) (rest := [.ref (a3 224)]) (own := R_La) (index := 12) (bytes := c_Mo_init) (maxL := 1) ⟨X.1, X.2.1, X.2.2.2.2.2.2, X.2.2.1, X.2.2.2.1⟩ (C_Mo l dC dI cx a3 _ H.size ⟨hJ.1, fun _ _ => trivial⟩ (va_up_self _ _ _)) (cwI 0 X.2.2.2.1 wg_Mo_init rfl rfl rfl (X.2.2.2.1 _ (gU_mem (List.mem_append_right _ (List.mem_append_left _ (List.mem_of_getElem? (i := 9) rfl))) rfl)) (X.2.2.2.1 _ (gU_mem (List.mem_append_right _ (List.mem_append_right _ (List.mem_append_left _ (List.mem_of_getElem? (i := 207) rfl)))) rfl)) (X.2.2.2.1 _ (gU_mem (List.mem_append_right _ (List.mem_append_right _ (List.mem_append_left _ (List.mem_of_getElem? (i := 208) rfl)))) rfl)) rfl (by decide +kernel) (by decide)) (ct_pre hK hN hP _) rfl rfl hl.1 rfl (lv_room (Nat.le_of_ble_eq_true rfl)) d_La_law_12 ⟨Nat.le_of_ble_eq_true rfl, Nat.le_of_ble_eq_true rfl⟩) (fun a4 H locs hk4 hJ hP hS => ?_)
  refine lv_astore_n X.1 X.2.1 d_La_law_15 rfl hl (by decide) rfl (fun ls hl => ?_)
  have hl : lv_has ls 4 [(2, .ref (a3 224)), (1, .ref (a1 0)), (0, .ref b)] := hl
  refine lv_iconst (v := nI 0) X.1 X.2.1 d_La_law_16 (by decide) ?_
  refine lv_istore_n X.1 X.2.1 d_La_law_17 rfl hl (by decide) rfl (fun ls hl => ?_)
  have hl : lv_has ls 4 [(3, .int (nI 0)), (2, .ref (a3 224)), (1, .ref (a1 0)), (0, .ref b)] := hl
  have q0 : a1 0 = a4 0 := ((hk4 0 (by decide)).trans ((hk3 0 (by decide)).trans (hk2 0 (by decide)))).symm
  have q1 : a3 224 = a4 224 := (hk4 224 (by decide)).symm
  rw [q0, q1] at hl
  have hP : cg_P dC dI cx a4 gs0 H := by
    refine ct_E_cg (fun n hn => ?_) hP
    by_cases z : n < 224
    · show (if n < 224 then _ else _) = _
      rw [if_pos z, va_up_ne _ _ (by omega)]
      exact (ec_all (fun k hk => (hk4 k (by omega)).trans (hk3 k hk)) n z).symm
    · show (if n < 224 then _ else _) = _
      rw [if_neg z]
  refine W.widen (k := 600000) (n := 7302250) (Nat.le_of_ble_eq_true rfl) (Nat.le_of_ble_eq_true rfl) ?_
  exact law_loop l hL C0 dC dI cx a4 hJ X (L + 1) 0 0 ab_new gs0 (by omega) (by decide) (by decide) ab_I_new xr_new mr_new H _ ls hP hS (lv_sub hl [0, 3, 2, 1] rfl)
