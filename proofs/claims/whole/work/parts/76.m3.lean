/-! contracts: the reference's groups -/
set_option maxRecDepth 100000 in
set_option maxHeartbeats 4000000 in
theorem K_Mo_living (l : Launch) (dC : Nat → ClassId) (dI : Nat → Nat → Nat) (cx : Nat → ClassId) (ad : Nat → Nat) (hJ : gx_J gx_N ad (gx_A gx_N ad)) (σ : gx_M) (g : Nat) (up : Nat → Bool) (hg : g < 4) (hup : ∀ r, r < 3 → σ 230 (3 * g + r) = xb (!up r)) : cg_Mi l dC dI cx ad y_Mo_living w_Mo_living 0 [.ref (ad 224), .int (nI g)] σ (fun r σ' => σ' = σ ∧ r = nI (pu_cnt up)) := by
  refine gx_ofW (cc := c_Mo_living) (maxL := 4) (ret := (Option.some Jvm.ClassFile.FieldType.int)) (by decide) rfl (Nat.le_of_ble_eq_true rfl) ?_
  intro p e s m below meth c ls S hr hlk hK hN hl hP
  have X : cg_X c_Mo_living "CommitGroupsModel" 4 dC dI cx p m c s _ := ⟨S.1, S.2.1, S.2.2.2.1, fun w h => S.2.2.2.2 w (List.mem_cons_of_mem _ h), hK, hN, S.2.2.1⟩
  have hS : va_S (gx_A gx_N ad) s.heap s.heap [] := va_S.rf
  have hl : lv_has ls 4 [(0, .ref (ad 224)), (1, .int (nI g))] := hl
  have lp : ∀ (k : Nat) (i v : Nat), i + k = 3 → v = cuf up i → ∀ (H : Heap) (locs : List Loc) (ls : Array Slot), cg_P dC dI cx ad σ H → va_S (gx_A gx_N ad) s.heap H locs → lv_has ls 4 [(3, .int (nI i)), (2, .int (nI v)), (0, .ref (ad 224)), (1, .int (nI g))] → W p l e (rmL 0) s m ([.ref (ad 224), .int (nI g)] : List Value).toArray below meth c H locs 0 0 (cg_Qi dC dI cx ad (fun r σ' => σ' = σ ∧ r = nI (pu_cnt up)) below [.ref (ad 224), .int (nI g)] s) (F0 m 4 ls []) := by
    intro k
    induction k with
    | zero =>
      intro i v hik hv H locs ls hP hS hl
      refine lv_iload_n X.1 X.2.1 d_Mo_living_4 rfl (lv_at hl 0 rfl) ?_
      refine lv_iconst (v := nI 3) X.1 X.2.1 d_Mo_living_5 (by decide) ?_
      refine gx_icmp_ge X.1 X.2.1 (tgt := 36) d_Mo_living_6 (by decide) (by omega) (by omega) (fun h6 => ?_) (fun h6 => absurd h6 (by omega))
      refine lv_iload_n X.1 X.2.1 d_Mo_living_36 rfl (lv_at hl 1 rfl) ?_
      refine gx_iret X.1 X.2.1 hr hlk hP hS d_Mo_living_37 ?_
      obtain rfl : i = 3 := by omega
      refine ⟨rfl, ?_⟩
      rw [hv, ← cuf_cnt]
    | succ k ih =>
      intro i v hik hv H locs ls hP hS hl
      refine lv_iload_n X.1 X.2.1 d_Mo_living_4 rfl (lv_at hl 0 rfl) ?_
      refine lv_iconst (v := nI 3) X.1 X.2.1 d_Mo_living_5 (by decide) ?_
      refine gx_icmp_ge X.1 X.2.1 (tgt := 36) d_Mo_living_6 (by decide) (by omega) (by omega) (fun h6 => absurd h6 (by omega)) (fun h6 => ?_)
      have hrp := hup i (by omega)
      have hxb := xb_le (!up i)
      refine lv_iload_n X.1 X.2.1 d_Mo_living_9 rfl (lv_at hl 1 rfl) ?_
      refine lv_aload_n X.1 X.2.1 d_Mo_living_10 rfl (lv_at hl 2 rfl) ?_
      refine gg_Mo_26 X hP d_Mo_living_11 ?_
      refine lv_iconst (v := nI 3) X.1 X.2.1 d_Mo_living_14 (by decide) ?_
      refine lv_iload_n X.1 X.2.1 d_Mo_living_15 rfl (lv_at hl 3 rfl) ?_
      refine gx_imul X.1 X.2.1 d_Mo_living_16 ?_
      refine lv_iload_n X.1 X.2.1 d_Mo_living_17 rfl (lv_at hl 0 rfl) ?_
      refine gx_iadd X.1 X.2.1 d_Mo_living_18 ?_
      refine ga_230 (by omega) X hP d_Mo_living_19 ?_
      rw [hrp]
      refine gx_if_eq X.1 X.2.1 (tgt := 27) d_Mo_living_20 (by decide) (by omega) (fun h20 => ?_) (fun h20 => ?_)
      · skip
        refine lv_iconst (v := nI 1) X.1 X.2.1 d_Mo_living_27 (by decide) ?_
        refine gx_iadd X.1 X.2.1 d_Mo_living_28 ?_
        refine lv_istore_n X.1 X.2.1 d_Mo_living_29 rfl hl (by decide) rfl (fun ls hl => ?_)
        have hl : lv_has ls 4 [(2, .int (nI (v + 1))), (3, .int (nI i)), (0, .ref (ad 224)), (1, .int (nI g))] := hl
        refine lv_iinc (k := 1) (v := nI (i + 1)) X.1 X.2.1 d_Mo_living_30 hl rfl (nI_add _ _) (by decide) rfl (fun ls hl => ?_)
        have hl : lv_has ls 4 [(3, .int (nI (i + 1))), (2, .int (nI (v + 1))), (0, .ref (ad 224)), (1, .int (nI g))] := hl
        refine lv_goto (tgt := 4) X.1 X.2.1 d_Mo_living_33 (by decide) ?_
        refine ih (i + 1) _ (by omega) ?_ H locs ls hP hS (lv_sub hl [0, 1, 2, 3] rfl)
        have hu : up i = true := by have z := xb_zero.mp h20; simpa using z
        show v + 1 = if up i = true then _ else _
        rw [if_pos hu, hv]
      · skip
        refine lv_iconst (v := nI 0) X.1 X.2.1 d_Mo_living_23 (by decide) ?_
        refine lv_goto (tgt := 28) X.1 X.2.1 d_Mo_living_24 (by decide) ?_
        refine gx_iadd X.1 X.2.1 d_Mo_living_28 ?_
        refine lv_istore_n X.1 X.2.1 d_Mo_living_29 rfl hl (by decide) rfl (fun ls hl => ?_)
        have hl : lv_has ls 4 [(2, .int (nI (v + 0))), (3, .int (nI i)), (0, .ref (ad 224)), (1, .int (nI g))] := hl
        refine lv_iinc (k := 1) (v := nI (i + 1)) X.1 X.2.1 d_Mo_living_30 hl rfl (nI_add _ _) (by decide) rfl (fun ls hl => ?_)
        have hl : lv_has ls 4 [(3, .int (nI (i + 1))), (2, .int (nI (v + 0))), (0, .ref (ad 224)), (1, .int (nI g))] := hl
        refine lv_goto (tgt := 4) X.1 X.2.1 d_Mo_living_33 (by decide) ?_
        refine ih (i + 1) _ (by omega) ?_ H locs ls hP hS (lv_sub hl [0, 1, 2, 3] rfl)
        have hu : up i = false := by have z := xb_one.mp (show xb (!up i) = 1 by omega); simpa using z
        show v + 0 = if up i = true then _ else _
        rw [if_neg (by rw [hu]; decide)]; exact hv
  refine lv_iconst (v := nI 0) X.1 X.2.1 d_Mo_living_0 (by decide) ?_
  refine lv_istore_n X.1 X.2.1 d_Mo_living_1 rfl hl (by decide) rfl (fun ls hl => ?_)
  have hl : lv_has ls 4 [(2, .int (nI 0)), (0, .ref (ad 224)), (1, .int (nI g))] := hl
  refine lv_iconst (v := nI 0) X.1 X.2.1 d_Mo_living_2 (by decide) ?_
  refine lv_istore_n X.1 X.2.1 d_Mo_living_3 rfl hl (by decide) rfl (fun ls hl => ?_)
  have hl : lv_has ls 4 [(3, .int (nI 0)), (2, .int (nI 0)), (0, .ref (ad 224)), (1, .int (nI g))] := hl
  exact lp 3 0 0 rfl rfl _ _ ls hP hS (lv_sub hl [0, 1, 2, 3] rfl)
set_option maxRecDepth 100000 in
set_option maxHeartbeats 4000000 in
theorem K_Mo_top (l : Launch) (dC : Nat → ClassId) (dI : Nat → Nat → Nat) (cx : Nat → ClassId) (ad : Nat → Nat) (hJ : gx_J gx_N ad (gx_A gx_N ad)) (σ : gx_M) (a : ab_S) (g : Nat) (hx : mr σ a) (hw : ab_W a) (hg : g < 4) : cg_Mi l dC dI cx ad y_Mo_top w_Mo_top 0 [.ref (ad 224), .int (nI g)] σ (fun r σ' => σ' = σ ∧ ((pu_cnt (ab_up a g) = 0 ∧ r = -1) ∨ (pu_cnt (ab_up a g) ≠ 0 ∧ r = nI (ab_top a g)))) := by
  refine gx_ofW (cc := c_Mo_top) (maxL := 4) (ret := (Option.some Jvm.ClassFile.FieldType.int)) (by decide) rfl (Nat.le_of_ble_eq_true rfl) ?_
  intro p e s m below meth c ls S hr hlk hK hN hl hP
  have X : cg_X c_Mo_top "CommitGroupsModel" 4 dC dI cx p m c s _ := ⟨S.1, S.2.1, S.2.2.2.1, fun w h => S.2.2.2.2 w (List.mem_cons_of_mem _ h), hK, hN, S.2.2.1⟩
  have hS : va_S (gx_A gx_N ad) s.heap s.heap [] := va_S.rf
  have hl : lv_has ls 4 [(0, .ref (ad 224)), (1, .int (nI g))] := hl
  obtain ⟨p0, q0, l0, d0, -⟩ := hx.2.2.1 g 0 hg (by decide)
  have hxb0 := xb_le (!ab_up a g 0)
  have hwv0 := (hw.2.2 g 0 hg (by decide)).2.1
  have hwl0 := (hw.2.2 g 0 hg (by decide)).1
  obtain ⟨p1, q1, l1, d1, -⟩ := hx.2.2.1 g 1 hg (by decide)
  have hxb1 := xb_le (!ab_up a g 1)
  have hwv1 := (hw.2.2 g 1 hg (by decide)).2.1
  have hwl1 := (hw.2.2 g 1 hg (by decide)).1
  obtain ⟨p2, q2, l2, d2, -⟩ := hx.2.2.1 g 2 hg (by decide)
  have hxb2 := xb_le (!ab_up a g 2)
  have hwv2 := (hw.2.2 g 2 hg (by decide)).2.1
  have hwl2 := (hw.2.2 g 2 hg (by decide)).1
  refine lv_iconst (v := -1) X.1 X.2.1 d_Mo_top_0 (by decide) ?_
  refine lv_istore_n X.1 X.2.1 d_Mo_top_1 rfl hl (by decide) rfl (fun ls hl => ?_)
  have hl : lv_has ls 4 [(2, .int (-1)), (0, .ref (ad 224)), (1, .int (nI g))] := hl
  refine lv_iconst (v := nI 0) X.1 X.2.1 d_Mo_top_2 (by decide) ?_
  refine lv_istore_n X.1 X.2.1 d_Mo_top_3 rfl hl (by decide) rfl (fun ls hl => ?_)
  have hl : lv_has ls 4 [(3, .int (nI 0)), (2, .int (-1)), (0, .ref (ad 224)), (1, .int (nI g))] := hl
  refine lv_iload_n X.1 X.2.1 d_Mo_top_4 rfl (lv_at hl 0 rfl) ?_
  refine lv_iconst (v := nI 3) X.1 X.2.1 d_Mo_top_5 (by decide) ?_
  refine gx_icmp_ge X.1 X.2.1 (tgt := 57) d_Mo_top_6 (by decide) (by omega) (by omega) (fun h6 => absurd h6 (by decide)) (fun h6 => ?_)
  refine lv_aload_n X.1 X.2.1 d_Mo_top_9 rfl (lv_at hl 2 rfl) ?_
  refine gg_Mo_26 X hP d_Mo_top_10 ?_
  refine lv_iconst (v := nI 3) X.1 X.2.1 d_Mo_top_13 (by decide) ?_
  refine lv_iload_n X.1 X.2.1 d_Mo_top_14 rfl (lv_at hl 3 rfl) ?_
  refine gx_imul X.1 X.2.1 d_Mo_top_15 ?_
  refine lv_iload_n X.1 X.2.1 d_Mo_top_16 rfl (lv_at hl 0 rfl) ?_
  refine gx_iadd X.1 X.2.1 d_Mo_top_17 ?_
  refine ga_230 (by omega) X hP d_Mo_top_18 ?_
  rw [p0]
  refine gx_if_ne X.1 X.2.1 (tgt := 49) d_Mo_top_19 (by decide) (by omega) (fun h19_0 => ?_) (fun h19_0 => ?_)
  · skip
    have u0 : ab_up a g 0 = false := by have z := xb_one.mp (show xb (!ab_up a g 0) = 1 by omega); simpa using z
    refine lv_iload_n X.1 X.2.1 d_Mo_top_49 rfl (lv_at hl 1 rfl) ?_
    refine lv_istore_n X.1 X.2.1 d_Mo_top_50 rfl hl (by decide) rfl (fun ls hl => ?_)
    have hl : lv_has ls 4 [(2, .int (-1)), (3, .int (nI 0)), (0, .ref (ad 224)), (1, .int (nI g))] := hl
    refine lv_iinc (k := 1) (v := nI (1)) X.1 X.2.1 d_Mo_top_51 hl rfl (by decide) (by decide) rfl (fun ls hl => ?_)
    have hl : lv_has ls 4 [(3, .int (nI 1)), (2, .int (-1)), (0, .ref (ad 224)), (1, .int (nI g))] := hl
    refine lv_goto (tgt := 4) X.1 X.2.1 d_Mo_top_54 (by decide) ?_
    refine lv_iload_n X.1 X.2.1 d_Mo_top_4 rfl (lv_at hl 0 rfl) ?_
    refine lv_iconst (v := nI 3) X.1 X.2.1 d_Mo_top_5 (by decide) ?_
    refine gx_icmp_ge X.1 X.2.1 (tgt := 57) d_Mo_top_6 (by decide) (by omega) (by omega) (fun h6 => absurd h6 (by decide)) (fun h6 => ?_)
    refine lv_aload_n X.1 X.2.1 d_Mo_top_9 rfl (lv_at hl 2 rfl) ?_
    refine gg_Mo_26 X hP d_Mo_top_10 ?_
    refine lv_iconst (v := nI 3) X.1 X.2.1 d_Mo_top_13 (by decide) ?_
    refine lv_iload_n X.1 X.2.1 d_Mo_top_14 rfl (lv_at hl 3 rfl) ?_
    refine gx_imul X.1 X.2.1 d_Mo_top_15 ?_
    refine lv_iload_n X.1 X.2.1 d_Mo_top_16 rfl (lv_at hl 0 rfl) ?_
    refine gx_iadd X.1 X.2.1 d_Mo_top_17 ?_
    refine ga_230 (by omega) X hP d_Mo_top_18 ?_
    rw [p1]
    refine gx_if_ne X.1 X.2.1 (tgt := 49) d_Mo_top_19 (by decide) (by omega) (fun h19_1 => ?_) (fun h19_1 => ?_)
    · skip
      have u1 : ab_up a g 1 = false := by have z := xb_one.mp (show xb (!ab_up a g 1) = 1 by omega); simpa using z
      refine lv_iload_n X.1 X.2.1 d_Mo_top_49 rfl (lv_at hl 1 rfl) ?_
      refine lv_istore_n X.1 X.2.1 d_Mo_top_50 rfl hl (by decide) rfl (fun ls hl => ?_)
      have hl : lv_has ls 4 [(2, .int (-1)), (3, .int (nI 1)), (0, .ref (ad 224)), (1, .int (nI g))] := hl
      refine lv_iinc (k := 1) (v := nI (2)) X.1 X.2.1 d_Mo_top_51 hl rfl (by decide) (by decide) rfl (fun ls hl => ?_)
      have hl : lv_has ls 4 [(3, .int (nI 2)), (2, .int (-1)), (0, .ref (ad 224)), (1, .int (nI g))] := hl
      refine lv_goto (tgt := 4) X.1 X.2.1 d_Mo_top_54 (by decide) ?_
      refine lv_iload_n X.1 X.2.1 d_Mo_top_4 rfl (lv_at hl 0 rfl) ?_
      refine lv_iconst (v := nI 3) X.1 X.2.1 d_Mo_top_5 (by decide) ?_
      refine gx_icmp_ge X.1 X.2.1 (tgt := 57) d_Mo_top_6 (by decide) (by omega) (by omega) (fun h6 => absurd h6 (by decide)) (fun h6 => ?_)
      refine lv_aload_n X.1 X.2.1 d_Mo_top_9 rfl (lv_at hl 2 rfl) ?_
      refine gg_Mo_26 X hP d_Mo_top_10 ?_
      refine lv_iconst (v := nI 3) X.1 X.2.1 d_Mo_top_13 (by decide) ?_
      refine lv_iload_n X.1 X.2.1 d_Mo_top_14 rfl (lv_at hl 3 rfl) ?_
      refine gx_imul X.1 X.2.1 d_Mo_top_15 ?_
      refine lv_iload_n X.1 X.2.1 d_Mo_top_16 rfl (lv_at hl 0 rfl) ?_
      refine gx_iadd X.1 X.2.1 d_Mo_top_17 ?_
      refine ga_230 (by omega) X hP d_Mo_top_18 ?_
      rw [p2]
      refine gx_if_ne X.1 X.2.1 (tgt := 49) d_Mo_top_19 (by decide) (by omega) (fun h19_2 => ?_) (fun h19_2 => ?_)
      · skip
        have u2 : ab_up a g 2 = false := by have z := xb_one.mp (show xb (!ab_up a g 2) = 1 by omega); simpa using z
        refine lv_iload_n X.1 X.2.1 d_Mo_top_49 rfl (lv_at hl 1 rfl) ?_
        refine lv_istore_n X.1 X.2.1 d_Mo_top_50 rfl hl (by decide) rfl (fun ls hl => ?_)
        have hl : lv_has ls 4 [(2, .int (-1)), (3, .int (nI 2)), (0, .ref (ad 224)), (1, .int (nI g))] := hl
        refine lv_iinc (k := 1) (v := nI (3)) X.1 X.2.1 d_Mo_top_51 hl rfl (by decide) (by decide) rfl (fun ls hl => ?_)
        have hl : lv_has ls 4 [(3, .int (nI 3)), (2, .int (-1)), (0, .ref (ad 224)), (1, .int (nI g))] := hl
        refine lv_goto (tgt := 4) X.1 X.2.1 d_Mo_top_54 (by decide) ?_
        refine lv_iload_n X.1 X.2.1 d_Mo_top_4 rfl (lv_at hl 0 rfl) ?_
        refine lv_iconst (v := nI 3) X.1 X.2.1 d_Mo_top_5 (by decide) ?_
        refine gx_icmp_ge X.1 X.2.1 (tgt := 57) d_Mo_top_6 (by decide) (by omega) (by omega) (fun h6 => ?_) (fun h6 => absurd h6 (by decide))
        refine lv_iload_n X.1 X.2.1 d_Mo_top_57 rfl (lv_at hl 1 rfl) ?_
        refine gx_iret X.1 X.2.1 hr hlk hP hS d_Mo_top_58 ?_
        exact ⟨rfl, Or.inl ⟨by simp [pu_cnt, u0, u1, u2], rfl⟩⟩
      · skip
        have u2 : ab_up a g 2 = true := by have z := xb_zero.mp h19_2; simpa using z
        refine lv_aload_n X.1 X.2.1 d_Mo_top_22 rfl (lv_at hl 2 rfl) ?_
        refine gg_Mo_29 X hP d_Mo_top_23 ?_
        refine lv_iconst (v := nI 3) X.1 X.2.1 d_Mo_top_26 (by decide) ?_
        refine lv_iload_n X.1 X.2.1 d_Mo_top_27 rfl (lv_at hl 3 rfl) ?_
        refine gx_imul X.1 X.2.1 d_Mo_top_28 ?_
        refine lv_iload_n X.1 X.2.1 d_Mo_top_29 rfl (lv_at hl 0 rfl) ?_
        refine gx_iadd X.1 X.2.1 d_Mo_top_30 ?_
        refine ga_231 (by omega) X hP d_Mo_top_31 ?_
        rw [q2]
        refine lv_iload_n X.1 X.2.1 d_Mo_top_32 rfl (lv_at hl 1 rfl) ?_
        refine lv_icmp_le X.1 X.2.1 (tgt := 49) d_Mo_top_33 (by decide) (fun h33_2 => absurd h33_2 (by rw [gi_nle (by omega)]; show ¬ ((_ : Int) ≤ -1); omega)) (fun h33_2 => ?_)
        refine lv_aload_n X.1 X.2.1 d_Mo_top_36 rfl (lv_at hl 2 rfl) ?_
        refine gg_Mo_29 X hP d_Mo_top_37 ?_
        refine lv_iconst (v := nI 3) X.1 X.2.1 d_Mo_top_40 (by decide) ?_
        refine lv_iload_n X.1 X.2.1 d_Mo_top_41 rfl (lv_at hl 3 rfl) ?_
        refine gx_imul X.1 X.2.1 d_Mo_top_42 ?_
        refine lv_iload_n X.1 X.2.1 d_Mo_top_43 rfl (lv_at hl 0 rfl) ?_
        refine gx_iadd X.1 X.2.1 d_Mo_top_44 ?_
        refine ga_231 (by omega) X hP d_Mo_top_45 ?_
        rw [q2]
        refine lv_goto (tgt := 50) X.1 X.2.1 d_Mo_top_46 (by decide) ?_
        refine lv_istore_n X.1 X.2.1 d_Mo_top_50 rfl hl (by decide) rfl (fun ls hl => ?_)
        have hl : lv_has ls 4 [(2, .int (nI (ab_vi a g 2))), (3, .int (nI 2)), (0, .ref (ad 224)), (1, .int (nI g))] := hl
        refine lv_iinc (k := 1) (v := nI (3)) X.1 X.2.1 d_Mo_top_51 hl rfl (by decide) (by decide) rfl (fun ls hl => ?_)
        have hl : lv_has ls 4 [(3, .int (nI 3)), (2, .int (nI (ab_vi a g 2))), (0, .ref (ad 224)), (1, .int (nI g))] := hl
        refine lv_goto (tgt := 4) X.1 X.2.1 d_Mo_top_54 (by decide) ?_
        refine lv_iload_n X.1 X.2.1 d_Mo_top_4 rfl (lv_at hl 0 rfl) ?_
        refine lv_iconst (v := nI 3) X.1 X.2.1 d_Mo_top_5 (by decide) ?_
        refine gx_icmp_ge X.1 X.2.1 (tgt := 57) d_Mo_top_6 (by decide) (by omega) (by omega) (fun h6 => ?_) (fun h6 => absurd h6 (by decide))
        refine lv_iload_n X.1 X.2.1 d_Mo_top_57 rfl (lv_at hl 1 rfl) ?_
        refine gx_iret X.1 X.2.1 hr hlk hP hS d_Mo_top_58 ?_
        refine ⟨rfl, Or.inr ⟨by simp [pu_cnt, u0, u1, u2], ?_⟩⟩
        have e : ab_top a g = ab_vi a g 2 := by
          unfold ab_top pu_top
          simp only [u0, u1, u2]
          simp <;> omega
        rw [e]
    · skip
      have u1 : ab_up a g 1 = true := by have z := xb_zero.mp h19_1; simpa using z
      refine lv_aload_n X.1 X.2.1 d_Mo_top_22 rfl (lv_at hl 2 rfl) ?_
      refine gg_Mo_29 X hP d_Mo_top_23 ?_
      refine lv_iconst (v := nI 3) X.1 X.2.1 d_Mo_top_26 (by decide) ?_
      refine lv_iload_n X.1 X.2.1 d_Mo_top_27 rfl (lv_at hl 3 rfl) ?_
      refine gx_imul X.1 X.2.1 d_Mo_top_28 ?_
      refine lv_iload_n X.1 X.2.1 d_Mo_top_29 rfl (lv_at hl 0 rfl) ?_
      refine gx_iadd X.1 X.2.1 d_Mo_top_30 ?_
      refine ga_231 (by omega) X hP d_Mo_top_31 ?_
      rw [q1]
      refine lv_iload_n X.1 X.2.1 d_Mo_top_32 rfl (lv_at hl 1 rfl) ?_
      refine lv_icmp_le X.1 X.2.1 (tgt := 49) d_Mo_top_33 (by decide) (fun h33_1 => absurd h33_1 (by rw [gi_nle (by omega)]; show ¬ ((_ : Int) ≤ -1); omega)) (fun h33_1 => ?_)
      refine lv_aload_n X.1 X.2.1 d_Mo_top_36 rfl (lv_at hl 2 rfl) ?_
      refine gg_Mo_29 X hP d_Mo_top_37 ?_
      refine lv_iconst (v := nI 3) X.1 X.2.1 d_Mo_top_40 (by decide) ?_
      refine lv_iload_n X.1 X.2.1 d_Mo_top_41 rfl (lv_at hl 3 rfl) ?_
      refine gx_imul X.1 X.2.1 d_Mo_top_42 ?_
      refine lv_iload_n X.1 X.2.1 d_Mo_top_43 rfl (lv_at hl 0 rfl) ?_
      refine gx_iadd X.1 X.2.1 d_Mo_top_44 ?_
      refine ga_231 (by omega) X hP d_Mo_top_45 ?_
      rw [q1]
      refine lv_goto (tgt := 50) X.1 X.2.1 d_Mo_top_46 (by decide) ?_
      refine lv_istore_n X.1 X.2.1 d_Mo_top_50 rfl hl (by decide) rfl (fun ls hl => ?_)
      have hl : lv_has ls 4 [(2, .int (nI (ab_vi a g 1))), (3, .int (nI 1)), (0, .ref (ad 224)), (1, .int (nI g))] := hl
      refine lv_iinc (k := 1) (v := nI (2)) X.1 X.2.1 d_Mo_top_51 hl rfl (by decide) (by decide) rfl (fun ls hl => ?_)
      have hl : lv_has ls 4 [(3, .int (nI 2)), (2, .int (nI (ab_vi a g 1))), (0, .ref (ad 224)), (1, .int (nI g))] := hl
      refine lv_goto (tgt := 4) X.1 X.2.1 d_Mo_top_54 (by decide) ?_
      refine lv_iload_n X.1 X.2.1 d_Mo_top_4 rfl (lv_at hl 0 rfl) ?_
      refine lv_iconst (v := nI 3) X.1 X.2.1 d_Mo_top_5 (by decide) ?_
      refine gx_icmp_ge X.1 X.2.1 (tgt := 57) d_Mo_top_6 (by decide) (by omega) (by omega) (fun h6 => absurd h6 (by decide)) (fun h6 => ?_)
      refine lv_aload_n X.1 X.2.1 d_Mo_top_9 rfl (lv_at hl 2 rfl) ?_
      refine gg_Mo_26 X hP d_Mo_top_10 ?_
      refine lv_iconst (v := nI 3) X.1 X.2.1 d_Mo_top_13 (by decide) ?_
      refine lv_iload_n X.1 X.2.1 d_Mo_top_14 rfl (lv_at hl 3 rfl) ?_
      refine gx_imul X.1 X.2.1 d_Mo_top_15 ?_
      refine lv_iload_n X.1 X.2.1 d_Mo_top_16 rfl (lv_at hl 0 rfl) ?_
      refine gx_iadd X.1 X.2.1 d_Mo_top_17 ?_
      refine ga_230 (by omega) X hP d_Mo_top_18 ?_
      rw [p2]
      refine gx_if_ne X.1 X.2.1 (tgt := 49) d_Mo_top_19 (by decide) (by omega) (fun h19_2 => ?_) (fun h19_2 => ?_)
      · skip
        have u2 : ab_up a g 2 = false := by have z := xb_one.mp (show xb (!ab_up a g 2) = 1 by omega); simpa using z
        refine lv_iload_n X.1 X.2.1 d_Mo_top_49 rfl (lv_at hl 1 rfl) ?_
        refine lv_istore_n X.1 X.2.1 d_Mo_top_50 rfl hl (by decide) rfl (fun ls hl => ?_)
        have hl : lv_has ls 4 [(2, .int (nI (ab_vi a g 1))), (3, .int (nI 2)), (0, .ref (ad 224)), (1, .int (nI g))] := hl
        refine lv_iinc (k := 1) (v := nI (3)) X.1 X.2.1 d_Mo_top_51 hl rfl (by decide) (by decide) rfl (fun ls hl => ?_)
        have hl : lv_has ls 4 [(3, .int (nI 3)), (2, .int (nI (ab_vi a g 1))), (0, .ref (ad 224)), (1, .int (nI g))] := hl
        refine lv_goto (tgt := 4) X.1 X.2.1 d_Mo_top_54 (by decide) ?_
        refine lv_iload_n X.1 X.2.1 d_Mo_top_4 rfl (lv_at hl 0 rfl) ?_
        refine lv_iconst (v := nI 3) X.1 X.2.1 d_Mo_top_5 (by decide) ?_
        refine gx_icmp_ge X.1 X.2.1 (tgt := 57) d_Mo_top_6 (by decide) (by omega) (by omega) (fun h6 => ?_) (fun h6 => absurd h6 (by decide))
        refine lv_iload_n X.1 X.2.1 d_Mo_top_57 rfl (lv_at hl 1 rfl) ?_
        refine gx_iret X.1 X.2.1 hr hlk hP hS d_Mo_top_58 ?_
        refine ⟨rfl, Or.inr ⟨by simp [pu_cnt, u0, u1, u2], ?_⟩⟩
        have e : ab_top a g = ab_vi a g 1 := by
          unfold ab_top pu_top
          simp only [u0, u1, u2]
          simp <;> omega
        rw [e]
      · skip
        have u2 : ab_up a g 2 = true := by have z := xb_zero.mp h19_2; simpa using z
        refine lv_aload_n X.1 X.2.1 d_Mo_top_22 rfl (lv_at hl 2 rfl) ?_
        refine gg_Mo_29 X hP d_Mo_top_23 ?_
        refine lv_iconst (v := nI 3) X.1 X.2.1 d_Mo_top_26 (by decide) ?_
        refine lv_iload_n X.1 X.2.1 d_Mo_top_27 rfl (lv_at hl 3 rfl) ?_
        refine gx_imul X.1 X.2.1 d_Mo_top_28 ?_
        refine lv_iload_n X.1 X.2.1 d_Mo_top_29 rfl (lv_at hl 0 rfl) ?_
        refine gx_iadd X.1 X.2.1 d_Mo_top_30 ?_
        refine ga_231 (by omega) X hP d_Mo_top_31 ?_
        rw [q2]
        refine lv_iload_n X.1 X.2.1 d_Mo_top_32 rfl (lv_at hl 1 rfl) ?_
        refine gx_icmp_le X.1 X.2.1 (tgt := 49) d_Mo_top_33 (by decide) (by omega) (by omega) (fun h33_2 => ?_) (fun h33_2 => ?_)
        · skip
          refine lv_iload_n X.1 X.2.1 d_Mo_top_49 rfl (lv_at hl 1 rfl) ?_
          refine lv_istore_n X.1 X.2.1 d_Mo_top_50 rfl hl (by decide) rfl (fun ls hl => ?_)
          have hl : lv_has ls 4 [(2, .int (nI (ab_vi a g 1))), (3, .int (nI 2)), (0, .ref (ad 224)), (1, .int (nI g))] := hl
          refine lv_iinc (k := 1) (v := nI (3)) X.1 X.2.1 d_Mo_top_51 hl rfl (by decide) (by decide) rfl (fun ls hl => ?_)
          have hl : lv_has ls 4 [(3, .int (nI 3)), (2, .int (nI (ab_vi a g 1))), (0, .ref (ad 224)), (1, .int (nI g))] := hl
          refine lv_goto (tgt := 4) X.1 X.2.1 d_Mo_top_54 (by decide) ?_
          refine lv_iload_n X.1 X.2.1 d_Mo_top_4 rfl (lv_at hl 0 rfl) ?_
          refine lv_iconst (v := nI 3) X.1 X.2.1 d_Mo_top_5 (by decide) ?_
          refine gx_icmp_ge X.1 X.2.1 (tgt := 57) d_Mo_top_6 (by decide) (by omega) (by omega) (fun h6 => ?_) (fun h6 => absurd h6 (by decide))
          refine lv_iload_n X.1 X.2.1 d_Mo_top_57 rfl (lv_at hl 1 rfl) ?_
          refine gx_iret X.1 X.2.1 hr hlk hP hS d_Mo_top_58 ?_
          refine ⟨rfl, Or.inr ⟨by simp [pu_cnt, u0, u1, u2], ?_⟩⟩
          have e : ab_top a g = ab_vi a g 1 := by
            unfold ab_top pu_top
            simp only [u0, u1, u2]
            simp <;> omega
          rw [e]
        · skip
          refine lv_aload_n X.1 X.2.1 d_Mo_top_36 rfl (lv_at hl 2 rfl) ?_
          refine gg_Mo_29 X hP d_Mo_top_37 ?_
          refine lv_iconst (v := nI 3) X.1 X.2.1 d_Mo_top_40 (by decide) ?_
          refine lv_iload_n X.1 X.2.1 d_Mo_top_41 rfl (lv_at hl 3 rfl) ?_
          refine gx_imul X.1 X.2.1 d_Mo_top_42 ?_
          refine lv_iload_n X.1 X.2.1 d_Mo_top_43 rfl (lv_at hl 0 rfl) ?_
          refine gx_iadd X.1 X.2.1 d_Mo_top_44 ?_
          refine ga_231 (by omega) X hP d_Mo_top_45 ?_
          rw [q2]
          refine lv_goto (tgt := 50) X.1 X.2.1 d_Mo_top_46 (by decide) ?_
          refine lv_istore_n X.1 X.2.1 d_Mo_top_50 rfl hl (by decide) rfl (fun ls hl => ?_)
          have hl : lv_has ls 4 [(2, .int (nI (ab_vi a g 2))), (3, .int (nI 2)), (0, .ref (ad 224)), (1, .int (nI g))] := hl
          refine lv_iinc (k := 1) (v := nI (3)) X.1 X.2.1 d_Mo_top_51 hl rfl (by decide) (by decide) rfl (fun ls hl => ?_)
          have hl : lv_has ls 4 [(3, .int (nI 3)), (2, .int (nI (ab_vi a g 2))), (0, .ref (ad 224)), (1, .int (nI g))] := hl
          refine lv_goto (tgt := 4) X.1 X.2.1 d_Mo_top_54 (by decide) ?_
          refine lv_iload_n X.1 X.2.1 d_Mo_top_4 rfl (lv_at hl 0 rfl) ?_
          refine lv_iconst (v := nI 3) X.1 X.2.1 d_Mo_top_5 (by decide) ?_
          refine gx_icmp_ge X.1 X.2.1 (tgt := 57) d_Mo_top_6 (by decide) (by omega) (by omega) (fun h6 => ?_) (fun h6 => absurd h6 (by decide))
          refine lv_iload_n X.1 X.2.1 d_Mo_top_57 rfl (lv_at hl 1 rfl) ?_
          refine gx_iret X.1 X.2.1 hr hlk hP hS d_Mo_top_58 ?_
          refine ⟨rfl, Or.inr ⟨by simp [pu_cnt, u0, u1, u2], ?_⟩⟩
          have e : ab_top a g = ab_vi a g 2 := by
            unfold ab_top pu_top
            simp only [u0, u1, u2]
            simp <;> omega
          rw [e]
  · skip
    have u0 : ab_up a g 0 = true := by have z := xb_zero.mp h19_0; simpa using z
    refine lv_aload_n X.1 X.2.1 d_Mo_top_22 rfl (lv_at hl 2 rfl) ?_
    refine gg_Mo_29 X hP d_Mo_top_23 ?_
    refine lv_iconst (v := nI 3) X.1 X.2.1 d_Mo_top_26 (by decide) ?_
    refine lv_iload_n X.1 X.2.1 d_Mo_top_27 rfl (lv_at hl 3 rfl) ?_
    refine gx_imul X.1 X.2.1 d_Mo_top_28 ?_
    refine lv_iload_n X.1 X.2.1 d_Mo_top_29 rfl (lv_at hl 0 rfl) ?_
    refine gx_iadd X.1 X.2.1 d_Mo_top_30 ?_
    refine ga_231 (by omega) X hP d_Mo_top_31 ?_
    rw [q0]
    refine lv_iload_n X.1 X.2.1 d_Mo_top_32 rfl (lv_at hl 1 rfl) ?_
    refine lv_icmp_le X.1 X.2.1 (tgt := 49) d_Mo_top_33 (by decide) (fun h33_0 => absurd h33_0 (by rw [gi_nle (by omega)]; show ¬ ((_ : Int) ≤ -1); omega)) (fun h33_0 => ?_)
    refine lv_aload_n X.1 X.2.1 d_Mo_top_36 rfl (lv_at hl 2 rfl) ?_
    refine gg_Mo_29 X hP d_Mo_top_37 ?_
    refine lv_iconst (v := nI 3) X.1 X.2.1 d_Mo_top_40 (by decide) ?_
    refine lv_iload_n X.1 X.2.1 d_Mo_top_41 rfl (lv_at hl 3 rfl) ?_
    refine gx_imul X.1 X.2.1 d_Mo_top_42 ?_
    refine lv_iload_n X.1 X.2.1 d_Mo_top_43 rfl (lv_at hl 0 rfl) ?_
    refine gx_iadd X.1 X.2.1 d_Mo_top_44 ?_
    refine ga_231 (by omega) X hP d_Mo_top_45 ?_
    rw [q0]
    refine lv_goto (tgt := 50) X.1 X.2.1 d_Mo_top_46 (by decide) ?_
    refine lv_istore_n X.1 X.2.1 d_Mo_top_50 rfl hl (by decide) rfl (fun ls hl => ?_)
    have hl : lv_has ls 4 [(2, .int (nI (ab_vi a g 0))), (3, .int (nI 0)), (0, .ref (ad 224)), (1, .int (nI g))] := hl
    refine lv_iinc (k := 1) (v := nI (1)) X.1 X.2.1 d_Mo_top_51 hl rfl (by decide) (by decide) rfl (fun ls hl => ?_)
    have hl : lv_has ls 4 [(3, .int (nI 1)), (2, .int (nI (ab_vi a g 0))), (0, .ref (ad 224)), (1, .int (nI g))] := hl
    refine lv_goto (tgt := 4) X.1 X.2.1 d_Mo_top_54 (by decide) ?_
    refine lv_iload_n X.1 X.2.1 d_Mo_top_4 rfl (lv_at hl 0 rfl) ?_
    refine lv_iconst (v := nI 3) X.1 X.2.1 d_Mo_top_5 (by decide) ?_
    refine gx_icmp_ge X.1 X.2.1 (tgt := 57) d_Mo_top_6 (by decide) (by omega) (by omega) (fun h6 => absurd h6 (by decide)) (fun h6 => ?_)
    refine lv_aload_n X.1 X.2.1 d_Mo_top_9 rfl (lv_at hl 2 rfl) ?_
    refine gg_Mo_26 X hP d_Mo_top_10 ?_
    refine lv_iconst (v := nI 3) X.1 X.2.1 d_Mo_top_13 (by decide) ?_
    refine lv_iload_n X.1 X.2.1 d_Mo_top_14 rfl (lv_at hl 3 rfl) ?_
    refine gx_imul X.1 X.2.1 d_Mo_top_15 ?_
    refine lv_iload_n X.1 X.2.1 d_Mo_top_16 rfl (lv_at hl 0 rfl) ?_
    refine gx_iadd X.1 X.2.1 d_Mo_top_17 ?_
    refine ga_230 (by omega) X hP d_Mo_top_18 ?_
    rw [p1]
    refine gx_if_ne X.1 X.2.1 (tgt := 49) d_Mo_top_19 (by decide) (by omega) (fun h19_1 => ?_) (fun h19_1 => ?_)
    · skip
      have u1 : ab_up a g 1 = false := by have z := xb_one.mp (show xb (!ab_up a g 1) = 1 by omega); simpa using z
      refine lv_iload_n X.1 X.2.1 d_Mo_top_49 rfl (lv_at hl 1 rfl) ?_
      refine lv_istore_n X.1 X.2.1 d_Mo_top_50 rfl hl (by decide) rfl (fun ls hl => ?_)
      have hl : lv_has ls 4 [(2, .int (nI (ab_vi a g 0))), (3, .int (nI 1)), (0, .ref (ad 224)), (1, .int (nI g))] := hl
      refine lv_iinc (k := 1) (v := nI (2)) X.1 X.2.1 d_Mo_top_51 hl rfl (by decide) (by decide) rfl (fun ls hl => ?_)
      have hl : lv_has ls 4 [(3, .int (nI 2)), (2, .int (nI (ab_vi a g 0))), (0, .ref (ad 224)), (1, .int (nI g))] := hl
      refine lv_goto (tgt := 4) X.1 X.2.1 d_Mo_top_54 (by decide) ?_
      refine lv_iload_n X.1 X.2.1 d_Mo_top_4 rfl (lv_at hl 0 rfl) ?_
      refine lv_iconst (v := nI 3) X.1 X.2.1 d_Mo_top_5 (by decide) ?_
      refine gx_icmp_ge X.1 X.2.1 (tgt := 57) d_Mo_top_6 (by decide) (by omega) (by omega) (fun h6 => absurd h6 (by decide)) (fun h6 => ?_)
      refine lv_aload_n X.1 X.2.1 d_Mo_top_9 rfl (lv_at hl 2 rfl) ?_
      refine gg_Mo_26 X hP d_Mo_top_10 ?_
      refine lv_iconst (v := nI 3) X.1 X.2.1 d_Mo_top_13 (by decide) ?_
      refine lv_iload_n X.1 X.2.1 d_Mo_top_14 rfl (lv_at hl 3 rfl) ?_
      refine gx_imul X.1 X.2.1 d_Mo_top_15 ?_
      refine lv_iload_n X.1 X.2.1 d_Mo_top_16 rfl (lv_at hl 0 rfl) ?_
      refine gx_iadd X.1 X.2.1 d_Mo_top_17 ?_
      refine ga_230 (by omega) X hP d_Mo_top_18 ?_
      rw [p2]
      refine gx_if_ne X.1 X.2.1 (tgt := 49) d_Mo_top_19 (by decide) (by omega) (fun h19_2 => ?_) (fun h19_2 => ?_)
      · skip
        have u2 : ab_up a g 2 = false := by have z := xb_one.mp (show xb (!ab_up a g 2) = 1 by omega); simpa using z
        refine lv_iload_n X.1 X.2.1 d_Mo_top_49 rfl (lv_at hl 1 rfl) ?_
        refine lv_istore_n X.1 X.2.1 d_Mo_top_50 rfl hl (by decide) rfl (fun ls hl => ?_)
        have hl : lv_has ls 4 [(2, .int (nI (ab_vi a g 0))), (3, .int (nI 2)), (0, .ref (ad 224)), (1, .int (nI g))] := hl
        refine lv_iinc (k := 1) (v := nI (3)) X.1 X.2.1 d_Mo_top_51 hl rfl (by decide) (by decide) rfl (fun ls hl => ?_)
        have hl : lv_has ls 4 [(3, .int (nI 3)), (2, .int (nI (ab_vi a g 0))), (0, .ref (ad 224)), (1, .int (nI g))] := hl
        refine lv_goto (tgt := 4) X.1 X.2.1 d_Mo_top_54 (by decide) ?_
        refine lv_iload_n X.1 X.2.1 d_Mo_top_4 rfl (lv_at hl 0 rfl) ?_
        refine lv_iconst (v := nI 3) X.1 X.2.1 d_Mo_top_5 (by decide) ?_
        refine gx_icmp_ge X.1 X.2.1 (tgt := 57) d_Mo_top_6 (by decide) (by omega) (by omega) (fun h6 => ?_) (fun h6 => absurd h6 (by decide))
        refine lv_iload_n X.1 X.2.1 d_Mo_top_57 rfl (lv_at hl 1 rfl) ?_
        refine gx_iret X.1 X.2.1 hr hlk hP hS d_Mo_top_58 ?_
        refine ⟨rfl, Or.inr ⟨by simp [pu_cnt, u0, u1, u2], ?_⟩⟩
        have e : ab_top a g = ab_vi a g 0 := by
          unfold ab_top pu_top
          simp only [u0, u1, u2]
          simp <;> omega
        rw [e]
      · skip
        have u2 : ab_up a g 2 = true := by have z := xb_zero.mp h19_2; simpa using z
        refine lv_aload_n X.1 X.2.1 d_Mo_top_22 rfl (lv_at hl 2 rfl) ?_
        refine gg_Mo_29 X hP d_Mo_top_23 ?_
        refine lv_iconst (v := nI 3) X.1 X.2.1 d_Mo_top_26 (by decide) ?_
        refine lv_iload_n X.1 X.2.1 d_Mo_top_27 rfl (lv_at hl 3 rfl) ?_
        refine gx_imul X.1 X.2.1 d_Mo_top_28 ?_
        refine lv_iload_n X.1 X.2.1 d_Mo_top_29 rfl (lv_at hl 0 rfl) ?_
        refine gx_iadd X.1 X.2.1 d_Mo_top_30 ?_
        refine ga_231 (by omega) X hP d_Mo_top_31 ?_
        rw [q2]
        refine lv_iload_n X.1 X.2.1 d_Mo_top_32 rfl (lv_at hl 1 rfl) ?_
        refine gx_icmp_le X.1 X.2.1 (tgt := 49) d_Mo_top_33 (by decide) (by omega) (by omega) (fun h33_2 => ?_) (fun h33_2 => ?_)
        · skip
          refine lv_iload_n X.1 X.2.1 d_Mo_top_49 rfl (lv_at hl 1 rfl) ?_
          refine lv_istore_n X.1 X.2.1 d_Mo_top_50 rfl hl (by decide) rfl (fun ls hl => ?_)
          have hl : lv_has ls 4 [(2, .int (nI (ab_vi a g 0))), (3, .int (nI 2)), (0, .ref (ad 224)), (1, .int (nI g))] := hl
          refine lv_iinc (k := 1) (v := nI (3)) X.1 X.2.1 d_Mo_top_51 hl rfl (by decide) (by decide) rfl (fun ls hl => ?_)
          have hl : lv_has ls 4 [(3, .int (nI 3)), (2, .int (nI (ab_vi a g 0))), (0, .ref (ad 224)), (1, .int (nI g))] := hl
          refine lv_goto (tgt := 4) X.1 X.2.1 d_Mo_top_54 (by decide) ?_
          refine lv_iload_n X.1 X.2.1 d_Mo_top_4 rfl (lv_at hl 0 rfl) ?_
          refine lv_iconst (v := nI 3) X.1 X.2.1 d_Mo_top_5 (by decide) ?_
          refine gx_icmp_ge X.1 X.2.1 (tgt := 57) d_Mo_top_6 (by decide) (by omega) (by omega) (fun h6 => ?_) (fun h6 => absurd h6 (by decide))
          refine lv_iload_n X.1 X.2.1 d_Mo_top_57 rfl (lv_at hl 1 rfl) ?_
          refine gx_iret X.1 X.2.1 hr hlk hP hS d_Mo_top_58 ?_
          refine ⟨rfl, Or.inr ⟨by simp [pu_cnt, u0, u1, u2], ?_⟩⟩
          have e : ab_top a g = ab_vi a g 0 := by
            unfold ab_top pu_top
            simp only [u0, u1, u2]
            simp <;> omega
          rw [e]
        · skip
          refine lv_aload_n X.1 X.2.1 d_Mo_top_36 rfl (lv_at hl 2 rfl) ?_
          refine gg_Mo_29 X hP d_Mo_top_37 ?_
          refine lv_iconst (v := nI 3) X.1 X.2.1 d_Mo_top_40 (by decide) ?_
          refine lv_iload_n X.1 X.2.1 d_Mo_top_41 rfl (lv_at hl 3 rfl) ?_
          refine gx_imul X.1 X.2.1 d_Mo_top_42 ?_
          refine lv_iload_n X.1 X.2.1 d_Mo_top_43 rfl (lv_at hl 0 rfl) ?_
          refine gx_iadd X.1 X.2.1 d_Mo_top_44 ?_
          refine ga_231 (by omega) X hP d_Mo_top_45 ?_
          rw [q2]
          refine lv_goto (tgt := 50) X.1 X.2.1 d_Mo_top_46 (by decide) ?_
          refine lv_istore_n X.1 X.2.1 d_Mo_top_50 rfl hl (by decide) rfl (fun ls hl => ?_)
          have hl : lv_has ls 4 [(2, .int (nI (ab_vi a g 2))), (3, .int (nI 2)), (0, .ref (ad 224)), (1, .int (nI g))] := hl
          refine lv_iinc (k := 1) (v := nI (3)) X.1 X.2.1 d_Mo_top_51 hl rfl (by decide) (by decide) rfl (fun ls hl => ?_)
          have hl : lv_has ls 4 [(3, .int (nI 3)), (2, .int (nI (ab_vi a g 2))), (0, .ref (ad 224)), (1, .int (nI g))] := hl
          refine lv_goto (tgt := 4) X.1 X.2.1 d_Mo_top_54 (by decide) ?_
          refine lv_iload_n X.1 X.2.1 d_Mo_top_4 rfl (lv_at hl 0 rfl) ?_
          refine lv_iconst (v := nI 3) X.1 X.2.1 d_Mo_top_5 (by decide) ?_
          refine gx_icmp_ge X.1 X.2.1 (tgt := 57) d_Mo_top_6 (by decide) (by omega) (by omega) (fun h6 => ?_) (fun h6 => absurd h6 (by decide))
          refine lv_iload_n X.1 X.2.1 d_Mo_top_57 rfl (lv_at hl 1 rfl) ?_
          refine gx_iret X.1 X.2.1 hr hlk hP hS d_Mo_top_58 ?_
          refine ⟨rfl, Or.inr ⟨by simp [pu_cnt, u0, u1, u2], ?_⟩⟩
          have e : ab_top a g = ab_vi a g 2 := by
            unfold ab_top pu_top
            simp only [u0, u1, u2]
            simp <;> omega
          rw [e]
    · skip
      have u1 : ab_up a g 1 = true := by have z := xb_zero.mp h19_1; simpa using z
      refine lv_aload_n X.1 X.2.1 d_Mo_top_22 rfl (lv_at hl 2 rfl) ?_
      refine gg_Mo_29 X hP d_Mo_top_23 ?_
      refine lv_iconst (v := nI 3) X.1 X.2.1 d_Mo_top_26 (by decide) ?_
      refine lv_iload_n X.1 X.2.1 d_Mo_top_27 rfl (lv_at hl 3 rfl) ?_
      refine gx_imul X.1 X.2.1 d_Mo_top_28 ?_
      refine lv_iload_n X.1 X.2.1 d_Mo_top_29 rfl (lv_at hl 0 rfl) ?_
      refine gx_iadd X.1 X.2.1 d_Mo_top_30 ?_
      refine ga_231 (by omega) X hP d_Mo_top_31 ?_
      rw [q1]
      refine lv_iload_n X.1 X.2.1 d_Mo_top_32 rfl (lv_at hl 1 rfl) ?_
      refine gx_icmp_le X.1 X.2.1 (tgt := 49) d_Mo_top_33 (by decide) (by omega) (by omega) (fun h33_1 => ?_) (fun h33_1 => ?_)
      · skip
        refine lv_iload_n X.1 X.2.1 d_Mo_top_49 rfl (lv_at hl 1 rfl) ?_
        refine lv_istore_n X.1 X.2.1 d_Mo_top_50 rfl hl (by decide) rfl (fun ls hl => ?_)
        have hl : lv_has ls 4 [(2, .int (nI (ab_vi a g 0))), (3, .int (nI 1)), (0, .ref (ad 224)), (1, .int (nI g))] := hl
        refine lv_iinc (k := 1) (v := nI (2)) X.1 X.2.1 d_Mo_top_51 hl rfl (by decide) (by decide) rfl (fun ls hl => ?_)
        have hl : lv_has ls 4 [(3, .int (nI 2)), (2, .int (nI (ab_vi a g 0))), (0, .ref (ad 224)), (1, .int (nI g))] := hl
        refine lv_goto (tgt := 4) X.1 X.2.1 d_Mo_top_54 (by decide) ?_
        refine lv_iload_n X.1 X.2.1 d_Mo_top_4 rfl (lv_at hl 0 rfl) ?_
        refine lv_iconst (v := nI 3) X.1 X.2.1 d_Mo_top_5 (by decide) ?_
        refine gx_icmp_ge X.1 X.2.1 (tgt := 57) d_Mo_top_6 (by decide) (by omega) (by omega) (fun h6 => absurd h6 (by decide)) (fun h6 => ?_)
        refine lv_aload_n X.1 X.2.1 d_Mo_top_9 rfl (lv_at hl 2 rfl) ?_
        refine gg_Mo_26 X hP d_Mo_top_10 ?_
        refine lv_iconst (v := nI 3) X.1 X.2.1 d_Mo_top_13 (by decide) ?_
        refine lv_iload_n X.1 X.2.1 d_Mo_top_14 rfl (lv_at hl 3 rfl) ?_
        refine gx_imul X.1 X.2.1 d_Mo_top_15 ?_
        refine lv_iload_n X.1 X.2.1 d_Mo_top_16 rfl (lv_at hl 0 rfl) ?_
        refine gx_iadd X.1 X.2.1 d_Mo_top_17 ?_
        refine ga_230 (by omega) X hP d_Mo_top_18 ?_
        rw [p2]
        refine gx_if_ne X.1 X.2.1 (tgt := 49) d_Mo_top_19 (by decide) (by omega) (fun h19_2 => ?_) (fun h19_2 => ?_)
        · skip
          have u2 : ab_up a g 2 = false := by have z := xb_one.mp (show xb (!ab_up a g 2) = 1 by omega); simpa using z
          refine lv_iload_n X.1 X.2.1 d_Mo_top_49 rfl (lv_at hl 1 rfl) ?_
          refine lv_istore_n X.1 X.2.1 d_Mo_top_50 rfl hl (by decide) rfl (fun ls hl => ?_)
          have hl : lv_has ls 4 [(2, .int (nI (ab_vi a g 0))), (3, .int (nI 2)), (0, .ref (ad 224)), (1, .int (nI g))] := hl
          refine lv_iinc (k := 1) (v := nI (3)) X.1 X.2.1 d_Mo_top_51 hl rfl (by decide) (by decide) rfl (fun ls hl => ?_)
          have hl : lv_has ls 4 [(3, .int (nI 3)), (2, .int (nI (ab_vi a g 0))), (0, .ref (ad 224)), (1, .int (nI g))] := hl
          refine lv_goto (tgt := 4) X.1 X.2.1 d_Mo_top_54 (by decide) ?_
          refine lv_iload_n X.1 X.2.1 d_Mo_top_4 rfl (lv_at hl 0 rfl) ?_
          refine lv_iconst (v := nI 3) X.1 X.2.1 d_Mo_top_5 (by decide) ?_
          refine gx_icmp_ge X.1 X.2.1 (tgt := 57) d_Mo_top_6 (by decide) (by omega) (by omega) (fun h6 => ?_) (fun h6 => absurd h6 (by decide))
          refine lv_iload_n X.1 X.2.1 d_Mo_top_57 rfl (lv_at hl 1 rfl) ?_
          refine gx_iret X.1 X.2.1 hr hlk hP hS d_Mo_top_58 ?_
          refine ⟨rfl, Or.inr ⟨by simp [pu_cnt, u0, u1, u2], ?_⟩⟩
          have e : ab_top a g = ab_vi a g 0 := by
            unfold ab_top pu_top
            simp only [u0, u1, u2]
            simp <;> omega
          rw [e]
        · skip
          have u2 : ab_up a g 2 = true := by have z := xb_zero.mp h19_2; simpa using z
          refine lv_aload_n X.1 X.2.1 d_Mo_top_22 rfl (lv_at hl 2 rfl) ?_
          refine gg_Mo_29 X hP d_Mo_top_23 ?_
          refine lv_iconst (v := nI 3) X.1 X.2.1 d_Mo_top_26 (by decide) ?_
          refine lv_iload_n X.1 X.2.1 d_Mo_top_27 rfl (lv_at hl 3 rfl) ?_
          refine gx_imul X.1 X.2.1 d_Mo_top_28 ?_
          refine lv_iload_n X.1 X.2.1 d_Mo_top_29 rfl (lv_at hl 0 rfl) ?_
          refine gx_iadd X.1 X.2.1 d_Mo_top_30 ?_
          refine ga_231 (by omega) X hP d_Mo_top_31 ?_
          rw [q2]
          refine lv_iload_n X.1 X.2.1 d_Mo_top_32 rfl (lv_at hl 1 rfl) ?_
          refine gx_icmp_le X.1 X.2.1 (tgt := 49) d_Mo_top_33 (by decide) (by omega) (by omega) (fun h33_2 => ?_) (fun h33_2 => ?_)
          · skip
            refine lv_iload_n X.1 X.2.1 d_Mo_top_49 rfl (lv_at hl 1 rfl) ?_
            refine lv_istore_n X.1 X.2.1 d_Mo_top_50 rfl hl (by decide) rfl (fun ls hl => ?_)
            have hl : lv_has ls 4 [(2, .int (nI (ab_vi a g 0))), (3, .int (nI 2)), (0, .ref (ad 224)), (1, .int (nI g))] := hl
            refine lv_iinc (k := 1) (v := nI (3)) X.1 X.2.1 d_Mo_top_51 hl rfl (by decide) (by decide) rfl (fun ls hl => ?_)
            have hl : lv_has ls 4 [(3, .int (nI 3)), (2, .int (nI (ab_vi a g 0))), (0, .ref (ad 224)), (1, .int (nI g))] := hl
            refine lv_goto (tgt := 4) X.1 X.2.1 d_Mo_top_54 (by decide) ?_
            refine lv_iload_n X.1 X.2.1 d_Mo_top_4 rfl (lv_at hl 0 rfl) ?_
            refine lv_iconst (v := nI 3) X.1 X.2.1 d_Mo_top_5 (by decide) ?_
            refine gx_icmp_ge X.1 X.2.1 (tgt := 57) d_Mo_top_6 (by decide) (by omega) (by omega) (fun h6 => ?_) (fun h6 => absurd h6 (by decide))
            refine lv_iload_n X.1 X.2.1 d_Mo_top_57 rfl (lv_at hl 1 rfl) ?_
            refine gx_iret X.1 X.2.1 hr hlk hP hS d_Mo_top_58 ?_
            refine ⟨rfl, Or.inr ⟨by simp [pu_cnt, u0, u1, u2], ?_⟩⟩
            have e : ab_top a g = ab_vi a g 0 := by
              unfold ab_top pu_top
              simp only [u0, u1, u2]
              simp <;> omega
            rw [e]
          · skip
            refine lv_aload_n X.1 X.2.1 d_Mo_top_36 rfl (lv_at hl 2 rfl) ?_
            refine gg_Mo_29 X hP d_Mo_top_37 ?_
            refine lv_iconst (v := nI 3) X.1 X.2.1 d_Mo_top_40 (by decide) ?_
            refine lv_iload_n X.1 X.2.1 d_Mo_top_41 rfl (lv_at hl 3 rfl) ?_
            refine gx_imul X.1 X.2.1 d_Mo_top_42 ?_
            refine lv_iload_n X.1 X.2.1 d_Mo_top_43 rfl (lv_at hl 0 rfl) ?_
            refine gx_iadd X.1 X.2.1 d_Mo_top_44 ?_
            refine ga_231 (by omega) X hP d_Mo_top_45 ?_
            rw [q2]
            refine lv_goto (tgt := 50) X.1 X.2.1 d_Mo_top_46 (by decide) ?_
            refine lv_istore_n X.1 X.2.1 d_Mo_top_50 rfl hl (by decide) rfl (fun ls hl => ?_)
            have hl : lv_has ls 4 [(2, .int (nI (ab_vi a g 2))), (3, .int (nI 2)), (0, .ref (ad 224)), (1, .int (nI g))] := hl
            refine lv_iinc (k := 1) (v := nI (3)) X.1 X.2.1 d_Mo_top_51 hl rfl (by decide) (by decide) rfl (fun ls hl => ?_)
            have hl : lv_has ls 4 [(3, .int (nI 3)), (2, .int (nI (ab_vi a g 2))), (0, .ref (ad 224)), (1, .int (nI g))] := hl
            refine lv_goto (tgt := 4) X.1 X.2.1 d_Mo_top_54 (by decide) ?_
            refine lv_iload_n X.1 X.2.1 d_Mo_top_4 rfl (lv_at hl 0 rfl) ?_
            refine lv_iconst (v := nI 3) X.1 X.2.1 d_Mo_top_5 (by decide) ?_
            refine gx_icmp_ge X.1 X.2.1 (tgt := 57) d_Mo_top_6 (by decide) (by omega) (by omega) (fun h6 => ?_) (fun h6 => absurd h6 (by decide))
            refine lv_iload_n X.1 X.2.1 d_Mo_top_57 rfl (lv_at hl 1 rfl) ?_
            refine gx_iret X.1 X.2.1 hr hlk hP hS d_Mo_top_58 ?_
            refine ⟨rfl, Or.inr ⟨by simp [pu_cnt, u0, u1, u2], ?_⟩⟩
            have e : ab_top a g = ab_vi a g 2 := by
              unfold ab_top pu_top
              simp only [u0, u1, u2]
              simp <;> omega
            rw [e]
      · skip
        refine lv_aload_n X.1 X.2.1 d_Mo_top_36 rfl (lv_at hl 2 rfl) ?_
        refine gg_Mo_29 X hP d_Mo_top_37 ?_
        refine lv_iconst (v := nI 3) X.1 X.2.1 d_Mo_top_40 (by decide) ?_
        refine lv_iload_n X.1 X.2.1 d_Mo_top_41 rfl (lv_at hl 3 rfl) ?_
        refine gx_imul X.1 X.2.1 d_Mo_top_42 ?_
        refine lv_iload_n X.1 X.2.1 d_Mo_top_43 rfl (lv_at hl 0 rfl) ?_
        refine gx_iadd X.1 X.2.1 d_Mo_top_44 ?_
        refine ga_231 (by omega) X hP d_Mo_top_45 ?_
        rw [q1]
        refine lv_goto (tgt := 50) X.1 X.2.1 d_Mo_top_46 (by decide) ?_
        refine lv_istore_n X.1 X.2.1 d_Mo_top_50 rfl hl (by decide) rfl (fun ls hl => ?_)
        have hl : lv_has ls 4 [(2, .int (nI (ab_vi a g 1))), (3, .int (nI 1)), (0, .ref (ad 224)), (1, .int (nI g))] := hl
        refine lv_iinc (k := 1) (v := nI (2)) X.1 X.2.1 d_Mo_top_51 hl rfl (by decide) (by decide) rfl (fun ls hl => ?_)
        have hl : lv_has ls 4 [(3, .int (nI 2)), (2, .int (nI (ab_vi a g 1))), (0, .ref (ad 224)), (1, .int (nI g))] := hl
        refine lv_goto (tgt := 4) X.1 X.2.1 d_Mo_top_54 (by decide) ?_
        refine lv_iload_n X.1 X.2.1 d_Mo_top_4 rfl (lv_at hl 0 rfl) ?_
        refine lv_iconst (v := nI 3) X.1 X.2.1 d_Mo_top_5 (by decide) ?_
        refine gx_icmp_ge X.1 X.2.1 (tgt := 57) d_Mo_top_6 (by decide) (by omega) (by omega) (fun h6 => absurd h6 (by decide)) (fun h6 => ?_)
        refine lv_aload_n X.1 X.2.1 d_Mo_top_9 rfl (lv_at hl 2 rfl) ?_
        refine gg_Mo_26 X hP d_Mo_top_10 ?_
        refine lv_iconst (v := nI 3) X.1 X.2.1 d_Mo_top_13 (by decide) ?_
        refine lv_iload_n X.1 X.2.1 d_Mo_top_14 rfl (lv_at hl 3 rfl) ?_
        refine gx_imul X.1 X.2.1 d_Mo_top_15 ?_
        refine lv_iload_n X.1 X.2.1 d_Mo_top_16 rfl (lv_at hl 0 rfl) ?_
        refine gx_iadd X.1 X.2.1 d_Mo_top_17 ?_
        refine ga_230 (by omega) X hP d_Mo_top_18 ?_
        rw [p2]
        refine gx_if_ne X.1 X.2.1 (tgt := 49) d_Mo_top_19 (by decide) (by omega) (fun h19_2 => ?_) (fun h19_2 => ?_)
        · skip
          have u2 : ab_up a g 2 = false := by have z := xb_one.mp (show xb (!ab_up a g 2) = 1 by omega); simpa using z
          refine lv_iload_n X.1 X.2.1 d_Mo_top_49 rfl (lv_at hl 1 rfl) ?_
          refine lv_istore_n X.1 X.2.1 d_Mo_top_50 rfl hl (by decide) rfl (fun ls hl => ?_)
          have hl : lv_has ls 4 [(2, .int (nI (ab_vi a g 1))), (3, .int (nI 2)), (0, .ref (ad 224)), (1, .int (nI g))] := hl
          refine lv_iinc (k := 1) (v := nI (3)) X.1 X.2.1 d_Mo_top_51 hl rfl (by decide) (by decide) rfl (fun ls hl => ?_)
          have hl : lv_has ls 4 [(3, .int (nI 3)), (2, .int (nI (ab_vi a g 1))), (0, .ref (ad 224)), (1, .int (nI g))] := hl
          refine lv_goto (tgt := 4) X.1 X.2.1 d_Mo_top_54 (by decide) ?_
          refine lv_iload_n X.1 X.2.1 d_Mo_top_4 rfl (lv_at hl 0 rfl) ?_
          refine lv_iconst (v := nI 3) X.1 X.2.1 d_Mo_top_5 (by decide) ?_
          refine gx_icmp_ge X.1 X.2.1 (tgt := 57) d_Mo_top_6 (by decide) (by omega) (by omega) (fun h6 => ?_) (fun h6 => absurd h6 (by decide))
          refine lv_iload_n X.1 X.2.1 d_Mo_top_57 rfl (lv_at hl 1 rfl) ?_
          refine gx_iret X.1 X.2.1 hr hlk hP hS d_Mo_top_58 ?_
          refine ⟨rfl, Or.inr ⟨by simp [pu_cnt, u0, u1, u2], ?_⟩⟩
          have e : ab_top a g = ab_vi a g 1 := by
            unfold ab_top pu_top
            simp only [u0, u1, u2]
            simp <;> omega
          rw [e]
        · skip
          have u2 : ab_up a g 2 = true := by have z := xb_zero.mp h19_2; simpa using z
          refine lv_aload_n X.1 X.2.1 d_Mo_top_22 rfl (lv_at hl 2 rfl) ?_
          refine gg_Mo_29 X hP d_Mo_top_23 ?_
          refine lv_iconst (v := nI 3) X.1 X.2.1 d_Mo_top_26 (by decide) ?_
          refine lv_iload_n X.1 X.2.1 d_Mo_top_27 rfl (lv_at hl 3 rfl) ?_
          refine gx_imul X.1 X.2.1 d_Mo_top_28 ?_
          refine lv_iload_n X.1 X.2.1 d_Mo_top_29 rfl (lv_at hl 0 rfl) ?_
          refine gx_iadd X.1 X.2.1 d_Mo_top_30 ?_
          refine ga_231 (by omega) X hP d_Mo_top_31 ?_
          rw [q2]
          refine lv_iload_n X.1 X.2.1 d_Mo_top_32 rfl (lv_at hl 1 rfl) ?_
          refine gx_icmp_le X.1 X.2.1 (tgt := 49) d_Mo_top_33 (by decide) (by omega) (by omega) (fun h33_2 => ?_) (fun h33_2 => ?_)
          · skip
            refine lv_iload_n X.1 X.2.1 d_Mo_top_49 rfl (lv_at hl 1 rfl) ?_
            refine lv_istore_n X.1 X.2.1 d_Mo_top_50 rfl hl (by decide) rfl (fun ls hl => ?_)
            have hl : lv_has ls 4 [(2, .int (nI (ab_vi a g 1))), (3, .int (nI 2)), (0, .ref (ad 224)), (1, .int (nI g))] := hl
            refine lv_iinc (k := 1) (v := nI (3)) X.1 X.2.1 d_Mo_top_51 hl rfl (by decide) (by decide) rfl (fun ls hl => ?_)
            have hl : lv_has ls 4 [(3, .int (nI 3)), (2, .int (nI (ab_vi a g 1))), (0, .ref (ad 224)), (1, .int (nI g))] := hl
            refine lv_goto (tgt := 4) X.1 X.2.1 d_Mo_top_54 (by decide) ?_
            refine lv_iload_n X.1 X.2.1 d_Mo_top_4 rfl (lv_at hl 0 rfl) ?_
            refine lv_iconst (v := nI 3) X.1 X.2.1 d_Mo_top_5 (by decide) ?_
            refine gx_icmp_ge X.1 X.2.1 (tgt := 57) d_Mo_top_6 (by decide) (by omega) (by omega) (fun h6 => ?_) (fun h6 => absurd h6 (by decide))
            refine lv_iload_n X.1 X.2.1 d_Mo_top_57 rfl (lv_at hl 1 rfl) ?_
            refine gx_iret X.1 X.2.1 hr hlk hP hS d_Mo_top_58 ?_
            refine ⟨rfl, Or.inr ⟨by simp [pu_cnt, u0, u1, u2], ?_⟩⟩
            have e : ab_top a g = ab_vi a g 1 := by
              unfold ab_top pu_top
              simp only [u0, u1, u2]
              simp <;> omega
            rw [e]
          · skip
            refine lv_aload_n X.1 X.2.1 d_Mo_top_36 rfl (lv_at hl 2 rfl) ?_
            refine gg_Mo_29 X hP d_Mo_top_37 ?_
            refine lv_iconst (v := nI 3) X.1 X.2.1 d_Mo_top_40 (by decide) ?_
            refine lv_iload_n X.1 X.2.1 d_Mo_top_41 rfl (lv_at hl 3 rfl) ?_
            refine gx_imul X.1 X.2.1 d_Mo_top_42 ?_
            refine lv_iload_n X.1 X.2.1 d_Mo_top_43 rfl (lv_at hl 0 rfl) ?_
            refine gx_iadd X.1 X.2.1 d_Mo_top_44 ?_
            refine ga_231 (by omega) X hP d_Mo_top_45 ?_
            rw [q2]
            refine lv_goto (tgt := 50) X.1 X.2.1 d_Mo_top_46 (by decide) ?_
            refine lv_istore_n X.1 X.2.1 d_Mo_top_50 rfl hl (by decide) rfl (fun ls hl => ?_)
            have hl : lv_has ls 4 [(2, .int (nI (ab_vi a g 2))), (3, .int (nI 2)), (0, .ref (ad 224)), (1, .int (nI g))] := hl
            refine lv_iinc (k := 1) (v := nI (3)) X.1 X.2.1 d_Mo_top_51 hl rfl (by decide) (by decide) rfl (fun ls hl => ?_)
            have hl : lv_has ls 4 [(3, .int (nI 3)), (2, .int (nI (ab_vi a g 2))), (0, .ref (ad 224)), (1, .int (nI g))] := hl
            refine lv_goto (tgt := 4) X.1 X.2.1 d_Mo_top_54 (by decide) ?_
            refine lv_iload_n X.1 X.2.1 d_Mo_top_4 rfl (lv_at hl 0 rfl) ?_
            refine lv_iconst (v := nI 3) X.1 X.2.1 d_Mo_top_5 (by decide) ?_
            refine gx_icmp_ge X.1 X.2.1 (tgt := 57) d_Mo_top_6 (by decide) (by omega) (by omega) (fun h6 => ?_) (fun h6 => absurd h6 (by decide))
            refine lv_iload_n X.1 X.2.1 d_Mo_top_57 rfl (lv_at hl 1 rfl) ?_
            refine gx_iret X.1 X.2.1 hr hlk hP hS d_Mo_top_58 ?_
            refine ⟨rfl, Or.inr ⟨by simp [pu_cnt, u0, u1, u2], ?_⟩⟩
            have e : ab_top a g = ab_vi a g 2 := by
              unfold ab_top pu_top
              simp only [u0, u1, u2]
              simp <;> omega
            rw [e]
set_option maxRecDepth 100000 in
set_option maxHeartbeats 4000000 in
theorem K_Mo_leader (l : Launch) (dC : Nat → ClassId) (dI : Nat → Nat → Nat) (cx : Nat → ClassId) (ad : Nat → Nat) (hJ : gx_J gx_N ad (gx_A gx_N ad)) (σ : gx_M) (a : ab_S) (gq : Int32) (hx : mr σ a) (hw : ab_W a) : cg_Mi l dC dI cx ad y_Mo_leader w_Mo_leader 1 [.ref (ad 224), .int gq] σ (fun r σ' => σ' = σ ∧ r = Int32.ofInt (ab_leader a gq.toInt)) := by
  refine gx_ofW (cc := c_Mo_leader) (maxL := 3) (ret := (Option.some Jvm.ClassFile.FieldType.int)) (by decide) rfl (Nat.le_of_ble_eq_true rfl) ?_
  intro p e s m below meth c ls S hr hlk hK hN hl hP
  have X : cg_X c_Mo_leader "CommitGroupsModel" 3 dC dI cx p m c s _ := ⟨S.1, S.2.1, S.2.2.2.1, fun w h => S.2.2.2.2 w (List.mem_cons_of_mem _ h), hK, hN, S.2.2.1⟩
  have hS : va_S (gx_A gx_N ad) s.heap s.heap [] := va_S.rf
  have hl : lv_has ls 3 [(0, .ref (ad 224)), (1, .int gq)] := hl
  refine lv_iload_n X.1 X.2.1 d_Mo_leader_0 rfl (lv_at hl 1 rfl) ?_
  refine lv_iconst (v := nI 0) X.1 X.2.1 d_Mo_leader_1 (by decide) ?_
  refine lv_iconst (v := nI 3) X.1 X.2.1 d_Mo_leader_2 (by decide) ?_
  refine cv_Mo_63 (rest := []) X hJ hP hS (K_Mo_in l dC dI cx ad hJ _ gq 0 3 (by omega) (by omega)) rfl rfl (by decide) hl.1 (Nat.le_of_ble_eq_true rfl) ⟨Nat.le_refl _, Nat.le_refl _⟩ d_Mo_leader_3 (fun r σ' H locs hq hP hS => ?_)
  obtain ⟨hq0, b3, rfl, hb3, hp3⟩ := hq
  rw [hq0] at hP
  refine gx_if_ne X.1 X.2.1 (tgt := 11) d_Mo_leader_6 (by decide) (by omega) (fun h6 => ?_) (fun h6 => ?_)
  · skip
    have hh3 := hp3.mp (by omega)
    obtain ⟨g, rfl, g1, g2, g3⟩ := gi_of (t := gq) (n := 3) (by omega) (by omega)
    have hg : g < 4 := by omega
    have htop : ab_top a g < 2 ^ 30 := by unfold ab_top; rw [← gvf_top]; exact gvf_lt (by decide) (fun r hr => (hw.2.2 g r hg hr).2.1) 3 (Nat.le_refl 3)
    obtain ⟨p0, -⟩ := hx.2.2.1 g (ab_top a g % 3) hg (Nat.mod_lt _ (by decide))
    have hxb := xb_le (!ab_up a g (ab_top a g % 3))
    refine lv_aload_n X.1 X.2.1 d_Mo_leader_11 rfl (lv_at hl 0 rfl) ?_
    refine lv_iload_n X.1 X.2.1 d_Mo_leader_12 rfl (lv_at hl 1 rfl) ?_
    refine cv_Mo_90 (rest := []) X hJ hP hS (by decide) (ec_Mo_0 _) (K_Mo_top l dC dI cx ad hJ _ a g hx hw hg) rfl rfl (by decide) hl.1 (Nat.le_of_ble_eq_true rfl) ⟨Nat.le_refl _, Nat.le_refl _⟩ d_Mo_leader_13 (fun r σ' H locs hq hP hS => ?_)
    obtain ⟨hq0, hq⟩ := hq
    rw [hq0] at hP
    rcases hq with ⟨hc0, rfl⟩ | ⟨hc0, rfl⟩
    · skip
      refine lv_istore_n X.1 X.2.1 d_Mo_leader_16 rfl hl (by decide) rfl (fun ls hl => ?_)
      have hl : lv_has ls 3 [(2, .int (-1)), (0, .ref (ad 224)), (1, .int (nI g))] := hl
      refine lv_iload_n X.1 X.2.1 d_Mo_leader_17 rfl (lv_at hl 0 rfl) ?_
      refine lv_if_lt X.1 X.2.1 (tgt := 36) d_Mo_leader_18 (by decide) (fun h18 => ?_) (fun h18 => absurd (show (-1 : Int32) < 0 by decide) h18)
      refine lv_iconst (v := -1) X.1 X.2.1 d_Mo_leader_36 (by decide) ?_
      refine lv_goto (tgt := 43) X.1 X.2.1 d_Mo_leader_37 (by decide) ?_
      refine gx_iret X.1 X.2.1 hr hlk hP hS d_Mo_leader_43 ?_
      have hld := ab_ld_0 hc0
      refine ⟨rfl, ?_⟩
      unfold ab_leader
      rw [if_neg (fun hh => hh.2.2 (by rw [g3]; exact hld))]
      rfl
    · skip
      refine lv_istore_n X.1 X.2.1 d_Mo_leader_16 rfl hl (by decide) rfl (fun ls hl => ?_)
      have hl : lv_has ls 3 [(2, .int (nI (ab_top a g))), (0, .ref (ad 224)), (1, .int (nI g))] := hl
      refine lv_iload_n X.1 X.2.1 d_Mo_leader_17 rfl (lv_at hl 0 rfl) ?_
      refine gx_if_lt X.1 X.2.1 (tgt := 36) d_Mo_leader_18 (by decide) (by omega) ?_
      refine lv_aload_n X.1 X.2.1 d_Mo_leader_21 rfl (lv_at hl 1 rfl) ?_
      refine gg_Mo_26 X hP d_Mo_leader_22 ?_
      refine lv_iconst (v := nI 3) X.1 X.2.1 d_Mo_leader_25 (by decide) ?_
      refine lv_iload_n X.1 X.2.1 d_Mo_leader_26 rfl (lv_at hl 2 rfl) ?_
      refine gx_imul X.1 X.2.1 d_Mo_leader_27 ?_
      refine lv_iload_n X.1 X.2.1 d_Mo_leader_28 rfl (lv_at hl 0 rfl) ?_
      refine lv_iconst (v := nI 3) X.1 X.2.1 d_Mo_leader_29 (by decide) ?_
      refine gx_irem X.1 X.2.1 d_Mo_leader_30 (by omega) (by decide) (by decide) ?_
      refine gx_iadd X.1 X.2.1 d_Mo_leader_31 ?_
      refine ga_230 (by omega) X hP d_Mo_leader_32 ?_
      rw [p0]
      refine gx_if_eq X.1 X.2.1 (tgt := 40) d_Mo_leader_33 (by decide) (by omega) (fun h33 => ?_) (fun h33 => ?_)
      · skip
        refine lv_iload_n X.1 X.2.1 d_Mo_leader_40 rfl (lv_at hl 0 rfl) ?_
        refine lv_iconst (v := nI 3) X.1 X.2.1 d_Mo_leader_41 (by decide) ?_
        refine gx_irem X.1 X.2.1 d_Mo_leader_42 (by omega) (by decide) (by decide) ?_
        refine gx_iret X.1 X.2.1 hr hlk hP hS d_Mo_leader_43 ?_
        have hu : ab_up a g (ab_top a g % 3) = true := by have z := xb_zero.mp h33; simpa using z
        have hld : ab_ld a g = ab_top a g % 3 := by unfold ab_ld; rw [if_pos hu]
        have hm : ab_top a g % 3 < 3 := Nat.mod_lt _ (by decide)
        refine ⟨rfl, ?_⟩
        unfold ab_leader
        rw [if_pos ⟨by omega, by omega, by rw [g3]; omega⟩, g3, hld]
        rfl
      · skip
        refine lv_iconst (v := -1) X.1 X.2.1 d_Mo_leader_36 (by decide) ?_
        refine lv_goto (tgt := 43) X.1 X.2.1 d_Mo_leader_37 (by decide) ?_
        refine gx_iret X.1 X.2.1 hr hlk hP hS d_Mo_leader_43 ?_
        have hu : ab_up a g (ab_top a g % 3) = false := by have z := xb_one.mp (show xb (!ab_up a g (ab_top a g % 3)) = 1 by omega); simpa using z
        have hld : ab_ld a g = 3 := by unfold ab_ld; rw [if_neg (by rw [hu]; decide)]
        refine ⟨rfl, ?_⟩
        unfold ab_leader
        rw [if_neg (fun hh => hh.2.2 (by rw [g3]; exact hld))]
        rfl
  · skip
    refine lv_iconst (v := -1) X.1 X.2.1 d_Mo_leader_9 (by decide) ?_
    refine gx_iret X.1 X.2.1 hr hlk hP hS d_Mo_leader_10 ?_
    refine ⟨rfl, ?_⟩
    unfold ab_leader
    rw [if_neg (fun hh => by have := hp3.mpr ⟨hh.1, hh.2.1⟩; omega)]
    rfl
set_option maxRecDepth 100000 in
set_option maxHeartbeats 4000000 in
theorem K_Mo_crash (l : Launch) (dC : Nat → ClassId) (dI : Nat → Nat → Nat) (cx : Nat → ClassId) (ad : Nat → Nat) (hJ : gx_J gx_N ad (gx_A gx_N ad)) (σ : gx_M) (a : ab_S) (gq rq : Int32) (hx : mr σ a) (hw : ab_W a) : cg_Mi l dC dI cx ad y_Mo_crash w_Mo_crash 1 [.ref (ad 224), .int gq, .int rq] σ (fun r σ' => r = nI (xb (ab_crash a gq.toInt rq.toInt).1) ∧ mr σ' (ab_crash a gq.toInt rq.toInt).2 ∧ ∀ n, n < 224 → σ' n = σ n) := by
  refine gx_ofW (cc := c_Mo_crash) (maxL := 3) (ret := (Option.some Jvm.ClassFile.FieldType.boolean)) (by decide) rfl (Nat.le_of_ble_eq_true rfl) ?_
  intro p e s m below meth c ls S hr hlk hK hN hl hP
  have X : cg_X c_Mo_crash "CommitGroupsModel" 3 dC dI cx p m c s _ := ⟨S.1, S.2.1, S.2.2.2.1, fun w h => S.2.2.2.2 w (List.mem_cons_of_mem _ h), hK, hN, S.2.2.1⟩
  have hS : va_S (gx_A gx_N ad) s.heap s.heap [] := va_S.rf
  have hl : lv_has ls 3 [(0, .ref (ad 224)), (1, .int gq), (2, .int rq)] := hl
  refine lv_iload_n X.1 X.2.1 d_Mo_crash_0 rfl (lv_at hl 1 rfl) ?_
  refine lv_iconst (v := nI 0) X.1 X.2.1 d_Mo_crash_1 (by decide) ?_
  refine lv_iconst (v := nI 3) X.1 X.2.1 d_Mo_crash_2 (by decide) ?_
  refine cv_Mo_63 (rest := []) X hJ hP hS (K_Mo_in l dC dI cx ad hJ _ gq 0 3 (by omega) (by omega)) rfl rfl (by decide) hl.1 (Nat.le_of_ble_eq_true rfl) ⟨Nat.le_refl _, Nat.le_refl _⟩ d_Mo_crash_3 (fun r σ' H locs hq hP hS => ?_)
  obtain ⟨hq0, b3, rfl, hb3, hp3⟩ := hq
  rw [hq0] at hP
  refine gx_if_eq X.1 X.2.1 (tgt := 31) d_Mo_crash_6 (by decide) (by omega) (fun h6 => ?_) (fun h6 => ?_)
  · skip
    refine lv_iconst (v := nI 0) X.1 X.2.1 d_Mo_crash_31 (by decide) ?_
    refine gx_zret X.1 X.2.1 hr hlk hP hS d_Mo_crash_32 (by decide) ?_
    have e : ab_crash a gq.toInt rq.toInt = (false, a) := by unfold ab_crash; exact if_neg (fun hh => by have := hp3.mpr ⟨hh.1.1, hh.1.2.1⟩; omega)
    rw [e]
    exact ⟨rfl, hx, fun n _ => rfl⟩
  · skip
    refine lv_iload_n X.1 X.2.1 d_Mo_crash_9 rfl (lv_at hl 2 rfl) ?_
    refine lv_iconst (v := nI 0) X.1 X.2.1 d_Mo_crash_10 (by decide) ?_
    refine lv_iconst (v := nI 2) X.1 X.2.1 d_Mo_crash_11 (by decide) ?_
    refine cv_Mo_63 (rest := []) X hJ hP hS (K_Mo_in l dC dI cx ad hJ _ rq 0 2 (by omega) (by omega)) rfl rfl (by decide) hl.1 (Nat.le_of_ble_eq_true rfl) ⟨Nat.le_refl _, Nat.le_refl _⟩ d_Mo_crash_12 (fun r σ' H locs hq hP hS => ?_)
    obtain ⟨hq0, b12, rfl, hb12, hp12⟩ := hq
    rw [hq0] at hP
    refine gx_if_eq X.1 X.2.1 (tgt := 31) d_Mo_crash_15 (by decide) (by omega) (fun h15 => ?_) (fun h15 => ?_)
    · skip
      refine lv_iconst (v := nI 0) X.1 X.2.1 d_Mo_crash_31 (by decide) ?_
      refine gx_zret X.1 X.2.1 hr hlk hP hS d_Mo_crash_32 (by decide) ?_
      have e : ab_crash a gq.toInt rq.toInt = (false, a) := by unfold ab_crash; exact if_neg (fun hh => by have := hp12.mpr ⟨hh.1.2.2.1, hh.1.2.2.2⟩; omega)
      rw [e]
      exact ⟨rfl, hx, fun n _ => rfl⟩
    · skip
      have hh3 := hp3.mp (by omega)
      have hh12 := hp12.mp (by omega)
      obtain ⟨g, rfl, g1, g2, g3⟩ := gi_of (t := gq) (n := 3) (by omega) (by omega)
      obtain ⟨r', rfl, r1, r2, r3⟩ := gi_of (t := rq) (n := 2) (by omega) (by omega)
      obtain ⟨p0, -⟩ := hx.2.2.1 g r' (by omega) (by omega)
      have hxb := xb_le (!ab_up a g r')
      refine lv_aload_n X.1 X.2.1 d_Mo_crash_18 rfl (lv_at hl 0 rfl) ?_
      refine gg_Mo_26 X hP d_Mo_crash_19 ?_
      refine lv_iconst (v := nI 3) X.1 X.2.1 d_Mo_crash_22 (by decide) ?_
      refine lv_iload_n X.1 X.2.1 d_Mo_crash_23 rfl (lv_at hl 1 rfl) ?_
      refine gx_imul X.1 X.2.1 d_Mo_crash_24 ?_
      refine lv_iload_n X.1 X.2.1 d_Mo_crash_25 rfl (lv_at hl 2 rfl) ?_
      refine gx_iadd X.1 X.2.1 d_Mo_crash_26 ?_
      refine ga_230 (by omega) X hP d_Mo_crash_27 ?_
      rw [p0]
      refine gx_if_eq X.1 X.2.1 (tgt := 33) d_Mo_crash_28 (by decide) (by omega) (fun h28 => ?_) (fun h28 => ?_)
      · skip
        refine lv_aload_n X.1 X.2.1 d_Mo_crash_33 rfl (lv_at hl 0 rfl) ?_
        refine gg_Mo_26 X hP d_Mo_crash_34 ?_
        refine lv_iconst (v := nI 3) X.1 X.2.1 d_Mo_crash_37 (by decide) ?_
        refine lv_iload_n X.1 X.2.1 d_Mo_crash_38 rfl (lv_at hl 1 rfl) ?_
        refine gx_imul X.1 X.2.1 d_Mo_crash_39 ?_
        refine lv_iload_n X.1 X.2.1 d_Mo_crash_40 rfl (lv_at hl 2 rfl) ?_
        refine gx_iadd X.1 X.2.1 d_Mo_crash_41 ?_
        refine lv_iconst (v := nI 1) X.1 X.2.1 d_Mo_crash_42 (by decide) ?_
        refine gs_230 (by omega) (by omega) X hJ hP hS d_Mo_crash_43 (fun H locs hP hS => ?_)
        refine lv_iconst (v := nI 1) X.1 X.2.1 d_Mo_crash_44 (by decide) ?_
        refine gx_zret X.1 X.2.1 hr hlk hP hS d_Mo_crash_45 (by decide) ?_
        have hu : ab_up a g r' = true := by have z := xb_zero.mp h28; simpa using z
        have e : ab_crash a (nI g).toInt (nI r').toInt = (true, ab_setup a g r' false) := by unfold ab_crash; rw [if_pos ⟨⟨by omega, by omega, by omega, by omega⟩, by rw [g3, r3]; exact hu⟩, g3, r3]
        rw [e]
        exact ⟨rfl, mr_up hx hw (by omega) (by omega) false, fun n hn => gx_w_row _ _ _ (by omega)⟩
      · skip
        refine lv_iconst (v := nI 0) X.1 X.2.1 d_Mo_crash_31 (by decide) ?_
        refine gx_zret X.1 X.2.1 hr hlk hP hS d_Mo_crash_32 (by decide) ?_
        have e : ab_crash a (nI g).toInt (nI r').toInt = (false, a) := by unfold ab_crash; exact if_neg (fun hh => by have z := hh.2; rw [g3, r3] at z; rw [z] at h28; exact absurd h28 (by decide))
        rw [e]
        exact ⟨rfl, hx, fun n _ => rfl⟩
set_option maxRecDepth 100000 in
set_option maxHeartbeats 4000000 in
theorem K_Mo_restart (l : Launch) (dC : Nat → ClassId) (dI : Nat → Nat → Nat) (cx : Nat → ClassId) (ad : Nat → Nat) (hJ : gx_J gx_N ad (gx_A gx_N ad)) (σ : gx_M) (a : ab_S) (gq rq : Int32) (hx : mr σ a) (hw : ab_W a) : cg_Mi l dC dI cx ad y_Mo_restart w_Mo_restart 1 [.ref (ad 224), .int gq, .int rq] σ (fun r σ' => r = nI (xb (ab_restart a gq.toInt rq.toInt).1) ∧ mr σ' (ab_restart a gq.toInt rq.toInt).2 ∧ ∀ n, n < 224 → σ' n = σ n) := by
  refine gx_ofW (cc := c_Mo_restart) (maxL := 3) (ret := (Option.some Jvm.ClassFile.FieldType.boolean)) (by decide) rfl (Nat.le_of_ble_eq_true rfl) ?_
  intro p e s m below meth c ls S hr hlk hK hN hl hP
  have X : cg_X c_Mo_restart "CommitGroupsModel" 3 dC dI cx p m c s _ := ⟨S.1, S.2.1, S.2.2.2.1, fun w h => S.2.2.2.2 w (List.mem_cons_of_mem _ h), hK, hN, S.2.2.1⟩
  have hS : va_S (gx_A gx_N ad) s.heap s.heap [] := va_S.rf
  have hl : lv_has ls 3 [(0, .ref (ad 224)), (1, .int gq), (2, .int rq)] := hl
  refine lv_iload_n X.1 X.2.1 d_Mo_restart_0 rfl (lv_at hl 1 rfl) ?_
  refine lv_iconst (v := nI 0) X.1 X.2.1 d_Mo_restart_1 (by decide) ?_
  refine lv_iconst (v := nI 3) X.1 X.2.1 d_Mo_restart_2 (by decide) ?_
  refine cv_Mo_63 (rest := []) X hJ hP hS (K_Mo_in l dC dI cx ad hJ _ gq 0 3 (by omega) (by omega)) rfl rfl (by decide) hl.1 (Nat.le_of_ble_eq_true rfl) ⟨Nat.le_refl _, Nat.le_refl _⟩ d_Mo_restart_3 (fun r σ' H locs hq hP hS => ?_)
  obtain ⟨hq0, b3, rfl, hb3, hp3⟩ := hq
  rw [hq0] at hP
  refine gx_if_eq X.1 X.2.1 (tgt := 31) d_Mo_restart_6 (by decide) (by omega) (fun h6 => ?_) (fun h6 => ?_)
  · skip
    refine lv_iconst (v := nI 0) X.1 X.2.1 d_Mo_restart_31 (by decide) ?_
    refine gx_zret X.1 X.2.1 hr hlk hP hS d_Mo_restart_32 (by decide) ?_
    have e : ab_restart a gq.toInt rq.toInt = (false, a) := by unfold ab_restart; exact if_neg (fun hh => by have := hp3.mpr ⟨hh.1.1, hh.1.2.1⟩; omega)
    rw [e]
    exact ⟨rfl, hx, fun n _ => rfl⟩
  · skip
    refine lv_iload_n X.1 X.2.1 d_Mo_restart_9 rfl (lv_at hl 2 rfl) ?_
    refine lv_iconst (v := nI 0) X.1 X.2.1 d_Mo_restart_10 (by decide) ?_
    refine lv_iconst (v := nI 2) X.1 X.2.1 d_Mo_restart_11 (by decide) ?_
    refine cv_Mo_63 (rest := []) X hJ hP hS (K_Mo_in l dC dI cx ad hJ _ rq 0 2 (by omega) (by omega)) rfl rfl (by decide) hl.1 (Nat.le_of_ble_eq_true rfl) ⟨Nat.le_refl _, Nat.le_refl _⟩ d_Mo_restart_12 (fun r σ' H locs hq hP hS => ?_)
    obtain ⟨hq0, b12, rfl, hb12, hp12⟩ := hq
    rw [hq0] at hP
    refine gx_if_eq X.1 X.2.1 (tgt := 31) d_Mo_restart_15 (by decide) (by omega) (fun h15 => ?_) (fun h15 => ?_)
    · skip
      refine lv_iconst (v := nI 0) X.1 X.2.1 d_Mo_restart_31 (by decide) ?_
      refine gx_zret X.1 X.2.1 hr hlk hP hS d_Mo_restart_32 (by decide) ?_
      have e : ab_restart a gq.toInt rq.toInt = (false, a) := by unfold ab_restart; exact if_neg (fun hh => by have := hp12.mpr ⟨hh.1.2.2.1, hh.1.2.2.2⟩; omega)
      rw [e]
      exact ⟨rfl, hx, fun n _ => rfl⟩
    · skip
      have hh3 := hp3.mp (by omega)
      have hh12 := hp12.mp (by omega)
      obtain ⟨g, rfl, g1, g2, g3⟩ := gi_of (t := gq) (n := 3) (by omega) (by omega)
      obtain ⟨r', rfl, r1, r2, r3⟩ := gi_of (t := rq) (n := 2) (by omega) (by omega)
      obtain ⟨p0, -⟩ := hx.2.2.1 g r' (by omega) (by omega)
      have hxb := xb_le (!ab_up a g r')
      refine lv_aload_n X.1 X.2.1 d_Mo_restart_18 rfl (lv_at hl 0 rfl) ?_
      refine gg_Mo_26 X hP d_Mo_restart_19 ?_
      refine lv_iconst (v := nI 3) X.1 X.2.1 d_Mo_restart_22 (by decide) ?_
      refine lv_iload_n X.1 X.2.1 d_Mo_restart_23 rfl (lv_at hl 1 rfl) ?_
      refine gx_imul X.1 X.2.1 d_Mo_restart_24 ?_
      refine lv_iload_n X.1 X.2.1 d_Mo_restart_25 rfl (lv_at hl 2 rfl) ?_
      refine gx_iadd X.1 X.2.1 d_Mo_restart_26 ?_
      refine ga_230 (by omega) X hP d_Mo_restart_27 ?_
      rw [p0]
      refine gx_if_ne X.1 X.2.1 (tgt := 33) d_Mo_restart_28 (by decide) (by omega) (fun h28 => ?_) (fun h28 => ?_)
      · skip
        refine lv_aload_n X.1 X.2.1 d_Mo_restart_33 rfl (lv_at hl 0 rfl) ?_
        refine gg_Mo_26 X hP d_Mo_restart_34 ?_
        refine lv_iconst (v := nI 3) X.1 X.2.1 d_Mo_restart_37 (by decide) ?_
        refine lv_iload_n X.1 X.2.1 d_Mo_restart_38 rfl (lv_at hl 1 rfl) ?_
        refine gx_imul X.1 X.2.1 d_Mo_restart_39 ?_
        refine lv_iload_n X.1 X.2.1 d_Mo_restart_40 rfl (lv_at hl 2 rfl) ?_
        refine gx_iadd X.1 X.2.1 d_Mo_restart_41 ?_
        refine lv_iconst (v := nI 0) X.1 X.2.1 d_Mo_restart_42 (by decide) ?_
        refine gs_230 (by omega) (by omega) X hJ hP hS d_Mo_restart_43 (fun H locs hP hS => ?_)
        refine lv_iconst (v := nI 1) X.1 X.2.1 d_Mo_restart_44 (by decide) ?_
        refine gx_zret X.1 X.2.1 hr hlk hP hS d_Mo_restart_45 (by decide) ?_
        have hu : ab_up a g r' = false := by have z := xb_one.mp (show xb (!ab_up a g r') = 1 by omega); simpa using z
        have e : ab_restart a (nI g).toInt (nI r').toInt = (true, ab_setup a g r' true) := by unfold ab_restart; rw [if_pos ⟨⟨by omega, by omega, by omega, by omega⟩, by rw [g3, r3]; exact hu⟩, g3, r3]
        rw [e]
        exact ⟨rfl, mr_up hx hw (by omega) (by omega) true, fun n hn => gx_w_row _ _ _ (by omega)⟩
      · skip
        refine lv_iconst (v := nI 0) X.1 X.2.1 d_Mo_restart_31 (by decide) ?_
        refine gx_zret X.1 X.2.1 hr hlk hP hS d_Mo_restart_32 (by decide) ?_
        have e : ab_restart a (nI g).toInt (nI r').toInt = (false, a) := by unfold ab_restart; exact if_neg (fun hh => by have z := hh.2; rw [g3, r3] at z; rw [z] at h28; exact absurd h28 (by decide))
        rw [e]
        exact ⟨rfl, hx, fun n _ => rfl⟩
set_option maxRecDepth 100000 in
set_option maxHeartbeats 4000000 in
theorem K_Mo_spread (l : Launch) (dC : Nat → ClassId) (dI : Nat → Nat → Nat) (cx : Nat → ClassId) (ad : Nat → Nat) (hJ : gx_J gx_N ad (gx_A gx_N ad)) (σ : gx_M) (a : ab_S) (g f v : Nat) (hx : mr σ a) (hw : ab_W a) (hg : g < 4) (hf : f < 3) (huf : ab_up a g f = true) (hv : 2 ≤ pu_cnt (ab_up a g) ∨ v = ab_vi a g f) : cg_Mv l dC dI cx ad y_Mo_spread w_Mo_spread 1 [.ref (ad 224), .int (nI g), .int (nI f), .int (nI v)] σ (fun σ' => mr σ' (if 2 ≤ pu_cnt (ab_up a g) then ab_spread a g (ab_lg a g f) v else a) ∧ ∀ n, n < 231 ∨ 234 < n → σ' n = σ n) := by
  refine gx_ofW (cc := c_Mo_spread) (maxL := 9) (ret := (Option.none : Option Jvm.ClassFile.FieldType)) (by decide) rfl (Nat.le_of_ble_eq_true rfl) ?_
  intro p e s m below meth c ls S hr hlk hK hN hl hP
  have X : cg_X c_Mo_spread "CommitGroupsModel" 9 dC dI cx p m c s _ := ⟨S.1, S.2.1, S.2.2.2.1, fun w h => S.2.2.2.2 w (List.mem_cons_of_mem _ h), hK, hN, S.2.2.1⟩
  have hS : va_S (gx_A gx_N ad) s.heap s.heap [] := va_S.rf
  have hl : lv_has ls 9 [(0, .ref (ad 224)), (1, .int (nI g)), (2, .int (nI f)), (3, .int (nI v))] := hl
  have lp : ∀ (k : Nat) (i en : Nat) (τ : gx_M), i + k = 3 → (en = 1 ∧ 2 ≤ pu_cnt (ab_up a g)) ∨ (en = 0 ∧ ¬ 2 ≤ pu_cnt (ab_up a g)) → mr τ (ab_sq a g f v i) → (∀ n, n < 231 ∨ 234 < n → τ n = σ n) → ∀ (H : Heap) (locs : List Loc) (ls : Array Slot), cg_P dC dI cx ad τ H → va_S (gx_A gx_N ad) s.heap H locs → lv_has ls 9 [(6, .int (nI i)), (5, .int (nI en)), (4, .int (nI (3 * g + f))), (0, .ref (ad 224)), (1, .int (nI g)), (2, .int (nI f)), (3, .int (nI v))] → W p l e (rmL 1) s m ([.ref (ad 224), .int (nI g), .int (nI f), .int (nI v)] : List Value).toArray below meth c H locs 0 0 (cg_Qv dC dI cx ad (fun σ' => mr σ' (if 2 ≤ pu_cnt (ab_up a g) then ab_spread a g (ab_lg a g f) v else a) ∧ ∀ n, n < 231 ∨ 234 < n → σ' n = σ n) below [.ref (ad 224), .int (nI g), .int (nI f), .int (nI v)] s) (F0 m 26 ls []) := by
    intro k
    induction k with
    | zero =>
      intro i en τ hik hen hm hfr H locs ls hP hS hl
      refine lv_iload X.1 X.2.1 d_Mo_spread_26 (lv_at hl 0 rfl) ?_
      refine lv_iconst (v := nI 3) X.1 X.2.1 d_Mo_spread_28 (by decide) ?_
      refine gx_icmp_ge X.1 X.2.1 (tgt := 154) d_Mo_spread_29 (by decide) (by omega) (by omega) (fun h29 => ?_) (fun h29 => absurd h29 (by omega))
      refine gx_vret X.1 X.2.1 hr hlk hP hS d_Mo_spread_154 ?_
      obtain rfl : i = 3 := by omega
      rw [ab_sq_3] at hm
      exact ⟨hm, hfr⟩
    | succ k ih =>
      intro i en τ hik hen hm hfr H locs ls hP hS hl
      refine lv_iload X.1 X.2.1 d_Mo_spread_26 (lv_at hl 0 rfl) ?_
      refine lv_iconst (v := nI 3) X.1 X.2.1 d_Mo_spread_28 (by decide) ?_
      refine gx_icmp_ge X.1 X.2.1 (tgt := 154) d_Mo_spread_29 (by decide) (by omega) (by omega) (fun h29 => absurd h29 (by omega)) (fun h29 => ?_)
      obtain ⟨y1, y2, y3, y4, y5⟩ := hm.2.2.1 g i hg (by omega)
      obtain ⟨z1, z2, z3, z4, z5⟩ := hm.2.2.1 g f hg hf
      rw [ab_sq_up] at y1
      rw [ab_sq_dn a g f v (by omega)] at y4
      rw [ab_sq_lgf hf huf] at z3
      have hL6 := (hw.2.2 g f hg hf).1
      have hxb := xb_le (!ab_up a g i)
      refine lv_iconst (v := nI 3) X.1 X.2.1 d_Mo_spread_32 (by decide) ?_
      refine lv_iload_n X.1 X.2.1 d_Mo_spread_33 rfl (lv_at hl 4 rfl) ?_
      refine gx_imul X.1 X.2.1 d_Mo_spread_34 ?_
      refine lv_iload X.1 X.2.1 d_Mo_spread_35 (lv_at hl 0 rfl) ?_
      refine gx_iadd X.1 X.2.1 d_Mo_spread_37 ?_
      refine lv_istore X.1 X.2.1 d_Mo_spread_38 hl (by decide) rfl (fun ls hl => ?_)
      have hl : lv_has ls 9 [(7, .int (nI ((3 * g) + i))), (6, .int (nI i)), (5, .int (nI en)), (4, .int (nI (3 * g + f))), (0, .ref (ad 224)), (1, .int (nI g)), (2, .int (nI f)), (3, .int (nI v))] := hl
      refine lv_aload_n X.1 X.2.1 d_Mo_spread_40 rfl (lv_at hl 4 rfl) ?_
      refine gg_Mo_26 X hP d_Mo_spread_41 ?_
      refine lv_iload X.1 X.2.1 d_Mo_spread_44 (lv_at hl 0 rfl) ?_
      refine ga_230 (by omega) X hP d_Mo_spread_46 ?_
      rw [y1]
      refine gx_if_ne X.1 X.2.1 (tgt := 148) d_Mo_spread_47 (by decide) (by omega) (fun h47 => ?_) (fun h47 => ?_)
      · skip
        refine lv_iinc (k := 1) (v := nI (i + 1)) X.1 X.2.1 d_Mo_spread_148 hl rfl (nI_add _ _) (by decide) rfl (fun ls hl => ?_)
        have hl : lv_has ls 9 [(6, .int (nI (i + 1))), (7, .int (nI ((3 * g) + i))), (5, .int (nI en)), (4, .int (nI (3 * g + f))), (0, .ref (ad 224)), (1, .int (nI g)), (2, .int (nI f)), (3, .int (nI v))] := hl
        refine lv_goto (tgt := 26) X.1 X.2.1 d_Mo_spread_151 (by decide) ?_
        have hui : ab_up a g i = false := by have z := xb_one.mp (show xb (!ab_up a g i) = 1 by omega); simpa using z
        rw [ab_sq_skip hui] at hm
        exact ih (i + 1) en _ (by omega) hen hm hfr H locs ls hP hS (lv_sub hl [0, 2, 3, 4, 5, 6, 7] rfl)
      · skip
        have hui : ab_up a g i = true := by have z := xb_zero.mp h47; simpa using z
        have lpi : ∀ (k : Nat) (j : Nat) (υ : gx_M), j + k = (ab_lg a g f).length → (∀ n, n ≠ 234 → υ n = (gx_w τ 231 (3 * g + i) v) n) → (∀ x, υ 234 x = if 60 * (3 * g + i) ≤ x ∧ x < 60 * (3 * g + i) + j then τ 234 (60 * (3 * g + f) + (x - 60 * (3 * g + i))) else τ 234 x) → ∀ (H : Heap) (locs : List Loc) (ls : Array Slot), cg_P dC dI cx ad υ H → va_S (gx_A gx_N ad) s.heap H locs → lv_has ls 9 [(8, .int (nI j)), (7, .int (nI (3 * g + i))), (6, .int (nI i)), (5, .int (nI en)), (4, .int (nI (3 * g + f))), (0, .ref (ad 224)), (1, .int (nI g)), (2, .int (nI f)), (3, .int (nI v))] → W p l e (rmL 1) s m ([.ref (ad 224), .int (nI g), .int (nI f), .int (nI v)] : List Value).toArray below meth c H locs 0 0 (cg_Qv dC dI cx ad (fun σ' => mr σ' (if 2 ≤ pu_cnt (ab_up a g) then ab_spread a g (ab_lg a g f) v else a) ∧ ∀ n, n < 231 ∨ 234 < n → σ' n = σ n) below [.ref (ad 224), .int (nI g), .int (nI f), .int (nI v)] s) (F0 m 61 ls []) := by
          intro k
          induction k with
          | zero =>
            intro j υ hjk i1 i2 H locs ls hP hS hl
            refine lv_iload X.1 X.2.1 d_Mo_spread_61 (lv_at hl 0 rfl) ?_
            refine lv_aload_n X.1 X.2.1 d_Mo_spread_63 rfl (lv_at hl 5 rfl) ?_
            refine gg_Mo_32 X hP d_Mo_spread_64 ?_
            refine lv_iload X.1 X.2.1 d_Mo_spread_67 (lv_at hl 4 rfl) ?_
            refine ga_232 (by omega) X hP d_Mo_spread_69 ?_
            rw [i1 232 (by decide), gx_w_row _ _ _ (by decide), z3]
            refine gx_icmp_ge X.1 X.2.1 (tgt := 105) d_Mo_spread_70 (by decide) (by omega) (by omega) (fun h70 => ?_) (fun h70 => absurd h70 (by omega))
            refine lv_aload_n X.1 X.2.1 d_Mo_spread_105 rfl (lv_at hl 5 rfl) ?_
            refine gg_Mo_32 X hP d_Mo_spread_106 ?_
            refine lv_iload X.1 X.2.1 d_Mo_spread_109 (lv_at hl 1 rfl) ?_
            refine lv_aload_n X.1 X.2.1 d_Mo_spread_111 rfl (lv_at hl 5 rfl) ?_
            refine gg_Mo_32 X hP d_Mo_spread_112 ?_
            refine lv_iload X.1 X.2.1 d_Mo_spread_115 (lv_at hl 4 rfl) ?_
            refine ga_232 (by omega) X hP d_Mo_spread_117 ?_
            rw [i1 232 (by decide), gx_w_row _ _ _ (by decide), z3]
            refine gs_232 (by omega) X hJ hP hS d_Mo_spread_118 (fun H locs hP hS => ?_)
            refine lv_aload_n X.1 X.2.1 d_Mo_spread_119 rfl (lv_at hl 5 rfl) ?_
            refine gg_Mo_35 X hP d_Mo_spread_120 ?_
            refine lv_iload X.1 X.2.1 d_Mo_spread_123 (lv_at hl 1 rfl) ?_
            refine lv_iload X.1 X.2.1 d_Mo_spread_125 (lv_at hl 3 rfl) ?_
            refine gx_if_eq X.1 X.2.1 (tgt := 140) d_Mo_spread_127 (by decide) (by omega) (fun h127 => ?_) (fun h127 => ?_)
            · skip
              refine lv_aload_n X.1 X.2.1 d_Mo_spread_140 rfl (lv_at hl 5 rfl) ?_
              refine gg_Mo_35 X hP d_Mo_spread_141 ?_
              refine lv_iload X.1 X.2.1 d_Mo_spread_144 (lv_at hl 1 rfl) ?_
              refine ga_233 (by omega) X hP d_Mo_spread_146 ?_
              rw [gx_w_row _ _ _ (show (233 : Nat) ≠ 232 by decide), i1 233 (by decide), gx_w_row _ _ _ (show (233 : Nat) ≠ 231 by decide), y4]
              refine gs_233 (by omega) X hJ hP hS d_Mo_spread_147 (fun H locs hP hS => ?_)
              refine lv_iinc (k := 2) (v := nI (i + 1)) X.1 X.2.1 d_Mo_spread_148 hl rfl (nI_add _ _) (by decide) rfl (fun ls hl => ?_)
              have hl : lv_has ls 9 [(6, .int (nI (i + 1))), (8, .int (nI j)), (7, .int (nI (3 * g + i))), (5, .int (nI en)), (4, .int (nI (3 * g + f))), (0, .ref (ad 224)), (1, .int (nI g)), (2, .int (nI f)), (3, .int (nI v))] := hl
              refine lv_goto (tgt := 26) X.1 X.2.1 d_Mo_spread_151 (by decide) ?_
              refine ih (i + 1) en _ (by omega) hen ?_ ?_ H locs ls hP hS (lv_sub hl [0, 3, 4, 5, 6, 7, 8] rfl)
              · rw [← ab_sq_step hf (by omega) huf hui hv, if_neg (by omega)]
                exact mr_put (f := f) hm hg (by omega) hf (ab_sq_lgf hf huf) (ab_sq_len hg hf (fun g r hg hr => (hw.2.2 g r hg hr).1)) i1 (by intro x; rw [i2 x, show j = (ab_lg a g f).length by omega]) _
              · intro n hn
                rw [gx_w_row _ _ _ (by omega), gx_w_row _ _ _ (by omega), i1 n (by omega), gx_w_row _ _ _ (by omega)]
                exact hfr n hn
            · skip
              refine lv_aload_n X.1 X.2.1 d_Mo_spread_130 rfl (lv_at hl 5 rfl) ?_
              refine gg_Mo_32 X hP d_Mo_spread_131 ?_
              refine lv_iload X.1 X.2.1 d_Mo_spread_134 (lv_at hl 1 rfl) ?_
              refine ga_232 (by omega) X hP d_Mo_spread_136 ?_
              rw [gx_w_self]
              refine lv_goto (tgt := 147) X.1 X.2.1 d_Mo_spread_137 (by decide) ?_
              refine gs_233 (by omega) X hJ hP hS d_Mo_spread_147 (fun H locs hP hS => ?_)
              refine lv_iinc (k := 2) (v := nI (i + 1)) X.1 X.2.1 d_Mo_spread_148 hl rfl (nI_add _ _) (by decide) rfl (fun ls hl => ?_)
              have hl : lv_has ls 9 [(6, .int (nI (i + 1))), (8, .int (nI j)), (7, .int (nI (3 * g + i))), (5, .int (nI en)), (4, .int (nI (3 * g + f))), (0, .ref (ad 224)), (1, .int (nI g)), (2, .int (nI f)), (3, .int (nI v))] := hl
              refine lv_goto (tgt := 26) X.1 X.2.1 d_Mo_spread_151 (by decide) ?_
              refine ih (i + 1) en _ (by omega) hen ?_ ?_ H locs ls hP hS (lv_sub hl [0, 3, 4, 5, 6, 7, 8] rfl)
              · rw [← ab_sq_step hf (by omega) huf hui hv, if_pos (by omega)]
                exact mr_put (f := f) hm hg (by omega) hf (ab_sq_lgf hf huf) (ab_sq_len hg hf (fun g r hg hr => (hw.2.2 g r hg hr).1)) i1 (by intro x; rw [i2 x, show j = (ab_lg a g f).length by omega]) _
              · intro n hn
                rw [gx_w_row _ _ _ (by omega), gx_w_row _ _ _ (by omega), i1 n (by omega), gx_w_row _ _ _ (by omega)]
                exact hfr n hn
          | succ k ihj =>
            intro j υ hjk i1 i2 H locs ls hP hS hl
            refine lv_iload X.1 X.2.1 d_Mo_spread_61 (lv_at hl 0 rfl) ?_
            refine lv_aload_n X.1 X.2.1 d_Mo_spread_63 rfl (lv_at hl 5 rfl) ?_
            refine gg_Mo_32 X hP d_Mo_spread_64 ?_
            refine lv_iload X.1 X.2.1 d_Mo_spread_67 (lv_at hl 4 rfl) ?_
            refine ga_232 (by omega) X hP d_Mo_spread_69 ?_
            rw [i1 232 (by decide), gx_w_row _ _ _ (by decide), z3]
            refine gx_icmp_ge X.1 X.2.1 (tgt := 105) d_Mo_spread_70 (by decide) (by omega) (by omega) (fun h70 => absurd h70 (by omega)) (fun h70 => ?_)
            refine lv_aload_n X.1 X.2.1 d_Mo_spread_73 rfl (lv_at hl 5 rfl) ?_
            refine gg_Mo_38 X hP d_Mo_spread_74 ?_
            refine lv_bipush (v := nI 60) X.1 X.2.1 d_Mo_spread_77 (by decide) ?_
            refine lv_iload X.1 X.2.1 d_Mo_spread_79 (lv_at hl 1 rfl) ?_
            refine gx_imul X.1 X.2.1 d_Mo_spread_81 ?_
            refine lv_iload X.1 X.2.1 d_Mo_spread_82 (lv_at hl 0 rfl) ?_
            refine gx_iadd X.1 X.2.1 d_Mo_spread_84 ?_
            refine lv_aload_n X.1 X.2.1 d_Mo_spread_85 rfl (lv_at hl 5 rfl) ?_
            refine gg_Mo_38 X hP d_Mo_spread_86 ?_
            refine lv_bipush (v := nI 60) X.1 X.2.1 d_Mo_spread_89 (by decide) ?_
            refine lv_iload X.1 X.2.1 d_Mo_spread_91 (lv_at hl 4 rfl) ?_
            refine gx_imul X.1 X.2.1 d_Mo_spread_93 ?_
            refine lv_iload X.1 X.2.1 d_Mo_spread_94 (lv_at hl 0 rfl) ?_
            refine gx_iadd X.1 X.2.1 d_Mo_spread_96 ?_
            refine ga_234 (by omega) X hP d_Mo_spread_97 ?_
            rw [show υ 234 (60 * (3 * g + f) + j) = τ 234 (60 * (3 * g + f) + j) by rw [i2, if_neg (by omega)]]
            refine gs_234 (by omega) X hJ hP hS d_Mo_spread_98 (fun H locs hP hS => ?_)
            refine lv_iinc (k := 0) (v := nI (j + 1)) X.1 X.2.1 d_Mo_spread_99 hl rfl (nI_add _ _) (by decide) rfl (fun ls hl => ?_)
            have hl : lv_has ls 9 [(8, .int (nI (j + 1))), (7, .int (nI (3 * g + i))), (6, .int (nI i)), (5, .int (nI en)), (4, .int (nI (3 * g + f))), (0, .ref (ad 224)), (1, .int (nI g)), (2, .int (nI f)), (3, .int (nI v))] := hl
            refine lv_goto (tgt := 61) X.1 X.2.1 d_Mo_spread_102 (by decide) ?_
            refine ihj (j + 1) _ (by omega) ?_ ?_ H locs ls hP hS (lv_sub hl [0, 1, 2, 3, 4, 5, 6, 7, 8] rfl)
            · intro n n1; rw [gx_w_row _ _ _ n1]; exact i1 n n1
            · intro x
              by_cases q : x = 60 * (3 * g + i) + j
              · rw [q, gx_w_self, if_pos ⟨by omega, by omega⟩, show 60 * (3 * g + i) + j - 60 * (3 * g + i) = j by omega]
              · rw [gx_w_col _ _ _ q, i2 x]
                by_cases y : 60 * (3 * g + i) ≤ x ∧ x < 60 * (3 * g + i) + j
                · rw [if_pos y, if_pos ⟨y.1, by omega⟩]
                · rw [if_neg y, if_neg (by omega)]
        refine lv_aload_n X.1 X.2.1 d_Mo_spread_50 rfl (lv_at hl 4 rfl) ?_
        refine gg_Mo_29 X hP d_Mo_spread_51 ?_
        refine lv_iload X.1 X.2.1 d_Mo_spread_54 (lv_at hl 0 rfl) ?_
        refine lv_iload_n X.1 X.2.1 d_Mo_spread_56 rfl (lv_at hl 7 rfl) ?_
        refine gs_231 (by omega) X hJ hP hS d_Mo_spread_57 (fun H locs hP hS => ?_)
        refine lv_iconst (v := nI 0) X.1 X.2.1 d_Mo_spread_58 (by decide) ?_
        refine lv_istore X.1 X.2.1 d_Mo_spread_59 hl (by decide) rfl (fun ls hl => ?_)
        have hl : lv_has ls 9 [(8, .int (nI 0)), (7, .int (nI ((3 * g) + i))), (6, .int (nI i)), (5, .int (nI en)), (4, .int (nI (3 * g + f))), (0, .ref (ad 224)), (1, .int (nI g)), (2, .int (nI f)), (3, .int (nI v))] := hl
        exact lpi _ 0 _ (Nat.zero_add _) (fun n _ => rfl) (fun x => by rw [if_neg (by omega), gx_w_row _ _ _ (by decide)]) H locs ls hP hS (lv_sub hl [0, 1, 2, 3, 4, 5, 6, 7, 8] rfl)
  refine lv_iconst (v := nI 3) X.1 X.2.1 d_Mo_spread_0 (by decide) ?_
  refine lv_iload_n X.1 X.2.1 d_Mo_spread_1 rfl (lv_at hl 1 rfl) ?_
  refine gx_imul X.1 X.2.1 d_Mo_spread_2 ?_
  refine lv_iload_n X.1 X.2.1 d_Mo_spread_3 rfl (lv_at hl 2 rfl) ?_
  refine gx_iadd X.1 X.2.1 d_Mo_spread_4 ?_
  refine lv_istore X.1 X.2.1 d_Mo_spread_5 hl (by decide) rfl (fun ls hl => ?_)
  have hl : lv_has ls 9 [(4, .int (nI ((3 * g) + f))), (0, .ref (ad 224)), (1, .int (nI g)), (2, .int (nI f)), (3, .int (nI v))] := hl
  refine lv_aload_n X.1 X.2.1 d_Mo_spread_7 rfl (lv_at hl 1 rfl) ?_
  refine lv_iload_n X.1 X.2.1 d_Mo_spread_8 rfl (lv_at hl 2 rfl) ?_
  refine cv_Mo_94 (rest := []) X hJ hP hS (by decide) (ec_Mo_0 _) (K_Mo_living l dC dI cx ad hJ _ g (ab_up a g) hg (fun r hr => (hx.2.2.1 g r hg hr).1)) rfl rfl (by decide) hl.1 (Nat.le_of_ble_eq_true rfl) ⟨Nat.le_refl _, Nat.le_refl _⟩ d_Mo_spread_9 (fun r σ' H locs hq hP hS => ?_)
  obtain ⟨hq0, rfl⟩ := hq
  rw [hq0] at hP
  have hc3 : pu_cnt (ab_up a g) < 2 ^ 31 := by unfold pu_cnt; split <;> split <;> split <;> decide
  refine lv_iconst (v := nI 2) X.1 X.2.1 d_Mo_spread_12 (by decide) ?_
  refine gx_icmp_lt X.1 X.2.1 (tgt := 20) d_Mo_spread_13 (by decide) (by omega) (by omega) (fun h13 => ?_) (fun h13 => ?_)
  · skip
    refine lv_iconst (v := nI 0) X.1 X.2.1 d_Mo_spread_20 (by decide) ?_
    refine lv_istore X.1 X.2.1 d_Mo_spread_21 hl (by decide) rfl (fun ls hl => ?_)
    have hl : lv_has ls 9 [(5, .int (nI 0)), (4, .int (nI ((3 * g) + f))), (0, .ref (ad 224)), (1, .int (nI g)), (2, .int (nI f)), (3, .int (nI v))] := hl
    refine lv_iconst (v := nI 0) X.1 X.2.1 d_Mo_spread_23 (by decide) ?_
    refine lv_istore X.1 X.2.1 d_Mo_spread_24 hl (by decide) rfl (fun ls hl => ?_)
    have hl : lv_has ls 9 [(6, .int (nI 0)), (5, .int (nI 0)), (4, .int (nI ((3 * g) + f))), (0, .ref (ad 224)), (1, .int (nI g)), (2, .int (nI f)), (3, .int (nI v))] := hl
    exact lp 3 0 0 _ rfl (by omega) (mr_sq0 hx g f v) (fun n _ => rfl) _ _ ls hP hS (lv_sub hl [0, 1, 2, 3, 4, 5, 6] rfl)
  · skip
    refine lv_iconst (v := nI 1) X.1 X.2.1 d_Mo_spread_16 (by decide) ?_
    refine lv_goto (tgt := 21) X.1 X.2.1 d_Mo_spread_17 (by decide) ?_
    refine lv_istore X.1 X.2.1 d_Mo_spread_21 hl (by decide) rfl (fun ls hl => ?_)
    have hl : lv_has ls 9 [(5, .int (nI 1)), (4, .int (nI ((3 * g) + f))), (0, .ref (ad 224)), (1, .int (nI g)), (2, .int (nI f)), (3, .int (nI v))] := hl
    refine lv_iconst (v := nI 0) X.1 X.2.1 d_Mo_spread_23 (by decide) ?_
    refine lv_istore X.1 X.2.1 d_Mo_spread_24 hl (by decide) rfl (fun ls hl => ?_)
    have hl : lv_has ls 9 [(6, .int (nI 0)), (5, .int (nI 1)), (4, .int (nI ((3 * g) + f))), (0, .ref (ad 224)), (1, .int (nI g)), (2, .int (nI f)), (3, .int (nI v))] := hl
    exact lp 3 0 1 _ rfl (by omega) (mr_sq0 hx g f v) (fun n _ => rfl) _ _ ls hP hS (lv_sub hl [0, 1, 2, 3, 4, 5, 6] rfl)
