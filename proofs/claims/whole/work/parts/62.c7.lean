/-! contracts: groups -/
theorem K_Rp_catchUp (l : Launch) (dC : Nat → ClassId) (dI : Nat → Nat → Nat) (cx : Nat → ClassId) (ad : Nat → Nat) (hJ : gx_J gx_N ad (gx_A gx_N ad)) (σ : gx_M) (a : ab_S) (gi ri : Nat) (h0 : gi < 4) (h1 : ri < 3) (hx : xr σ a) (hw : ab_W a) : cg_Mv l dC dI cx ad y_Rp_catchUp w_Rp_catchUp 3 [.ref (ad (nRp gi ri))] σ (fun σ' => xr σ' (ab_setdn a gi ri (ab_lg a gi ri).length) ∧ ∀ n, 224 ≤ n → σ' n = σ n) := by
  by_cases q : gi < 3
  · exact K_Rp_catchUp_s l dC dI cx ad hJ σ a gi ri q h1 hx hw
  · have : gi = 3 := by omega
    subst this
    exact K_Rp_catchUp_d l dC dI cx ad hJ σ a ri h1 hx hw (fun t dd => ab_ds_le hw h1 t dd)
set_option maxRecDepth 100000 in
set_option maxHeartbeats 4000000 in
theorem K_Gr_countUp (l : Launch) (dC : Nat → ClassId) (dI : Nat → Nat → Nat) (cx : Nat → ClassId) (ad : Nat → Nat) (hJ : gx_J gx_N ad (gx_A gx_N ad)) (σ : gx_M) (a : ab_S) (gi : Nat) (h0 : gi < 4) (hx : xr σ a) (hw : ab_W a) : cg_Mi l dC dI cx ad y_Gr_countUp w_Gr_countUp 0 [.ref (ad (nGr gi))] σ (fun r σ' => σ' = σ ∧ r = nI (pu_cnt (ab_up a gi))) := by
  refine gx_ofW (cc := c_Gr_countUp) (maxL := 3) (ret := (Option.some Jvm.ClassFile.FieldType.int)) (by decide) rfl (Nat.le_of_ble_eq_true rfl) ?_
  intro p e s m below meth c ls S hr hlk hK hN hl hP
  have X : cg_X c_Gr_countUp "CommitGroups$Group" 3 dC dI cx p m c s _ := ⟨S.1, S.2.1, S.2.2.2.1, fun w h => S.2.2.2.2 w (List.mem_cons_of_mem _ h), hK, hN, S.2.2.1⟩
  have hS : va_S (gx_A gx_N ad) s.heap s.heap [] := va_S.rf
  have hl : lv_has ls 3 [(0, .ref (ad (nGr gi)))] := hl
  have lp : ∀ (k : Nat) (i v : Nat), i + k = 3 → v = cuf (ab_up a gi) i → ∀ (H : Heap) (locs : List Loc) (ls : Array Slot), cg_P dC dI cx ad σ H → va_S (gx_A gx_N ad) s.heap H locs → lv_has ls 3 [(2, .int (nI i)), (1, .int (nI v)), (0, .ref (ad (nGr gi)))] → W p l e (rmL 0) s m ([.ref (ad (nGr gi))] : List Value).toArray below meth c H locs 0 0 (cg_Qi dC dI cx ad (fun r σ' => σ' = σ ∧ r = nI (pu_cnt (ab_up a gi))) below [.ref (ad (nGr gi))] s) (F0 m 4 ls []) := by
    intro k
    induction k with
    | zero =>
      intro i v hik hv H locs ls hP hS hl
      refine lv_iload_n X.1 X.2.1 d_Gr_countUp_4 rfl (lv_at hl 0 rfl) ?_
      refine lv_iconst (v := nI 3) X.1 X.2.1 d_Gr_countUp_5 (by decide) ?_
      refine gx_icmp_ge X.1 X.2.1 (tgt := 30) d_Gr_countUp_6 (by decide) (by omega) (by omega) (fun h6 => ?_) (fun h6 => absurd h6 (by omega))
      refine lv_iload_n X.1 X.2.1 d_Gr_countUp_30 rfl (lv_at hl 1 rfl) ?_
      refine gx_iret X.1 X.2.1 hr hlk hP hS d_Gr_countUp_31 ?_
      obtain rfl : i = 3 := by omega
      refine ⟨rfl, ?_⟩
      rw [hv, ← cuf_cnt]
    | succ k ih =>
      intro i v hik hv H locs ls hP hS hl
      refine lv_iload_n X.1 X.2.1 d_Gr_countUp_4 rfl (lv_at hl 0 rfl) ?_
      refine lv_iconst (v := nI 3) X.1 X.2.1 d_Gr_countUp_5 (by decide) ?_
      refine gx_icmp_ge X.1 X.2.1 (tgt := 30) d_Gr_countUp_6 (by decide) (by omega) (by omega) (fun h6 => absurd h6 (by omega)) (fun h6 => ?_)
      have hrp := hx.2.2.1 gi i h0 (by omega)
      have hxb := xb_le (ab_up a gi i)
      have hvi := (hw.2.2 gi i h0 (by omega)).2.1
      refine lv_aload_n X.1 X.2.1 d_Gr_countUp_9 rfl (lv_at hl 2 rfl) ?_
      refine gg_Gr_9 (by omega) X hP d_Gr_countUp_10 ?_
      refine lv_iload_n X.1 X.2.1 d_Gr_countUp_13 rfl (lv_at hl 0 rfl) ?_
      refine gr_nRs (by omega) (by omega) X hP d_Gr_countUp_14 ?_
      refine gg_Gr_15 (by omega) (by omega) X hP d_Gr_countUp_15 ?_
      rw [hrp.1]
      refine gx_if_eq X.1 X.2.1 (tgt := 24) d_Gr_countUp_18 (by decide) (by omega) (fun h18 => ?_) (fun h18 => ?_)
      · skip
        refine lv_iinc (k := 0) (v := nI (i + 1)) X.1 X.2.1 d_Gr_countUp_24 hl rfl (nI_add _ _) (by decide) rfl (fun ls hl => ?_)
        have hl : lv_has ls 3 [(2, .int (nI (i + 1))), (1, .int (nI v)), (0, .ref (ad (nGr gi)))] := hl
        refine lv_goto (tgt := 4) X.1 X.2.1 d_Gr_countUp_27 (by decide) ?_
        refine ih (i + 1) _ (by omega) ?_ H locs ls hP hS (lv_sub hl [0, 1, 2] rfl)
        show v = if ab_up a gi i = true then _ else _
        rw [if_neg (by rw [xb_zero.mp h18]; decide)]; exact hv
      · skip
        refine lv_iinc (k := 1) (v := nI (v + 1)) X.1 X.2.1 d_Gr_countUp_21 hl rfl (nI_add _ _) (by decide) rfl (fun ls hl => ?_)
        have hl : lv_has ls 3 [(1, .int (nI (v + 1))), (2, .int (nI i)), (0, .ref (ad (nGr gi)))] := hl
        refine lv_iinc (k := 1) (v := nI (i + 1)) X.1 X.2.1 d_Gr_countUp_24 hl rfl (nI_add _ _) (by decide) rfl (fun ls hl => ?_)
        have hl : lv_has ls 3 [(2, .int (nI (i + 1))), (1, .int (nI (v + 1))), (0, .ref (ad (nGr gi)))] := hl
        refine lv_goto (tgt := 4) X.1 X.2.1 d_Gr_countUp_27 (by decide) ?_
        refine ih (i + 1) _ (by omega) ?_ H locs ls hP hS (lv_sub hl [0, 1, 2] rfl)
        show v + 1 = if ab_up a gi i = true then _ else _
        rw [if_pos (xb_one.mp (by omega)), hv]
  refine lv_iconst (v := nI 0) X.1 X.2.1 d_Gr_countUp_0 (by decide) ?_
  refine lv_istore_n X.1 X.2.1 d_Gr_countUp_1 rfl hl (by decide) rfl (fun ls hl => ?_)
  have hl : lv_has ls 3 [(1, .int (nI 0)), (0, .ref (ad (nGr gi)))] := hl
  refine lv_iconst (v := nI 0) X.1 X.2.1 d_Gr_countUp_2 (by decide) ?_
  refine lv_istore_n X.1 X.2.1 d_Gr_countUp_3 rfl hl (by decide) rfl (fun ls hl => ?_)
  have hl : lv_has ls 3 [(2, .int (nI 0)), (1, .int (nI 0)), (0, .ref (ad (nGr gi)))] := hl
  exact lp 3 0 0 rfl rfl _ _ ls hP hS (lv_sub hl [0, 1, 2] rfl)
set_option maxRecDepth 100000 in
set_option maxHeartbeats 4000000 in
theorem K_Gr_greatestView (l : Launch) (dC : Nat → ClassId) (dI : Nat → Nat → Nat) (cx : Nat → ClassId) (ad : Nat → Nat) (hJ : gx_J gx_N ad (gx_A gx_N ad)) (σ : gx_M) (a : ab_S) (gi : Nat) (h0 : gi < 4) (hx : xr σ a) (hw : ab_W a) : cg_Mi l dC dI cx ad y_Gr_greatestView w_Gr_greatestView 1 [.ref (ad (nGr gi))] σ (fun r σ' => σ' = σ ∧ r = nI (ab_top a gi)) := by
  refine gx_ofW (cc := c_Gr_greatestView) (maxL := 3) (ret := (Option.some Jvm.ClassFile.FieldType.int)) (by decide) rfl (Nat.le_of_ble_eq_true rfl) ?_
  intro p e s m below meth c ls S hr hlk hK hN hl hP
  have X : cg_X c_Gr_greatestView "CommitGroups$Group" 3 dC dI cx p m c s _ := ⟨S.1, S.2.1, S.2.2.2.1, fun w h => S.2.2.2.2 w (List.mem_cons_of_mem _ h), hK, hN, S.2.2.1⟩
  have hS : va_S (gx_A gx_N ad) s.heap s.heap [] := va_S.rf
  have hl : lv_has ls 3 [(0, .ref (ad (nGr gi)))] := hl
  have lp : ∀ (k : Nat) (i v : Nat), i + k = 3 → v = gvf (ab_up a gi) (ab_vi a gi) i → ∀ (H : Heap) (locs : List Loc) (ls : Array Slot), cg_P dC dI cx ad σ H → va_S (gx_A gx_N ad) s.heap H locs → lv_has ls 3 [(2, .int (nI i)), (1, .int (nI v)), (0, .ref (ad (nGr gi)))] → W p l e (rmL 1) s m ([.ref (ad (nGr gi))] : List Value).toArray below meth c H locs 0 0 (cg_Qi dC dI cx ad (fun r σ' => σ' = σ ∧ r = nI (ab_top a gi)) below [.ref (ad (nGr gi))] s) (F0 m 4 ls []) := by
    intro k
    induction k with
    | zero =>
      intro i v hik hv H locs ls hP hS hl
      refine lv_iload_n X.1 X.2.1 d_Gr_greatestView_4 rfl (lv_at hl 0 rfl) ?_
      refine lv_iconst (v := nI 3) X.1 X.2.1 d_Gr_greatestView_5 (by decide) ?_
      refine gx_icmp_ge X.1 X.2.1 (tgt := 41) d_Gr_greatestView_6 (by decide) (by omega) (by omega) (fun h6 => ?_) (fun h6 => absurd h6 (by omega))
      refine lv_iload_n X.1 X.2.1 d_Gr_greatestView_41 rfl (lv_at hl 1 rfl) ?_
      refine gx_iret X.1 X.2.1 hr hlk hP hS d_Gr_greatestView_42 ?_
      obtain rfl : i = 3 := by omega
      refine ⟨rfl, ?_⟩
      unfold ab_top
      rw [hv, ← gvf_top]
    | succ k ih =>
      intro i v hik hv H locs ls hP hS hl
      refine lv_iload_n X.1 X.2.1 d_Gr_greatestView_4 rfl (lv_at hl 0 rfl) ?_
      refine lv_iconst (v := nI 3) X.1 X.2.1 d_Gr_greatestView_5 (by decide) ?_
      refine gx_icmp_ge X.1 X.2.1 (tgt := 41) d_Gr_greatestView_6 (by decide) (by omega) (by omega) (fun h6 => absurd h6 (by omega)) (fun h6 => ?_)
      have hrp := hx.2.2.1 gi i h0 (by omega)
      have hxb := xb_le (ab_up a gi i)
      have hvi := (hw.2.2 gi i h0 (by omega)).2.1
      have hvb : v < 2 ^ 30 := by rw [hv]; exact gvf_lt (by decide) (fun r hr => (hw.2.2 gi r h0 hr).2.1) i (by omega)
      refine lv_aload_n X.1 X.2.1 d_Gr_greatestView_9 rfl (lv_at hl 2 rfl) ?_
      refine gg_Gr_9 (by omega) X hP d_Gr_greatestView_10 ?_
      refine lv_iload_n X.1 X.2.1 d_Gr_greatestView_13 rfl (lv_at hl 0 rfl) ?_
      refine gr_nRs (by omega) (by omega) X hP d_Gr_greatestView_14 ?_
      refine gg_Gr_15 (by omega) (by omega) X hP d_Gr_greatestView_15 ?_
      rw [hrp.1]
      refine gx_if_eq X.1 X.2.1 (tgt := 35) d_Gr_greatestView_18 (by decide) (by omega) (fun h18 => ?_) (fun h18 => ?_)
      · skip
        refine lv_iinc (k := 0) (v := nI (i + 1)) X.1 X.2.1 d_Gr_greatestView_35 hl rfl (nI_add _ _) (by decide) rfl (fun ls hl => ?_)
        have hl : lv_has ls 3 [(2, .int (nI (i + 1))), (1, .int (nI v)), (0, .ref (ad (nGr gi)))] := hl
        refine lv_goto (tgt := 4) X.1 X.2.1 d_Gr_greatestView_38 (by decide) ?_
        refine ih (i + 1) _ (by omega) ?_ H locs ls hP hS (lv_sub hl [0, 1, 2] rfl)
        show v = if ab_up a gi i = true then _ else _
        rw [if_neg (by rw [xb_zero.mp h18]; decide)]; exact hv
      · skip
        refine lv_iload_n X.1 X.2.1 d_Gr_greatestView_21 rfl (lv_at hl 1 rfl) ?_
        refine lv_aload_n X.1 X.2.1 d_Gr_greatestView_22 rfl (lv_at hl 2 rfl) ?_
        refine gg_Gr_9 (by omega) X hP d_Gr_greatestView_23 ?_
        refine lv_iload_n X.1 X.2.1 d_Gr_greatestView_26 rfl (lv_at hl 0 rfl) ?_
        refine gr_nRs (by omega) (by omega) X hP d_Gr_greatestView_27 ?_
        refine gg_Gr_45 (by omega) (by omega) X hP d_Gr_greatestView_28 ?_
        rw [hrp.2.1]
        refine cv_Gr_58 (rest := []) X hJ hP hS (K_Ma_max l dC dI cx ad hJ _ v (ab_vi a gi i) (by omega) (by omega)) rfl rfl (by decide) hl.1 (Nat.le_of_ble_eq_true rfl) ⟨Nat.le_refl _, Nat.le_refl _⟩ d_Gr_greatestView_31 (fun r σ' H locs hq hP hS => ?_)
        obtain ⟨hq0, rfl⟩ := hq
        rw [hq0] at hP
        refine lv_istore_n X.1 X.2.1 d_Gr_greatestView_34 rfl hl (by decide) rfl (fun ls hl => ?_)
        have hl : lv_has ls 3 [(1, .int (nI (max v (ab_vi a gi i)))), (2, .int (nI i)), (0, .ref (ad (nGr gi)))] := hl
        refine lv_iinc (k := 1) (v := nI (i + 1)) X.1 X.2.1 d_Gr_greatestView_35 hl rfl (nI_add _ _) (by decide) rfl (fun ls hl => ?_)
        have hl : lv_has ls 3 [(2, .int (nI (i + 1))), (1, .int (nI (max v (ab_vi a gi i)))), (0, .ref (ad (nGr gi)))] := hl
        refine lv_goto (tgt := 4) X.1 X.2.1 d_Gr_greatestView_38 (by decide) ?_
        refine ih (i + 1) _ (by omega) ?_ H locs ls hP hS (lv_sub hl [0, 1, 2] rfl)
        show max v (ab_vi a gi i) = if ab_up a gi i = true then _ else _
        rw [if_pos (xb_one.mp (by omega)), hv]
  refine lv_iconst (v := nI 0) X.1 X.2.1 d_Gr_greatestView_0 (by decide) ?_
  refine lv_istore_n X.1 X.2.1 d_Gr_greatestView_1 rfl hl (by decide) rfl (fun ls hl => ?_)
  have hl : lv_has ls 3 [(1, .int (nI 0)), (0, .ref (ad (nGr gi)))] := hl
  refine lv_iconst (v := nI 0) X.1 X.2.1 d_Gr_greatestView_2 (by decide) ?_
  refine lv_istore_n X.1 X.2.1 d_Gr_greatestView_3 rfl hl (by decide) rfl (fun ls hl => ?_)
  have hl : lv_has ls 3 [(2, .int (nI 0)), (1, .int (nI 0)), (0, .ref (ad (nGr gi)))] := hl
  exact lp 3 0 0 rfl rfl _ _ ls hP hS (lv_sub hl [0, 1, 2] rfl)
set_option maxRecDepth 100000 in
set_option maxHeartbeats 4000000 in
theorem K_Gr_findLeader (l : Launch) (dC : Nat → ClassId) (dI : Nat → Nat → Nat) (cx : Nat → ClassId) (ad : Nat → Nat) (hJ : gx_J gx_N ad (gx_A gx_N ad)) (σ : gx_M) (a : ab_S) (gi : Nat) (h0 : gi < 4) (hx : xr σ a) (hw : ab_W a) : cg_Mi l dC dI cx ad y_Gr_findLeader w_Gr_findLeader 2 [.ref (ad (nGr gi))] σ (fun r σ' => σ' = σ ∧ ((ab_ld a gi = 3 ∧ r = -1) ∨ (ab_ld a gi < 3 ∧ ab_ld a gi = ab_top a gi % 3 ∧ ab_up a gi (ab_ld a gi) = true ∧ r = nI (ab_ld a gi)))) := by
  refine gx_ofW (cc := c_Gr_findLeader) (maxL := 2) (ret := (Option.some Jvm.ClassFile.FieldType.int)) (by decide) rfl (Nat.le_of_ble_eq_true rfl) ?_
  intro p e s m below meth c ls S hr hlk hK hN hl hP
  have X : cg_X c_Gr_findLeader "CommitGroups$Group" 2 dC dI cx p m c s _ := ⟨S.1, S.2.1, S.2.2.2.1, fun w h => S.2.2.2.2 w (List.mem_cons_of_mem _ h), hK, hN, S.2.2.1⟩
  have hS : va_S (gx_A gx_N ad) s.heap s.heap [] := va_S.rf
  have hl : lv_has ls 2 [(0, .ref (ad (nGr gi)))] := hl
  have htop : ab_top a gi < 2 ^ 30 := by unfold ab_top; rw [← gvf_top]; exact gvf_lt (by decide) (fun r hr => (hw.2.2 gi r h0 hr).2.1) 3 (Nat.le_refl 3)
  have hrp := hx.2.2.1 gi (ab_top a gi % 3) h0 (Nat.mod_lt _ (by decide))
  have hxb := xb_le (ab_up a gi (ab_top a gi % 3))
  refine lv_aload_n X.1 X.2.1 d_Gr_findLeader_0 rfl (lv_at hl 0 rfl) ?_
  refine cv_Gr_21 (rest := []) X hJ hP hS (nGr_lt (by omega)) (ec_nGr (by omega) _) (K_Gr_greatestView l dC dI cx ad hJ σ a gi h0 hx hw) rfl rfl (by decide) hl.1 (Nat.le_of_ble_eq_true rfl) ⟨Nat.le_refl _, Nat.le_refl _⟩ d_Gr_findLeader_1 (fun r σ' H locs hq hP hS => ?_)
  obtain ⟨hq0, rfl⟩ := hq
  rw [hq0] at hP
  refine lv_iconst (v := nI 3) X.1 X.2.1 d_Gr_findLeader_4 (by decide) ?_
  refine cv_Gr_25 (rest := []) X hJ hP hS (K_Ma_floorMod l dC dI cx ad hJ _ (ab_top a gi) (by omega)) rfl rfl (by decide) hl.1 (Nat.le_of_ble_eq_true rfl) ⟨Nat.le_refl _, Nat.le_refl _⟩ d_Gr_findLeader_5 (fun r σ' H locs hq hP hS => ?_)
  obtain ⟨hq0, rfl⟩ := hq
  rw [hq0] at hP
  refine lv_istore_n X.1 X.2.1 d_Gr_findLeader_8 rfl hl (by decide) rfl (fun ls hl => ?_)
  have hl : lv_has ls 2 [(1, .int (nI (ab_top a gi % 3))), (0, .ref (ad (nGr gi)))] := hl
  refine lv_aload_n X.1 X.2.1 d_Gr_findLeader_9 rfl (lv_at hl 1 rfl) ?_
  refine gg_Gr_9 (by omega) X hP d_Gr_findLeader_10 ?_
  refine lv_iload_n X.1 X.2.1 d_Gr_findLeader_13 rfl (lv_at hl 0 rfl) ?_
  refine gr_nRs (by omega) (by omega) X hP d_Gr_findLeader_14 ?_
  refine gg_Gr_15 (by omega) (by omega) X hP d_Gr_findLeader_15 ?_
  rw [hrp.1]
  refine gx_if_eq X.1 X.2.1 (tgt := 25) d_Gr_findLeader_18 (by decide) (by omega) (fun h18 => ?_) (fun h18 => ?_)
  · skip
    refine lv_iconst (v := -1) X.1 X.2.1 d_Gr_findLeader_25 (by decide) ?_
    refine gx_iret X.1 X.2.1 hr hlk hP hS d_Gr_findLeader_26 ?_
    refine ⟨rfl, Or.inl ⟨?_, rfl⟩⟩
    unfold ab_ld
    rw [if_neg (by rw [xb_zero.mp h18]; decide)]
  · skip
    refine lv_iload_n X.1 X.2.1 d_Gr_findLeader_21 rfl (lv_at hl 0 rfl) ?_
    refine lv_goto (tgt := 26) X.1 X.2.1 d_Gr_findLeader_22 (by decide) ?_
    refine gx_iret X.1 X.2.1 hr hlk hP hS d_Gr_findLeader_26 ?_
    have hu := xb_one.mp (show xb (ab_up a gi (ab_top a gi % 3)) = 1 by omega)
    have e : ab_ld a gi = ab_top a gi % 3 := by unfold ab_ld; rw [if_pos hu]
    rw [e]
    exact ⟨rfl, Or.inr ⟨Nat.mod_lt _ (by decide), rfl, hu, rfl⟩⟩
set_option maxRecDepth 100000 in
set_option maxHeartbeats 4000000 in
theorem K_Gr_nextView (l : Launch) (dC : Nat → ClassId) (dI : Nat → Nat → Nat) (cx : Nat → ClassId) (ad : Nat → Nat) (hJ : gx_J gx_N ad (gx_A gx_N ad)) (σ : gx_M) (a : ab_S) (gi : Nat) (h0 : gi < 4) (hx : xr σ a) (hw : ab_W a) : cg_Mi l dC dI cx ad y_Gr_nextView w_Gr_nextView 2 [.ref (ad (nGr gi))] σ (fun r σ' => σ' = σ ∧ r = nI (ab_next a gi)) := by
  refine gx_ofW (cc := c_Gr_nextView) (maxL := 3) (ret := (Option.some Jvm.ClassFile.FieldType.int)) (by decide) rfl (Nat.le_of_ble_eq_true rfl) ?_
  intro p e s m below meth c ls S hr hlk hK hN hl hP
  have X : cg_X c_Gr_nextView "CommitGroups$Group" 3 dC dI cx p m c s _ := ⟨S.1, S.2.1, S.2.2.2.1, fun w h => S.2.2.2.2 w (List.mem_cons_of_mem _ h), hK, hN, S.2.2.1⟩
  have hS : va_S (gx_A gx_N ad) s.heap s.heap [] := va_S.rf
  have hl : lv_has ls 3 [(0, .ref (ad (nGr gi)))] := hl
  have htop : ab_top a gi < 2 ^ 30 := by unfold ab_top; rw [← gvf_top]; exact gvf_lt (by decide) (fun r hr => (hw.2.2 gi r h0 hr).2.1) 3 (Nat.le_refl 3)
  refine lv_aload_n X.1 X.2.1 d_Gr_nextView_0 rfl (lv_at hl 0 rfl) ?_
  refine cv_Gr_21 (rest := []) X hJ hP hS (nGr_lt (by omega)) (ec_nGr (by omega) _) (K_Gr_greatestView l dC dI cx ad hJ σ a gi h0 hx hw) rfl rfl (by decide) hl.1 (Nat.le_of_ble_eq_true rfl) ⟨Nat.le_refl _, Nat.le_refl _⟩ d_Gr_nextView_1 (fun r σ' H locs hq hP hS => ?_)
  obtain ⟨hq0, rfl⟩ := hq
  rw [hq0] at hP
  refine lv_iconst (v := nI 1) X.1 X.2.1 d_Gr_nextView_4 (by decide) ?_
  refine gx_iadd X.1 X.2.1 d_Gr_nextView_5 ?_
  refine lv_istore_n X.1 X.2.1 d_Gr_nextView_6 rfl hl (by decide) rfl (fun ls hl => ?_)
  have hl : lv_has ls 3 [(1, .int (nI ((ab_top a gi) + 1))), (0, .ref (ad (nGr gi)))] := hl
  refine lv_iconst (v := nI 1) X.1 X.2.1 d_Gr_nextView_7 (by decide) ?_
  refine lv_istore_n X.1 X.2.1 d_Gr_nextView_8 rfl hl (by decide) rfl (fun ls hl => ?_)
  have hl : lv_has ls 3 [(2, .int (nI 1)), (1, .int (nI ((ab_top a gi) + 1))), (0, .ref (ad (nGr gi)))] := hl
  refine lv_iload_n X.1 X.2.1 d_Gr_nextView_9 rfl (lv_at hl 0 rfl) ?_
  refine lv_iconst (v := nI 3) X.1 X.2.1 d_Gr_nextView_10 (by decide) ?_
  refine gx_icmp_ge X.1 X.2.1 (tgt := 39) d_Gr_nextView_11 (by decide) (by omega) (by omega) (fun h11 => absurd h11 (by decide)) (fun h11 => ?_)
  refine lv_aload_n X.1 X.2.1 d_Gr_nextView_14 rfl (lv_at hl 2 rfl) ?_
  refine gg_Gr_9 (by omega) X hP d_Gr_nextView_15 ?_
  refine lv_iload_n X.1 X.2.1 d_Gr_nextView_18 rfl (lv_at hl 1 rfl) ?_
  refine lv_iconst (v := nI 3) X.1 X.2.1 d_Gr_nextView_19 (by decide) ?_
  refine cv_Gr_25 (rest := [.ref (ad (nRs gi))]) X hJ hP hS (K_Ma_floorMod l dC dI cx ad hJ _ ((ab_top a gi) + 1) (by omega)) rfl rfl (by decide) hl.1 (Nat.le_of_ble_eq_true rfl) ⟨Nat.le_refl _, Nat.le_refl _⟩ d_Gr_nextView_20 (fun r σ' H locs hq hP hS => ?_)
  obtain ⟨hq0, rfl⟩ := hq
  rw [hq0] at hP
  refine gr_nRs (by omega) (by omega) X hP d_Gr_nextView_23 ?_
  refine gg_Gr_15 (by omega) (by omega) X hP d_Gr_nextView_24 ?_
  have hrp := hx.2.2.1 gi (((ab_top a gi) + 1) % 3) h0 (Nat.mod_lt _ (by decide))
  have hxb := xb_le (ab_up a gi (((ab_top a gi) + 1) % 3))
  rw [hrp.1]
  refine gx_if_ne X.1 X.2.1 (tgt := 39) d_Gr_nextView_27 (by decide) (by omega) (fun h27_0 => ?_) (fun h27_0 => ?_)
  · skip
    refine lv_iload_n X.1 X.2.1 d_Gr_nextView_39 rfl (lv_at hl 1 rfl) ?_
    refine gx_iret X.1 X.2.1 hr hlk hP hS d_Gr_nextView_40 ?_
    refine ⟨rfl, ?_⟩
    unfold ab_next
    rw [if_pos (xb_one.mp (by omega))]
  · skip
    refine lv_iinc (k := 1) (v := nI ((ab_top a gi) + 1 + 1)) X.1 X.2.1 d_Gr_nextView_30 hl rfl (nI_add _ _) (by decide) rfl (fun ls hl => ?_)
    have hl : lv_has ls 3 [(1, .int (nI ((ab_top a gi) + 1 + 1))), (2, .int (nI 1)), (0, .ref (ad (nGr gi)))] := hl
    refine lv_iinc (k := 1) (v := nI (2)) X.1 X.2.1 d_Gr_nextView_33 hl rfl (by decide) (by decide) rfl (fun ls hl => ?_)
    have hl : lv_has ls 3 [(2, .int (nI 2)), (1, .int (nI ((ab_top a gi) + 1 + 1))), (0, .ref (ad (nGr gi)))] := hl
    refine lv_goto (tgt := 9) X.1 X.2.1 d_Gr_nextView_36 (by decide) ?_
    refine lv_iload_n X.1 X.2.1 d_Gr_nextView_9 rfl (lv_at hl 0 rfl) ?_
    refine lv_iconst (v := nI 3) X.1 X.2.1 d_Gr_nextView_10 (by decide) ?_
    refine gx_icmp_ge X.1 X.2.1 (tgt := 39) d_Gr_nextView_11 (by decide) (by omega) (by omega) (fun h11 => absurd h11 (by decide)) (fun h11 => ?_)
    refine lv_aload_n X.1 X.2.1 d_Gr_nextView_14 rfl (lv_at hl 2 rfl) ?_
    refine gg_Gr_9 (by omega) X hP d_Gr_nextView_15 ?_
    refine lv_iload_n X.1 X.2.1 d_Gr_nextView_18 rfl (lv_at hl 1 rfl) ?_
    refine lv_iconst (v := nI 3) X.1 X.2.1 d_Gr_nextView_19 (by decide) ?_
    refine cv_Gr_25 (rest := [.ref (ad (nRs gi))]) X hJ hP hS (K_Ma_floorMod l dC dI cx ad hJ _ ((ab_top a gi) + 1 + 1) (by omega)) rfl rfl (by decide) hl.1 (Nat.le_of_ble_eq_true rfl) ⟨Nat.le_refl _, Nat.le_refl _⟩ d_Gr_nextView_20 (fun r σ' H locs hq hP hS => ?_)
    obtain ⟨hq0, rfl⟩ := hq
    rw [hq0] at hP
    refine gr_nRs (by omega) (by omega) X hP d_Gr_nextView_23 ?_
    refine gg_Gr_15 (by omega) (by omega) X hP d_Gr_nextView_24 ?_
    have hrp := hx.2.2.1 gi (((ab_top a gi) + 1 + 1) % 3) h0 (Nat.mod_lt _ (by decide))
    have hxb := xb_le (ab_up a gi (((ab_top a gi) + 1 + 1) % 3))
    rw [hrp.1]
    refine gx_if_ne X.1 X.2.1 (tgt := 39) d_Gr_nextView_27 (by decide) (by omega) (fun h27_1 => ?_) (fun h27_1 => ?_)
    · skip
      refine lv_iload_n X.1 X.2.1 d_Gr_nextView_39 rfl (lv_at hl 1 rfl) ?_
      refine gx_iret X.1 X.2.1 hr hlk hP hS d_Gr_nextView_40 ?_
      refine ⟨rfl, ?_⟩
      unfold ab_next
      rw [if_neg (by rw [xb_zero.mp h27_0]; decide), if_pos (xb_one.mp (show xb (ab_up a gi ((ab_top a gi + 1 + 1) % 3)) = 1 by omega))]
    · skip
      refine lv_iinc (k := 1) (v := nI ((ab_top a gi) + 1 + 1 + 1)) X.1 X.2.1 d_Gr_nextView_30 hl rfl (nI_add _ _) (by decide) rfl (fun ls hl => ?_)
      have hl : lv_has ls 3 [(1, .int (nI ((ab_top a gi) + 1 + 1 + 1))), (2, .int (nI 2)), (0, .ref (ad (nGr gi)))] := hl
      refine lv_iinc (k := 1) (v := nI (3)) X.1 X.2.1 d_Gr_nextView_33 hl rfl (by decide) (by decide) rfl (fun ls hl => ?_)
      have hl : lv_has ls 3 [(2, .int (nI 3)), (1, .int (nI ((ab_top a gi) + 1 + 1 + 1))), (0, .ref (ad (nGr gi)))] := hl
      refine lv_goto (tgt := 9) X.1 X.2.1 d_Gr_nextView_36 (by decide) ?_
      refine lv_iload_n X.1 X.2.1 d_Gr_nextView_9 rfl (lv_at hl 0 rfl) ?_
      refine lv_iconst (v := nI 3) X.1 X.2.1 d_Gr_nextView_10 (by decide) ?_
      refine gx_icmp_ge X.1 X.2.1 (tgt := 39) d_Gr_nextView_11 (by decide) (by omega) (by omega) (fun h11 => ?_) (fun h11 => absurd h11 (by decide))
      refine lv_iload_n X.1 X.2.1 d_Gr_nextView_39 rfl (lv_at hl 1 rfl) ?_
      refine gx_iret X.1 X.2.1 hr hlk hP hS d_Gr_nextView_40 ?_
      refine ⟨rfl, ?_⟩
      unfold ab_next
      rw [if_neg (by rw [xb_zero.mp h27_0]; decide), if_neg (by rw [xb_zero.mp h27_1]; decide)]
set_option maxRecDepth 100000 in
set_option maxHeartbeats 4000000 in
theorem K_Gr_bestLog (l : Launch) (dC : Nat → ClassId) (dI : Nat → Nat → Nat) (cx : Nat → ClassId) (ad : Nat → Nat) (hJ : gx_J gx_N ad (gx_A gx_N ad)) (σ : gx_M) (a : ab_S) (gi : Nat) (h0 : gi < 4) (hx : xr σ a) (hw : ab_W a) : cg_Mi l dC dI cx ad y_Gr_bestLog w_Gr_bestLog 2 [.ref (ad (nGr gi))] σ (fun r σ' => σ' = σ ∧ r = nI (ab_best a gi)) := by
  refine gx_ofW (cc := c_Gr_bestLog) (maxL := 5) (ret := (Option.some Jvm.ClassFile.FieldType.int)) (by decide) rfl (Nat.le_of_ble_eq_true rfl) ?_
  intro p e s m below meth c ls S hr hlk hK hN hl hP
  have X : cg_X c_Gr_bestLog "CommitGroups$Group" 5 dC dI cx p m c s _ := ⟨S.1, S.2.1, S.2.2.2.1, fun w h => S.2.2.2.2 w (List.mem_cons_of_mem _ h), hK, hN, S.2.2.1⟩
  have hS : va_S (gx_A gx_N ad) s.heap s.heap [] := va_S.rf
  have hl : lv_has ls 5 [(0, .ref (ad (nGr gi)))] := hl
  have htop : ab_top a gi < 2 ^ 30 := by unfold ab_top; rw [← gvf_top]; exact gvf_lt (by decide) (fun r hr => (hw.2.2 gi r h0 hr).2.1) 3 (Nat.le_refl 3)
  have hrp0 := hx.2.2.1 gi 0 h0 (by decide)
  have hxb0 := xb_le (ab_up a gi 0)
  have hwv0 := (hw.2.2 gi 0 h0 (by decide)).2.1
  have hwl0 := (hw.2.2 gi 0 h0 (by decide)).1
  have hrp1 := hx.2.2.1 gi 1 h0 (by decide)
  have hxb1 := xb_le (ab_up a gi 1)
  have hwv1 := (hw.2.2 gi 1 h0 (by decide)).2.1
  have hwl1 := (hw.2.2 gi 1 h0 (by decide)).1
  have hrp2 := hx.2.2.1 gi 2 h0 (by decide)
  have hxb2 := xb_le (ab_up a gi 2)
  have hwv2 := (hw.2.2 gi 2 h0 (by decide)).2.1
  have hwl2 := (hw.2.2 gi 2 h0 (by decide)).1
  refine lv_aload_n X.1 X.2.1 d_Gr_bestLog_0 rfl (lv_at hl 0 rfl) ?_
  refine cv_Gr_21 (rest := []) X hJ hP hS (nGr_lt (by omega)) (ec_nGr (by omega) _) (K_Gr_greatestView l dC dI cx ad hJ σ a gi h0 hx hw) rfl rfl (by decide) hl.1 (Nat.le_of_ble_eq_true rfl) ⟨Nat.le_refl _, Nat.le_refl _⟩ d_Gr_bestLog_1 (fun r σ' H locs hq hP hS => ?_)
  obtain ⟨hq0, rfl⟩ := hq
  rw [hq0] at hP
  refine lv_istore_n X.1 X.2.1 d_Gr_bestLog_4 rfl hl (by decide) rfl (fun ls hl => ?_)
  have hl : lv_has ls 5 [(1, .int (nI (ab_top a gi))), (0, .ref (ad (nGr gi)))] := hl
  refine lv_iconst (v := nI 0) X.1 X.2.1 d_Gr_bestLog_5 (by decide) ?_
  refine lv_istore_n X.1 X.2.1 d_Gr_bestLog_6 rfl hl (by decide) rfl (fun ls hl => ?_)
  have hl : lv_has ls 5 [(2, .int (nI 0)), (1, .int (nI (ab_top a gi))), (0, .ref (ad (nGr gi)))] := hl
  refine lv_iconst (v := -1) X.1 X.2.1 d_Gr_bestLog_7 (by decide) ?_
  refine lv_istore_n X.1 X.2.1 d_Gr_bestLog_8 rfl hl (by decide) rfl (fun ls hl => ?_)
  have hl : lv_has ls 5 [(3, .int (-1)), (2, .int (nI 0)), (1, .int (nI (ab_top a gi))), (0, .ref (ad (nGr gi)))] := hl
  refine lv_iconst (v := nI 0) X.1 X.2.1 d_Gr_bestLog_9 (by decide) ?_
  refine lv_istore X.1 X.2.1 d_Gr_bestLog_10 hl (by decide) rfl (fun ls hl => ?_)
  have hl : lv_has ls 5 [(4, .int (nI 0)), (3, .int (-1)), (2, .int (nI 0)), (1, .int (nI (ab_top a gi))), (0, .ref (ad (nGr gi)))] := hl
  refine lv_iload X.1 X.2.1 d_Gr_bestLog_12 (lv_at hl 0 rfl) ?_
  refine lv_iconst (v := nI 3) X.1 X.2.1 d_Gr_bestLog_14 (by decide) ?_
  refine gx_icmp_ge X.1 X.2.1 (tgt := 79) d_Gr_bestLog_15 (by decide) (by omega) (by omega) (fun h15 => absurd h15 (by decide)) (fun h15 => ?_)
  refine lv_aload_n X.1 X.2.1 d_Gr_bestLog_18 rfl (lv_at hl 4 rfl) ?_
  refine gg_Gr_9 (by omega) X hP d_Gr_bestLog_19 ?_
  refine lv_iload X.1 X.2.1 d_Gr_bestLog_22 (lv_at hl 0 rfl) ?_
  refine gr_nRs (by omega) (by omega) X hP d_Gr_bestLog_24 ?_
  refine gg_Gr_15 (by omega) (by omega) X hP d_Gr_bestLog_25 ?_
  rw [hrp0.1]
  refine gx_if_eq X.1 X.2.1 (tgt := 73) d_Gr_bestLog_28 (by decide) (by omega) (fun h28_0 => ?_) (fun h28_0 => ?_)
  · skip
    have gd0 : ab_good a gi 0 = false := by unfold ab_good; rw [xb_zero.mp h28_0]; rfl
    refine lv_iinc (k := 0) (v := nI (1)) X.1 X.2.1 d_Gr_bestLog_73 hl rfl (by decide) (by decide) rfl (fun ls hl => ?_)
    have hl : lv_has ls 5 [(4, .int (nI 1)), (3, .int (-1)), (2, .int (nI 0)), (1, .int (nI (ab_top a gi))), (0, .ref (ad (nGr gi)))] := hl
    refine lv_goto (tgt := 12) X.1 X.2.1 d_Gr_bestLog_76 (by decide) ?_
    refine lv_iload X.1 X.2.1 d_Gr_bestLog_12 (lv_at hl 0 rfl) ?_
    refine lv_iconst (v := nI 3) X.1 X.2.1 d_Gr_bestLog_14 (by decide) ?_
    refine gx_icmp_ge X.1 X.2.1 (tgt := 79) d_Gr_bestLog_15 (by decide) (by omega) (by omega) (fun h15 => absurd h15 (by decide)) (fun h15 => ?_)
    refine lv_aload_n X.1 X.2.1 d_Gr_bestLog_18 rfl (lv_at hl 4 rfl) ?_
    refine gg_Gr_9 (by omega) X hP d_Gr_bestLog_19 ?_
    refine lv_iload X.1 X.2.1 d_Gr_bestLog_22 (lv_at hl 0 rfl) ?_
    refine gr_nRs (by omega) (by omega) X hP d_Gr_bestLog_24 ?_
    refine gg_Gr_15 (by omega) (by omega) X hP d_Gr_bestLog_25 ?_
    rw [hrp1.1]
    refine gx_if_eq X.1 X.2.1 (tgt := 73) d_Gr_bestLog_28 (by decide) (by omega) (fun h28_1 => ?_) (fun h28_1 => ?_)
    · skip
      have gd1 : ab_good a gi 1 = false := by unfold ab_good; rw [xb_zero.mp h28_1]; rfl
      refine lv_iinc (k := 0) (v := nI (2)) X.1 X.2.1 d_Gr_bestLog_73 hl rfl (by decide) (by decide) rfl (fun ls hl => ?_)
      have hl : lv_has ls 5 [(4, .int (nI 2)), (3, .int (-1)), (2, .int (nI 0)), (1, .int (nI (ab_top a gi))), (0, .ref (ad (nGr gi)))] := hl
      refine lv_goto (tgt := 12) X.1 X.2.1 d_Gr_bestLog_76 (by decide) ?_
      refine lv_iload X.1 X.2.1 d_Gr_bestLog_12 (lv_at hl 0 rfl) ?_
      refine lv_iconst (v := nI 3) X.1 X.2.1 d_Gr_bestLog_14 (by decide) ?_
      refine gx_icmp_ge X.1 X.2.1 (tgt := 79) d_Gr_bestLog_15 (by decide) (by omega) (by omega) (fun h15 => absurd h15 (by decide)) (fun h15 => ?_)
      refine lv_aload_n X.1 X.2.1 d_Gr_bestLog_18 rfl (lv_at hl 4 rfl) ?_
      refine gg_Gr_9 (by omega) X hP d_Gr_bestLog_19 ?_
      refine lv_iload X.1 X.2.1 d_Gr_bestLog_22 (lv_at hl 0 rfl) ?_
      refine gr_nRs (by omega) (by omega) X hP d_Gr_bestLog_24 ?_
      refine gg_Gr_15 (by omega) (by omega) X hP d_Gr_bestLog_25 ?_
      rw [hrp2.1]
      refine gx_if_eq X.1 X.2.1 (tgt := 73) d_Gr_bestLog_28 (by decide) (by omega) (fun h28_2 => ?_) (fun h28_2 => ?_)
      · skip
        have gd2 : ab_good a gi 2 = false := by unfold ab_good; rw [xb_zero.mp h28_2]; rfl
        refine lv_iinc (k := 0) (v := nI (3)) X.1 X.2.1 d_Gr_bestLog_73 hl rfl (by decide) (by decide) rfl (fun ls hl => ?_)
        have hl : lv_has ls 5 [(4, .int (nI 3)), (3, .int (-1)), (2, .int (nI 0)), (1, .int (nI (ab_top a gi))), (0, .ref (ad (nGr gi)))] := hl
        refine lv_goto (tgt := 12) X.1 X.2.1 d_Gr_bestLog_76 (by decide) ?_
        refine lv_iload X.1 X.2.1 d_Gr_bestLog_12 (lv_at hl 0 rfl) ?_
        refine lv_iconst (v := nI 3) X.1 X.2.1 d_Gr_bestLog_14 (by decide) ?_
        refine gx_icmp_ge X.1 X.2.1 (tgt := 79) d_Gr_bestLog_15 (by decide) (by omega) (by omega) (fun h15 => ?_) (fun h15 => absurd h15 (by decide))
        refine lv_iload_n X.1 X.2.1 d_Gr_bestLog_79 rfl (lv_at hl 2 rfl) ?_
        refine gx_iret X.1 X.2.1 hr hlk hP hS d_Gr_bestLog_80 ?_
        refine ⟨rfl, ?_⟩
        have hb : ab_best a gi = 0 := by
          clear hP hS hl X S hr hlk hK hN hJ hx hw hrp0 hrp1 hrp2
          unfold ab_best
          grind
        rw [hb]
      · skip
        refine lv_aload_n X.1 X.2.1 d_Gr_bestLog_31 rfl (lv_at hl 4 rfl) ?_
        refine gg_Gr_9 (by omega) X hP d_Gr_bestLog_32 ?_
        refine lv_iload X.1 X.2.1 d_Gr_bestLog_35 (lv_at hl 0 rfl) ?_
        refine gr_nRs (by omega) (by omega) X hP d_Gr_bestLog_37 ?_
        refine gg_Gr_45 (by omega) (by omega) X hP d_Gr_bestLog_38 ?_
        rw [hrp2.2.1]
        refine lv_iload_n X.1 X.2.1 d_Gr_bestLog_41 rfl (lv_at hl 3 rfl) ?_
        refine gx_icmp_ne X.1 X.2.1 (tgt := 73) d_Gr_bestLog_42 (by decide) (by omega) (by omega) (fun h42_2 => ?_) (fun h42_2 => ?_)
        · skip
          have gd2 : ab_good a gi 2 = false := by unfold ab_good; simp; intro _; exact h42_2
          refine lv_iinc (k := 0) (v := nI (3)) X.1 X.2.1 d_Gr_bestLog_73 hl rfl (by decide) (by decide) rfl (fun ls hl => ?_)
          have hl : lv_has ls 5 [(4, .int (nI 3)), (3, .int (-1)), (2, .int (nI 0)), (1, .int (nI (ab_top a gi))), (0, .ref (ad (nGr gi)))] := hl
          refine lv_goto (tgt := 12) X.1 X.2.1 d_Gr_bestLog_76 (by decide) ?_
          refine lv_iload X.1 X.2.1 d_Gr_bestLog_12 (lv_at hl 0 rfl) ?_
          refine lv_iconst (v := nI 3) X.1 X.2.1 d_Gr_bestLog_14 (by decide) ?_
          refine gx_icmp_ge X.1 X.2.1 (tgt := 79) d_Gr_bestLog_15 (by decide) (by omega) (by omega) (fun h15 => ?_) (fun h15 => absurd h15 (by decide))
          refine lv_iload_n X.1 X.2.1 d_Gr_bestLog_79 rfl (lv_at hl 2 rfl) ?_
          refine gx_iret X.1 X.2.1 hr hlk hP hS d_Gr_bestLog_80 ?_
          refine ⟨rfl, ?_⟩
          have hb : ab_best a gi = 0 := by
            clear hP hS hl X S hr hlk hK hN hJ hx hw hrp0 hrp1 hrp2
            unfold ab_best
            grind
          rw [hb]
        · skip
          have gd2 : ab_good a gi 2 = true := by unfold ab_good; rw [xb_one.mp (show xb (ab_up a gi 2) = 1 by omega), h42_2]; simp
          refine lv_aload_n X.1 X.2.1 d_Gr_bestLog_45 rfl (lv_at hl 4 rfl) ?_
          refine gg_Gr_9 (by omega) X hP d_Gr_bestLog_46 ?_
          refine lv_iload X.1 X.2.1 d_Gr_bestLog_49 (lv_at hl 0 rfl) ?_
          refine gr_nRs (by omega) (by omega) X hP d_Gr_bestLog_51 ?_
          refine gg_Gr_34 (by omega) (by omega) X hP d_Gr_bestLog_52 ?_
          rw [hrp2.2.2.1]
          refine lv_iload_n X.1 X.2.1 d_Gr_bestLog_55 rfl (lv_at hl 1 rfl) ?_
          refine lv_icmp_le X.1 X.2.1 (tgt := 73) d_Gr_bestLog_56 (by decide) (fun h56_2 => absurd h56_2 (by rw [gi_nle (by omega)]; show ¬ ((_ : Int) ≤ -1); omega)) (fun h56_2 => ?_)
          refine lv_iload X.1 X.2.1 d_Gr_bestLog_59 (lv_at hl 0 rfl) ?_
          refine lv_istore_n X.1 X.2.1 d_Gr_bestLog_61 rfl hl (by decide) rfl (fun ls hl => ?_)
          have hl : lv_has ls 5 [(2, .int (nI 2)), (4, .int (nI 2)), (3, .int (-1)), (1, .int (nI (ab_top a gi))), (0, .ref (ad (nGr gi)))] := hl
          refine lv_aload_n X.1 X.2.1 d_Gr_bestLog_62 rfl (lv_at hl 4 rfl) ?_
          refine gg_Gr_9 (by omega) X hP d_Gr_bestLog_63 ?_
          refine lv_iload X.1 X.2.1 d_Gr_bestLog_66 (lv_at hl 1 rfl) ?_
          refine gr_nRs (by omega) (by omega) X hP d_Gr_bestLog_68 ?_
          refine gg_Gr_34 (by omega) (by omega) X hP d_Gr_bestLog_69 ?_
          rw [hrp2.2.2.1]
          refine lv_istore_n X.1 X.2.1 d_Gr_bestLog_72 rfl hl (by decide) rfl (fun ls hl => ?_)
          have hl : lv_has ls 5 [(3, .int (nI ((ab_lg a gi 2).length))), (2, .int (nI 2)), (4, .int (nI 2)), (1, .int (nI (ab_top a gi))), (0, .ref (ad (nGr gi)))] := hl
          refine lv_iinc (k := 2) (v := nI (3)) X.1 X.2.1 d_Gr_bestLog_73 hl rfl (by decide) (by decide) rfl (fun ls hl => ?_)
          have hl : lv_has ls 5 [(4, .int (nI 3)), (3, .int (nI ((ab_lg a gi 2).length))), (2, .int (nI 2)), (1, .int (nI (ab_top a gi))), (0, .ref (ad (nGr gi)))] := hl
          refine lv_goto (tgt := 12) X.1 X.2.1 d_Gr_bestLog_76 (by decide) ?_
          refine lv_iload X.1 X.2.1 d_Gr_bestLog_12 (lv_at hl 0 rfl) ?_
          refine lv_iconst (v := nI 3) X.1 X.2.1 d_Gr_bestLog_14 (by decide) ?_
          refine gx_icmp_ge X.1 X.2.1 (tgt := 79) d_Gr_bestLog_15 (by decide) (by omega) (by omega) (fun h15 => ?_) (fun h15 => absurd h15 (by decide))
          refine lv_iload_n X.1 X.2.1 d_Gr_bestLog_79 rfl (lv_at hl 2 rfl) ?_
          refine gx_iret X.1 X.2.1 hr hlk hP hS d_Gr_bestLog_80 ?_
          refine ⟨rfl, ?_⟩
          have hb : ab_best a gi = 2 := by
            clear hP hS hl X S hr hlk hK hN hJ hx hw hrp0 hrp1 hrp2
            unfold ab_best
            grind
          rw [hb]
    · skip
      refine lv_aload_n X.1 X.2.1 d_Gr_bestLog_31 rfl (lv_at hl 4 rfl) ?_
      refine gg_Gr_9 (by omega) X hP d_Gr_bestLog_32 ?_
      refine lv_iload X.1 X.2.1 d_Gr_bestLog_35 (lv_at hl 0 rfl) ?_
      refine gr_nRs (by omega) (by omega) X hP d_Gr_bestLog_37 ?_
      refine gg_Gr_45 (by omega) (by omega) X hP d_Gr_bestLog_38 ?_
      rw [hrp1.2.1]
      refine lv_iload_n X.1 X.2.1 d_Gr_bestLog_41 rfl (lv_at hl 3 rfl) ?_
      refine gx_icmp_ne X.1 X.2.1 (tgt := 73) d_Gr_bestLog_42 (by decide) (by omega) (by omega) (fun h42_1 => ?_) (fun h42_1 => ?_)
      · skip
        have gd1 : ab_good a gi 1 = false := by unfold ab_good; simp; intro _; exact h42_1
        refine lv_iinc (k := 0) (v := nI (2)) X.1 X.2.1 d_Gr_bestLog_73 hl rfl (by decide) (by decide) rfl (fun ls hl => ?_)
        have hl : lv_has ls 5 [(4, .int (nI 2)), (3, .int (-1)), (2, .int (nI 0)), (1, .int (nI (ab_top a gi))), (0, .ref (ad (nGr gi)))] := hl
        refine lv_goto (tgt := 12) X.1 X.2.1 d_Gr_bestLog_76 (by decide) ?_
        refine lv_iload X.1 X.2.1 d_Gr_bestLog_12 (lv_at hl 0 rfl) ?_
        refine lv_iconst (v := nI 3) X.1 X.2.1 d_Gr_bestLog_14 (by decide) ?_
        refine gx_icmp_ge X.1 X.2.1 (tgt := 79) d_Gr_bestLog_15 (by decide) (by omega) (by omega) (fun h15 => absurd h15 (by decide)) (fun h15 => ?_)
        refine lv_aload_n X.1 X.2.1 d_Gr_bestLog_18 rfl (lv_at hl 4 rfl) ?_
        refine gg_Gr_9 (by omega) X hP d_Gr_bestLog_19 ?_
        refine lv_iload X.1 X.2.1 d_Gr_bestLog_22 (lv_at hl 0 rfl) ?_
        refine gr_nRs (by omega) (by omega) X hP d_Gr_bestLog_24 ?_
        refine gg_Gr_15 (by omega) (by omega) X hP d_Gr_bestLog_25 ?_
        rw [hrp2.1]
        refine gx_if_eq X.1 X.2.1 (tgt := 73) d_Gr_bestLog_28 (by decide) (by omega) (fun h28_2 => ?_) (fun h28_2 => ?_)
        · skip
          have gd2 : ab_good a gi 2 = false := by unfold ab_good; rw [xb_zero.mp h28_2]; rfl
          refine lv_iinc (k := 0) (v := nI (3)) X.1 X.2.1 d_Gr_bestLog_73 hl rfl (by decide) (by decide) rfl (fun ls hl => ?_)
          have hl : lv_has ls 5 [(4, .int (nI 3)), (3, .int (-1)), (2, .int (nI 0)), (1, .int (nI (ab_top a gi))), (0, .ref (ad (nGr gi)))] := hl
          refine lv_goto (tgt := 12) X.1 X.2.1 d_Gr_bestLog_76 (by decide) ?_
          refine lv_iload X.1 X.2.1 d_Gr_bestLog_12 (lv_at hl 0 rfl) ?_
          refine lv_iconst (v := nI 3) X.1 X.2.1 d_Gr_bestLog_14 (by decide) ?_
          refine gx_icmp_ge X.1 X.2.1 (tgt := 79) d_Gr_bestLog_15 (by decide) (by omega) (by omega) (fun h15 => ?_) (fun h15 => absurd h15 (by decide))
          refine lv_iload_n X.1 X.2.1 d_Gr_bestLog_79 rfl (lv_at hl 2 rfl) ?_
          refine gx_iret X.1 X.2.1 hr hlk hP hS d_Gr_bestLog_80 ?_
          refine ⟨rfl, ?_⟩
          have hb : ab_best a gi = 0 := by
            clear hP hS hl X S hr hlk hK hN hJ hx hw hrp0 hrp1 hrp2
            unfold ab_best
            grind
          rw [hb]
        · skip
          refine lv_aload_n X.1 X.2.1 d_Gr_bestLog_31 rfl (lv_at hl 4 rfl) ?_
          refine gg_Gr_9 (by omega) X hP d_Gr_bestLog_32 ?_
          refine lv_iload X.1 X.2.1 d_Gr_bestLog_35 (lv_at hl 0 rfl) ?_
          refine gr_nRs (by omega) (by omega) X hP d_Gr_bestLog_37 ?_
          refine gg_Gr_45 (by omega) (by omega) X hP d_Gr_bestLog_38 ?_
          rw [hrp2.2.1]
          refine lv_iload_n X.1 X.2.1 d_Gr_bestLog_41 rfl (lv_at hl 3 rfl) ?_
          refine gx_icmp_ne X.1 X.2.1 (tgt := 73) d_Gr_bestLog_42 (by decide) (by omega) (by omega) (fun h42_2 => ?_) (fun h42_2 => ?_)
          · skip
            have gd2 : ab_good a gi 2 = false := by unfold ab_good; simp; intro _; exact h42_2
            refine lv_iinc (k := 0) (v := nI (3)) X.1 X.2.1 d_Gr_bestLog_73 hl rfl (by decide) (by decide) rfl (fun ls hl => ?_)
            have hl : lv_has ls 5 [(4, .int (nI 3)), (3, .int (-1)), (2, .int (nI 0)), (1, .int (nI (ab_top a gi))), (0, .ref (ad (nGr gi)))] := hl
            refine lv_goto (tgt := 12) X.1 X.2.1 d_Gr_bestLog_76 (by decide) ?_
            refine lv_iload X.1 X.2.1 d_Gr_bestLog_12 (lv_at hl 0 rfl) ?_
            refine lv_iconst (v := nI 3) X.1 X.2.1 d_Gr_bestLog_14 (by decide) ?_
            refine gx_icmp_ge X.1 X.2.1 (tgt := 79) d_Gr_bestLog_15 (by decide) (by omega) (by omega) (fun h15 => ?_) (fun h15 => absurd h15 (by decide))
            refine lv_iload_n X.1 X.2.1 d_Gr_bestLog_79 rfl (lv_at hl 2 rfl) ?_
            refine gx_iret X.1 X.2.1 hr hlk hP hS d_Gr_bestLog_80 ?_
            refine ⟨rfl, ?_⟩
            have hb : ab_best a gi = 0 := by
              clear hP hS hl X S hr hlk hK hN hJ hx hw hrp0 hrp1 hrp2
              unfold ab_best
              grind
            rw [hb]
          · skip
            have gd2 : ab_good a gi 2 = true := by unfold ab_good; rw [xb_one.mp (show xb (ab_up a gi 2) = 1 by omega), h42_2]; simp
            refine lv_aload_n X.1 X.2.1 d_Gr_bestLog_45 rfl (lv_at hl 4 rfl) ?_
            refine gg_Gr_9 (by omega) X hP d_Gr_bestLog_46 ?_
            refine lv_iload X.1 X.2.1 d_Gr_bestLog_49 (lv_at hl 0 rfl) ?_
            refine gr_nRs (by omega) (by omega) X hP d_Gr_bestLog_51 ?_
            refine gg_Gr_34 (by omega) (by omega) X hP d_Gr_bestLog_52 ?_
            rw [hrp2.2.2.1]
            refine lv_iload_n X.1 X.2.1 d_Gr_bestLog_55 rfl (lv_at hl 1 rfl) ?_
            refine lv_icmp_le X.1 X.2.1 (tgt := 73) d_Gr_bestLog_56 (by decide) (fun h56_2 => absurd h56_2 (by rw [gi_nle (by omega)]; show ¬ ((_ : Int) ≤ -1); omega)) (fun h56_2 => ?_)
            refine lv_iload X.1 X.2.1 d_Gr_bestLog_59 (lv_at hl 0 rfl) ?_
            refine lv_istore_n X.1 X.2.1 d_Gr_bestLog_61 rfl hl (by decide) rfl (fun ls hl => ?_)
            have hl : lv_has ls 5 [(2, .int (nI 2)), (4, .int (nI 2)), (3, .int (-1)), (1, .int (nI (ab_top a gi))), (0, .ref (ad (nGr gi)))] := hl
            refine lv_aload_n X.1 X.2.1 d_Gr_bestLog_62 rfl (lv_at hl 4 rfl) ?_
            refine gg_Gr_9 (by omega) X hP d_Gr_bestLog_63 ?_
            refine lv_iload X.1 X.2.1 d_Gr_bestLog_66 (lv_at hl 1 rfl) ?_
            refine gr_nRs (by omega) (by omega) X hP d_Gr_bestLog_68 ?_
            refine gg_Gr_34 (by omega) (by omega) X hP d_Gr_bestLog_69 ?_
            rw [hrp2.2.2.1]
            refine lv_istore_n X.1 X.2.1 d_Gr_bestLog_72 rfl hl (by decide) rfl (fun ls hl => ?_)
            have hl : lv_has ls 5 [(3, .int (nI ((ab_lg a gi 2).length))), (2, .int (nI 2)), (4, .int (nI 2)), (1, .int (nI (ab_top a gi))), (0, .ref (ad (nGr gi)))] := hl
            refine lv_iinc (k := 2) (v := nI (3)) X.1 X.2.1 d_Gr_bestLog_73 hl rfl (by decide) (by decide) rfl (fun ls hl => ?_)
            have hl : lv_has ls 5 [(4, .int (nI 3)), (3, .int (nI ((ab_lg a gi 2).length))), (2, .int (nI 2)), (1, .int (nI (ab_top a gi))), (0, .ref (ad (nGr gi)))] := hl
            refine lv_goto (tgt := 12) X.1 X.2.1 d_Gr_bestLog_76 (by decide) ?_
            refine lv_iload X.1 X.2.1 d_Gr_bestLog_12 (lv_at hl 0 rfl) ?_
            refine lv_iconst (v := nI 3) X.1 X.2.1 d_Gr_bestLog_14 (by decide) ?_
            refine gx_icmp_ge X.1 X.2.1 (tgt := 79) d_Gr_bestLog_15 (by decide) (by omega) (by omega) (fun h15 => ?_) (fun h15 => absurd h15 (by decide))
            refine lv_iload_n X.1 X.2.1 d_Gr_bestLog_79 rfl (lv_at hl 2 rfl) ?_
            refine gx_iret X.1 X.2.1 hr hlk hP hS d_Gr_bestLog_80 ?_
            refine ⟨rfl, ?_⟩
            have hb : ab_best a gi = 2 := by
              clear hP hS hl X S hr hlk hK hN hJ hx hw hrp0 hrp1 hrp2
              unfold ab_best
              grind
            rw [hb]
      · skip
        have gd1 : ab_good a gi 1 = true := by unfold ab_good; rw [xb_one.mp (show xb (ab_up a gi 1) = 1 by omega), h42_1]; simp
        refine lv_aload_n X.1 X.2.1 d_Gr_bestLog_45 rfl (lv_at hl 4 rfl) ?_
        refine gg_Gr_9 (by omega) X hP d_Gr_bestLog_46 ?_
        refine lv_iload X.1 X.2.1 d_Gr_bestLog_49 (lv_at hl 0 rfl) ?_
        refine gr_nRs (by omega) (by omega) X hP d_Gr_bestLog_51 ?_
        refine gg_Gr_34 (by omega) (by omega) X hP d_Gr_bestLog_52 ?_
        rw [hrp1.2.2.1]
        refine lv_iload_n X.1 X.2.1 d_Gr_bestLog_55 rfl (lv_at hl 1 rfl) ?_
        refine lv_icmp_le X.1 X.2.1 (tgt := 73) d_Gr_bestLog_56 (by decide) (fun h56_1 => absurd h56_1 (by rw [gi_nle (by omega)]; show ¬ ((_ : Int) ≤ -1); omega)) (fun h56_1 => ?_)
        refine lv_iload X.1 X.2.1 d_Gr_bestLog_59 (lv_at hl 0 rfl) ?_
        refine lv_istore_n X.1 X.2.1 d_Gr_bestLog_61 rfl hl (by decide) rfl (fun ls hl => ?_)
        have hl : lv_has ls 5 [(2, .int (nI 1)), (4, .int (nI 1)), (3, .int (-1)), (1, .int (nI (ab_top a gi))), (0, .ref (ad (nGr gi)))] := hl
        refine lv_aload_n X.1 X.2.1 d_Gr_bestLog_62 rfl (lv_at hl 4 rfl) ?_
        refine gg_Gr_9 (by omega) X hP d_Gr_bestLog_63 ?_
        refine lv_iload X.1 X.2.1 d_Gr_bestLog_66 (lv_at hl 1 rfl) ?_
        refine gr_nRs (by omega) (by omega) X hP d_Gr_bestLog_68 ?_
        refine gg_Gr_34 (by omega) (by omega) X hP d_Gr_bestLog_69 ?_
        rw [hrp1.2.2.1]
        refine lv_istore_n X.1 X.2.1 d_Gr_bestLog_72 rfl hl (by decide) rfl (fun ls hl => ?_)
        have hl : lv_has ls 5 [(3, .int (nI ((ab_lg a gi 1).length))), (2, .int (nI 1)), (4, .int (nI 1)), (1, .int (nI (ab_top a gi))), (0, .ref (ad (nGr gi)))] := hl
        refine lv_iinc (k := 2) (v := nI (2)) X.1 X.2.1 d_Gr_bestLog_73 hl rfl (by decide) (by decide) rfl (fun ls hl => ?_)
        have hl : lv_has ls 5 [(4, .int (nI 2)), (3, .int (nI ((ab_lg a gi 1).length))), (2, .int (nI 1)), (1, .int (nI (ab_top a gi))), (0, .ref (ad (nGr gi)))] := hl
        refine lv_goto (tgt := 12) X.1 X.2.1 d_Gr_bestLog_76 (by decide) ?_
        refine lv_iload X.1 X.2.1 d_Gr_bestLog_12 (lv_at hl 0 rfl) ?_
        refine lv_iconst (v := nI 3) X.1 X.2.1 d_Gr_bestLog_14 (by decide) ?_
        refine gx_icmp_ge X.1 X.2.1 (tgt := 79) d_Gr_bestLog_15 (by decide) (by omega) (by omega) (fun h15 => absurd h15 (by decide)) (fun h15 => ?_)
        refine lv_aload_n X.1 X.2.1 d_Gr_bestLog_18 rfl (lv_at hl 4 rfl) ?_
        refine gg_Gr_9 (by omega) X hP d_Gr_bestLog_19 ?_
        refine lv_iload X.1 X.2.1 d_Gr_bestLog_22 (lv_at hl 0 rfl) ?_
        refine gr_nRs (by omega) (by omega) X hP d_Gr_bestLog_24 ?_
        refine gg_Gr_15 (by omega) (by omega) X hP d_Gr_bestLog_25 ?_
        rw [hrp2.1]
        refine gx_if_eq X.1 X.2.1 (tgt := 73) d_Gr_bestLog_28 (by decide) (by omega) (fun h28_2 => ?_) (fun h28_2 => ?_)
        · skip
          have gd2 : ab_good a gi 2 = false := by unfold ab_good; rw [xb_zero.mp h28_2]; rfl
          refine lv_iinc (k := 0) (v := nI (3)) X.1 X.2.1 d_Gr_bestLog_73 hl rfl (by decide) (by decide) rfl (fun ls hl => ?_)
          have hl : lv_has ls 5 [(4, .int (nI 3)), (3, .int (nI ((ab_lg a gi 1).length))), (2, .int (nI 1)), (1, .int (nI (ab_top a gi))), (0, .ref (ad (nGr gi)))] := hl
          refine lv_goto (tgt := 12) X.1 X.2.1 d_Gr_bestLog_76 (by decide) ?_
          refine lv_iload X.1 X.2.1 d_Gr_bestLog_12 (lv_at hl 0 rfl) ?_
          refine lv_iconst (v := nI 3) X.1 X.2.1 d_Gr_bestLog_14 (by decide) ?_
          refine gx_icmp_ge X.1 X.2.1 (tgt := 79) d_Gr_bestLog_15 (by decide) (by omega) (by omega) (fun h15 => ?_) (fun h15 => absurd h15 (by decide))
          refine lv_iload_n X.1 X.2.1 d_Gr_bestLog_79 rfl (lv_at hl 2 rfl) ?_
          refine gx_iret X.1 X.2.1 hr hlk hP hS d_Gr_bestLog_80 ?_
          refine ⟨rfl, ?_⟩
          have hb : ab_best a gi = 1 := by
            clear hP hS hl X S hr hlk hK hN hJ hx hw hrp0 hrp1 hrp2
            unfold ab_best
            grind
          rw [hb]
        · skip
          refine lv_aload_n X.1 X.2.1 d_Gr_bestLog_31 rfl (lv_at hl 4 rfl) ?_
          refine gg_Gr_9 (by omega) X hP d_Gr_bestLog_32 ?_
          refine lv_iload X.1 X.2.1 d_Gr_bestLog_35 (lv_at hl 0 rfl) ?_
          refine gr_nRs (by omega) (by omega) X hP d_Gr_bestLog_37 ?_
          refine gg_Gr_45 (by omega) (by omega) X hP d_Gr_bestLog_38 ?_
          rw [hrp2.2.1]
          refine lv_iload_n X.1 X.2.1 d_Gr_bestLog_41 rfl (lv_at hl 3 rfl) ?_
          refine gx_icmp_ne X.1 X.2.1 (tgt := 73) d_Gr_bestLog_42 (by decide) (by omega) (by omega) (fun h42_2 => ?_) (fun h42_2 => ?_)
          · skip
            have gd2 : ab_good a gi 2 = false := by unfold ab_good; simp; intro _; exact h42_2
            refine lv_iinc (k := 0) (v := nI (3)) X.1 X.2.1 d_Gr_bestLog_73 hl rfl (by decide) (by decide) rfl (fun ls hl => ?_)
            have hl : lv_has ls 5 [(4, .int (nI 3)), (3, .int (nI ((ab_lg a gi 1).length))), (2, .int (nI 1)), (1, .int (nI (ab_top a gi))), (0, .ref (ad (nGr gi)))] := hl
            refine lv_goto (tgt := 12) X.1 X.2.1 d_Gr_bestLog_76 (by decide) ?_
            refine lv_iload X.1 X.2.1 d_Gr_bestLog_12 (lv_at hl 0 rfl) ?_
            refine lv_iconst (v := nI 3) X.1 X.2.1 d_Gr_bestLog_14 (by decide) ?_
            refine gx_icmp_ge X.1 X.2.1 (tgt := 79) d_Gr_bestLog_15 (by decide) (by omega) (by omega) (fun h15 => ?_) (fun h15 => absurd h15 (by decide))
            refine lv_iload_n X.1 X.2.1 d_Gr_bestLog_79 rfl (lv_at hl 2 rfl) ?_
            refine gx_iret X.1 X.2.1 hr hlk hP hS d_Gr_bestLog_80 ?_
            refine ⟨rfl, ?_⟩
            have hb : ab_best a gi = 1 := by
              clear hP hS hl X S hr hlk hK hN hJ hx hw hrp0 hrp1 hrp2
              unfold ab_best
              grind
            rw [hb]
          · skip
            have gd2 : ab_good a gi 2 = true := by unfold ab_good; rw [xb_one.mp (show xb (ab_up a gi 2) = 1 by omega), h42_2]; simp
            refine lv_aload_n X.1 X.2.1 d_Gr_bestLog_45 rfl (lv_at hl 4 rfl) ?_
            refine gg_Gr_9 (by omega) X hP d_Gr_bestLog_46 ?_
            refine lv_iload X.1 X.2.1 d_Gr_bestLog_49 (lv_at hl 0 rfl) ?_
            refine gr_nRs (by omega) (by omega) X hP d_Gr_bestLog_51 ?_
            refine gg_Gr_34 (by omega) (by omega) X hP d_Gr_bestLog_52 ?_
            rw [hrp2.2.2.1]
            refine lv_iload_n X.1 X.2.1 d_Gr_bestLog_55 rfl (lv_at hl 1 rfl) ?_
            refine gx_icmp_le X.1 X.2.1 (tgt := 73) d_Gr_bestLog_56 (by decide) (by omega) (by omega) (fun h56_2 => ?_) (fun h56_2 => ?_)
            · skip
              refine lv_iinc (k := 0) (v := nI (3)) X.1 X.2.1 d_Gr_bestLog_73 hl rfl (by decide) (by decide) rfl (fun ls hl => ?_)
              have hl : lv_has ls 5 [(4, .int (nI 3)), (3, .int (nI ((ab_lg a gi 1).length))), (2, .int (nI 1)), (1, .int (nI (ab_top a gi))), (0, .ref (ad (nGr gi)))] := hl
              refine lv_goto (tgt := 12) X.1 X.2.1 d_Gr_bestLog_76 (by decide) ?_
              refine lv_iload X.1 X.2.1 d_Gr_bestLog_12 (lv_at hl 0 rfl) ?_
              refine lv_iconst (v := nI 3) X.1 X.2.1 d_Gr_bestLog_14 (by decide) ?_
              refine gx_icmp_ge X.1 X.2.1 (tgt := 79) d_Gr_bestLog_15 (by decide) (by omega) (by omega) (fun h15 => ?_) (fun h15 => absurd h15 (by decide))
              refine lv_iload_n X.1 X.2.1 d_Gr_bestLog_79 rfl (lv_at hl 2 rfl) ?_
              refine gx_iret X.1 X.2.1 hr hlk hP hS d_Gr_bestLog_80 ?_
              refine ⟨rfl, ?_⟩
              have hb : ab_best a gi = 1 := by
                clear hP hS hl X S hr hlk hK hN hJ hx hw hrp0 hrp1 hrp2
                unfold ab_best
                grind
              rw [hb]
            · skip
              refine lv_iload X.1 X.2.1 d_Gr_bestLog_59 (lv_at hl 0 rfl) ?_
              refine lv_istore_n X.1 X.2.1 d_Gr_bestLog_61 rfl hl (by decide) rfl (fun ls hl => ?_)
              have hl : lv_has ls 5 [(2, .int (nI 2)), (4, .int (nI 2)), (3, .int (nI ((ab_lg a gi 1).length))), (1, .int (nI (ab_top a gi))), (0, .ref (ad (nGr gi)))] := hl
              refine lv_aload_n X.1 X.2.1 d_Gr_bestLog_62 rfl (lv_at hl 4 rfl) ?_
              refine gg_Gr_9 (by omega) X hP d_Gr_bestLog_63 ?_
              refine lv_iload X.1 X.2.1 d_Gr_bestLog_66 (lv_at hl 1 rfl) ?_
              refine gr_nRs (by omega) (by omega) X hP d_Gr_bestLog_68 ?_
              refine gg_Gr_34 (by omega) (by omega) X hP d_Gr_bestLog_69 ?_
              rw [hrp2.2.2.1]
              refine lv_istore_n X.1 X.2.1 d_Gr_bestLog_72 rfl hl (by decide) rfl (fun ls hl => ?_)
              have hl : lv_has ls 5 [(3, .int (nI ((ab_lg a gi 2).length))), (2, .int (nI 2)), (4, .int (nI 2)), (1, .int (nI (ab_top a gi))), (0, .ref (ad (nGr gi)))] := hl
              refine lv_iinc (k := 2) (v := nI (3)) X.1 X.2.1 d_Gr_bestLog_73 hl rfl (by decide) (by decide) rfl (fun ls hl => ?_)
              have hl : lv_has ls 5 [(4, .int (nI 3)), (3, .int (nI ((ab_lg a gi 2).length))), (2, .int (nI 2)), (1, .int (nI (ab_top a gi))), (0, .ref (ad (nGr gi)))] := hl
              refine lv_goto (tgt := 12) X.1 X.2.1 d_Gr_bestLog_76 (by decide) ?_
              refine lv_iload X.1 X.2.1 d_Gr_bestLog_12 (lv_at hl 0 rfl) ?_
              refine lv_iconst (v := nI 3) X.1 X.2.1 d_Gr_bestLog_14 (by decide) ?_
              refine gx_icmp_ge X.1 X.2.1 (tgt := 79) d_Gr_bestLog_15 (by decide) (by omega) (by omega) (fun h15 => ?_) (fun h15 => absurd h15 (by decide))
              refine lv_iload_n X.1 X.2.1 d_Gr_bestLog_79 rfl (lv_at hl 2 rfl) ?_
              refine gx_iret X.1 X.2.1 hr hlk hP hS d_Gr_bestLog_80 ?_
              refine ⟨rfl, ?_⟩
              have hb : ab_best a gi = 2 := by
                clear hP hS hl X S hr hlk hK hN hJ hx hw hrp0 hrp1 hrp2
                unfold ab_best
                grind
              rw [hb]
  · skip
    refine lv_aload_n X.1 X.2.1 d_Gr_bestLog_31 rfl (lv_at hl 4 rfl) ?_
    refine gg_Gr_9 (by omega) X hP d_Gr_bestLog_32 ?_
    refine lv_iload X.1 X.2.1 d_Gr_bestLog_35 (lv_at hl 0 rfl) ?_
    refine gr_nRs (by omega) (by omega) X hP d_Gr_bestLog_37 ?_
    refine gg_Gr_45 (by omega) (by omega) X hP d_Gr_bestLog_38 ?_
    rw [hrp0.2.1]
    refine lv_iload_n X.1 X.2.1 d_Gr_bestLog_41 rfl (lv_at hl 3 rfl) ?_
    refine gx_icmp_ne X.1 X.2.1 (tgt := 73) d_Gr_bestLog_42 (by decide) (by omega) (by omega) (fun h42_0 => ?_) (fun h42_0 => ?_)
    · skip
      have gd0 : ab_good a gi 0 = false := by unfold ab_good; simp; intro _; exact h42_0
      refine lv_iinc (k := 0) (v := nI (1)) X.1 X.2.1 d_Gr_bestLog_73 hl rfl (by decide) (by decide) rfl (fun ls hl => ?_)
      have hl : lv_has ls 5 [(4, .int (nI 1)), (3, .int (-1)), (2, .int (nI 0)), (1, .int (nI (ab_top a gi))), (0, .ref (ad (nGr gi)))] := hl
      refine lv_goto (tgt := 12) X.1 X.2.1 d_Gr_bestLog_76 (by decide) ?_
      refine lv_iload X.1 X.2.1 d_Gr_bestLog_12 (lv_at hl 0 rfl) ?_
      refine lv_iconst (v := nI 3) X.1 X.2.1 d_Gr_bestLog_14 (by decide) ?_
      refine gx_icmp_ge X.1 X.2.1 (tgt := 79) d_Gr_bestLog_15 (by decide) (by omega) (by omega) (fun h15 => absurd h15 (by decide)) (fun h15 => ?_)
      refine lv_aload_n X.1 X.2.1 d_Gr_bestLog_18 rfl (lv_at hl 4 rfl) ?_
      refine gg_Gr_9 (by omega) X hP d_Gr_bestLog_19 ?_
      refine lv_iload X.1 X.2.1 d_Gr_bestLog_22 (lv_at hl 0 rfl) ?_
      refine gr_nRs (by omega) (by omega) X hP d_Gr_bestLog_24 ?_
      refine gg_Gr_15 (by omega) (by omega) X hP d_Gr_bestLog_25 ?_
      rw [hrp1.1]
      refine gx_if_eq X.1 X.2.1 (tgt := 73) d_Gr_bestLog_28 (by decide) (by omega) (fun h28_1 => ?_) (fun h28_1 => ?_)
      · skip
        have gd1 : ab_good a gi 1 = false := by unfold ab_good; rw [xb_zero.mp h28_1]; rfl
        refine lv_iinc (k := 0) (v := nI (2)) X.1 X.2.1 d_Gr_bestLog_73 hl rfl (by decide) (by decide) rfl (fun ls hl => ?_)
        have hl : lv_has ls 5 [(4, .int (nI 2)), (3, .int (-1)), (2, .int (nI 0)), (1, .int (nI (ab_top a gi))), (0, .ref (ad (nGr gi)))] := hl
        refine lv_goto (tgt := 12) X.1 X.2.1 d_Gr_bestLog_76 (by decide) ?_
        refine lv_iload X.1 X.2.1 d_Gr_bestLog_12 (lv_at hl 0 rfl) ?_
        refine lv_iconst (v := nI 3) X.1 X.2.1 d_Gr_bestLog_14 (by decide) ?_
        refine gx_icmp_ge X.1 X.2.1 (tgt := 79) d_Gr_bestLog_15 (by decide) (by omega) (by omega) (fun h15 => absurd h15 (by decide)) (fun h15 => ?_)
        refine lv_aload_n X.1 X.2.1 d_Gr_bestLog_18 rfl (lv_at hl 4 rfl) ?_
        refine gg_Gr_9 (by omega) X hP d_Gr_bestLog_19 ?_
        refine lv_iload X.1 X.2.1 d_Gr_bestLog_22 (lv_at hl 0 rfl) ?_
        refine gr_nRs (by omega) (by omega) X hP d_Gr_bestLog_24 ?_
        refine gg_Gr_15 (by omega) (by omega) X hP d_Gr_bestLog_25 ?_
        rw [hrp2.1]
        refine gx_if_eq X.1 X.2.1 (tgt := 73) d_Gr_bestLog_28 (by decide) (by omega) (fun h28_2 => ?_) (fun h28_2 => ?_)
        · skip
          have gd2 : ab_good a gi 2 = false := by unfold ab_good; rw [xb_zero.mp h28_2]; rfl
          refine lv_iinc (k := 0) (v := nI (3)) X.1 X.2.1 d_Gr_bestLog_73 hl rfl (by decide) (by decide) rfl (fun ls hl => ?_)
          have hl : lv_has ls 5 [(4, .int (nI 3)), (3, .int (-1)), (2, .int (nI 0)), (1, .int (nI (ab_top a gi))), (0, .ref (ad (nGr gi)))] := hl
          refine lv_goto (tgt := 12) X.1 X.2.1 d_Gr_bestLog_76 (by decide) ?_
          refine lv_iload X.1 X.2.1 d_Gr_bestLog_12 (lv_at hl 0 rfl) ?_
          refine lv_iconst (v := nI 3) X.1 X.2.1 d_Gr_bestLog_14 (by decide) ?_
          refine gx_icmp_ge X.1 X.2.1 (tgt := 79) d_Gr_bestLog_15 (by decide) (by omega) (by omega) (fun h15 => ?_) (fun h15 => absurd h15 (by decide))
          refine lv_iload_n X.1 X.2.1 d_Gr_bestLog_79 rfl (lv_at hl 2 rfl) ?_
          refine gx_iret X.1 X.2.1 hr hlk hP hS d_Gr_bestLog_80 ?_
          refine ⟨rfl, ?_⟩
          have hb : ab_best a gi = 0 := by
            clear hP hS hl X S hr hlk hK hN hJ hx hw hrp0 hrp1 hrp2
            unfold ab_best
            grind
          rw [hb]
        · skip
          refine lv_aload_n X.1 X.2.1 d_Gr_bestLog_31 rfl (lv_at hl 4 rfl) ?_
          refine gg_Gr_9 (by omega) X hP d_Gr_bestLog_32 ?_
          refine lv_iload X.1 X.2.1 d_Gr_bestLog_35 (lv_at hl 0 rfl) ?_
          refine gr_nRs (by omega) (by omega) X hP d_Gr_bestLog_37 ?_
          refine gg_Gr_45 (by omega) (by omega) X hP d_Gr_bestLog_38 ?_
          rw [hrp2.2.1]
          refine lv_iload_n X.1 X.2.1 d_Gr_bestLog_41 rfl (lv_at hl 3 rfl) ?_
          refine gx_icmp_ne X.1 X.2.1 (tgt := 73) d_Gr_bestLog_42 (by decide) (by omega) (by omega) (fun h42_2 => ?_) (fun h42_2 => ?_)
          · skip
            have gd2 : ab_good a gi 2 = false := by unfold ab_good; simp; intro _; exact h42_2
            refine lv_iinc (k := 0) (v := nI (3)) X.1 X.2.1 d_Gr_bestLog_73 hl rfl (by decide) (by decide) rfl (fun ls hl => ?_)
            have hl : lv_has ls 5 [(4, .int (nI 3)), (3, .int (-1)), (2, .int (nI 0)), (1, .int (nI (ab_top a gi))), (0, .ref (ad (nGr gi)))] := hl
            refine lv_goto (tgt := 12) X.1 X.2.1 d_Gr_bestLog_76 (by decide) ?_
            refine lv_iload X.1 X.2.1 d_Gr_bestLog_12 (lv_at hl 0 rfl) ?_
            refine lv_iconst (v := nI 3) X.1 X.2.1 d_Gr_bestLog_14 (by decide) ?_
            refine gx_icmp_ge X.1 X.2.1 (tgt := 79) d_Gr_bestLog_15 (by decide) (by omega) (by omega) (fun h15 => ?_) (fun h15 => absurd h15 (by decide))
            refine lv_iload_n X.1 X.2.1 d_Gr_bestLog_79 rfl (lv_at hl 2 rfl) ?_
            refine gx_iret X.1 X.2.1 hr hlk hP hS d_Gr_bestLog_80 ?_
            refine ⟨rfl, ?_⟩
            have hb : ab_best a gi = 0 := by
              clear hP hS hl X S hr hlk hK hN hJ hx hw hrp0 hrp1 hrp2
              unfold ab_best
              grind
            rw [hb]
          · skip
            have gd2 : ab_good a gi 2 = true := by unfold ab_good; rw [xb_one.mp (show xb (ab_up a gi 2) = 1 by omega), h42_2]; simp
            refine lv_aload_n X.1 X.2.1 d_Gr_bestLog_45 rfl (lv_at hl 4 rfl) ?_
            refine gg_Gr_9 (by omega) X hP d_Gr_bestLog_46 ?_
            refine lv_iload X.1 X.2.1 d_Gr_bestLog_49 (lv_at hl 0 rfl) ?_
            refine gr_nRs (by omega) (by omega) X hP d_Gr_bestLog_51 ?_
            refine gg_Gr_34 (by omega) (by omega) X hP d_Gr_bestLog_52 ?_
            rw [hrp2.2.2.1]
            refine lv_iload_n X.1 X.2.1 d_Gr_bestLog_55 rfl (lv_at hl 1 rfl) ?_
            refine lv_icmp_le X.1 X.2.1 (tgt := 73) d_Gr_bestLog_56 (by decide) (fun h56_2 => absurd h56_2 (by rw [gi_nle (by omega)]; show ¬ ((_ : Int) ≤ -1); omega)) (fun h56_2 => ?_)
            refine lv_iload X.1 X.2.1 d_Gr_bestLog_59 (lv_at hl 0 rfl) ?_
            refine lv_istore_n X.1 X.2.1 d_Gr_bestLog_61 rfl hl (by decide) rfl (fun ls hl => ?_)
            have hl : lv_has ls 5 [(2, .int (nI 2)), (4, .int (nI 2)), (3, .int (-1)), (1, .int (nI (ab_top a gi))), (0, .ref (ad (nGr gi)))] := hl
            refine lv_aload_n X.1 X.2.1 d_Gr_bestLog_62 rfl (lv_at hl 4 rfl) ?_
            refine gg_Gr_9 (by omega) X hP d_Gr_bestLog_63 ?_
            refine lv_iload X.1 X.2.1 d_Gr_bestLog_66 (lv_at hl 1 rfl) ?_
            refine gr_nRs (by omega) (by omega) X hP d_Gr_bestLog_68 ?_
            refine gg_Gr_34 (by omega) (by omega) X hP d_Gr_bestLog_69 ?_
            rw [hrp2.2.2.1]
            refine lv_istore_n X.1 X.2.1 d_Gr_bestLog_72 rfl hl (by decide) rfl (fun ls hl => ?_)
            have hl : lv_has ls 5 [(3, .int (nI ((ab_lg a gi 2).length))), (2, .int (nI 2)), (4, .int (nI 2)), (1, .int (nI (ab_top a gi))), (0, .ref (ad (nGr gi)))] := hl
            refine lv_iinc (k := 2) (v := nI (3)) X.1 X.2.1 d_Gr_bestLog_73 hl rfl (by decide) (by decide) rfl (fun ls hl => ?_)
            have hl : lv_has ls 5 [(4, .int (nI 3)), (3, .int (nI ((ab_lg a gi 2).length))), (2, .int (nI 2)), (1, .int (nI (ab_top a gi))), (0, .ref (ad (nGr gi)))] := hl
            refine lv_goto (tgt := 12) X.1 X.2.1 d_Gr_bestLog_76 (by decide) ?_
            refine lv_iload X.1 X.2.1 d_Gr_bestLog_12 (lv_at hl 0 rfl) ?_
            refine lv_iconst (v := nI 3) X.1 X.2.1 d_Gr_bestLog_14 (by decide) ?_
            refine gx_icmp_ge X.1 X.2.1 (tgt := 79) d_Gr_bestLog_15 (by decide) (by omega) (by omega) (fun h15 => ?_) (fun h15 => absurd h15 (by decide))
            refine lv_iload_n X.1 X.2.1 d_Gr_bestLog_79 rfl (lv_at hl 2 rfl) ?_
            refine gx_iret X.1 X.2.1 hr hlk hP hS d_Gr_bestLog_80 ?_
            refine ⟨rfl, ?_⟩
            have hb : ab_best a gi = 2 := by
              clear hP hS hl X S hr hlk hK hN hJ hx hw hrp0 hrp1 hrp2
              unfold ab_best
              grind
            rw [hb]
      · skip
        refine lv_aload_n X.1 X.2.1 d_Gr_bestLog_31 rfl (lv_at hl 4 rfl) ?_
        refine gg_Gr_9 (by omega) X hP d_Gr_bestLog_32 ?_
        refine lv_iload X.1 X.2.1 d_Gr_bestLog_35 (lv_at hl 0 rfl) ?_
        refine gr_nRs (by omega) (by omega) X hP d_Gr_bestLog_37 ?_
        refine gg_Gr_45 (by omega) (by omega) X hP d_Gr_bestLog_38 ?_
        rw [hrp1.2.1]
        refine lv_iload_n X.1 X.2.1 d_Gr_bestLog_41 rfl (lv_at hl 3 rfl) ?_
        refine gx_icmp_ne X.1 X.2.1 (tgt := 73) d_Gr_bestLog_42 (by decide) (by omega) (by omega) (fun h42_1 => ?_) (fun h42_1 => ?_)
        · skip
          have gd1 : ab_good a gi 1 = false := by unfold ab_good; simp; intro _; exact h42_1
          refine lv_iinc (k := 0) (v := nI (2)) X.1 X.2.1 d_Gr_bestLog_73 hl rfl (by decide) (by decide) rfl (fun ls hl => ?_)
          have hl : lv_has ls 5 [(4, .int (nI 2)), (3, .int (-1)), (2, .int (nI 0)), (1, .int (nI (ab_top a gi))), (0, .ref (ad (nGr gi)))] := hl
          refine lv_goto (tgt := 12) X.1 X.2.1 d_Gr_bestLog_76 (by decide) ?_
          refine lv_iload X.1 X.2.1 d_Gr_bestLog_12 (lv_at hl 0 rfl) ?_
          refine lv_iconst (v := nI 3) X.1 X.2.1 d_Gr_bestLog_14 (by decide) ?_
          refine gx_icmp_ge X.1 X.2.1 (tgt := 79) d_Gr_bestLog_15 (by decide) (by omega) (by omega) (fun h15 => absurd h15 (by decide)) (fun h15 => ?_)
          refine lv_aload_n X.1 X.2.1 d_Gr_bestLog_18 rfl (lv_at hl 4 rfl) ?_
          refine gg_Gr_9 (by omega) X hP d_Gr_bestLog_19 ?_
          refine lv_iload X.1 X.2.1 d_Gr_bestLog_22 (lv_at hl 0 rfl) ?_
          refine gr_nRs (by omega) (by omega) X hP d_Gr_bestLog_24 ?_
          refine gg_Gr_15 (by omega) (by omega) X hP d_Gr_bestLog_25 ?_
          rw [hrp2.1]
          refine gx_if_eq X.1 X.2.1 (tgt := 73) d_Gr_bestLog_28 (by decide) (by omega) (fun h28_2 => ?_) (fun h28_2 => ?_)
          · skip
            have gd2 : ab_good a gi 2 = false := by unfold ab_good; rw [xb_zero.mp h28_2]; rfl
            refine lv_iinc (k := 0) (v := nI (3)) X.1 X.2.1 d_Gr_bestLog_73 hl rfl (by decide) (by decide) rfl (fun ls hl => ?_)
            have hl : lv_has ls 5 [(4, .int (nI 3)), (3, .int (-1)), (2, .int (nI 0)), (1, .int (nI (ab_top a gi))), (0, .ref (ad (nGr gi)))] := hl
            refine lv_goto (tgt := 12) X.1 X.2.1 d_Gr_bestLog_76 (by decide) ?_
            refine lv_iload X.1 X.2.1 d_Gr_bestLog_12 (lv_at hl 0 rfl) ?_
            refine lv_iconst (v := nI 3) X.1 X.2.1 d_Gr_bestLog_14 (by decide) ?_
            refine gx_icmp_ge X.1 X.2.1 (tgt := 79) d_Gr_bestLog_15 (by decide) (by omega) (by omega) (fun h15 => ?_) (fun h15 => absurd h15 (by decide))
            refine lv_iload_n X.1 X.2.1 d_Gr_bestLog_79 rfl (lv_at hl 2 rfl) ?_
            refine gx_iret X.1 X.2.1 hr hlk hP hS d_Gr_bestLog_80 ?_
            refine ⟨rfl, ?_⟩
            have hb : ab_best a gi = 0 := by
              clear hP hS hl X S hr hlk hK hN hJ hx hw hrp0 hrp1 hrp2
              unfold ab_best
              grind
            rw [hb]
          · skip
            refine lv_aload_n X.1 X.2.1 d_Gr_bestLog_31 rfl (lv_at hl 4 rfl) ?_
            refine gg_Gr_9 (by omega) X hP d_Gr_bestLog_32 ?_
            refine lv_iload X.1 X.2.1 d_Gr_bestLog_35 (lv_at hl 0 rfl) ?_
            refine gr_nRs (by omega) (by omega) X hP d_Gr_bestLog_37 ?_
            refine gg_Gr_45 (by omega) (by omega) X hP d_Gr_bestLog_38 ?_
            rw [hrp2.2.1]
            refine lv_iload_n X.1 X.2.1 d_Gr_bestLog_41 rfl (lv_at hl 3 rfl) ?_
            refine gx_icmp_ne X.1 X.2.1 (tgt := 73) d_Gr_bestLog_42 (by decide) (by omega) (by omega) (fun h42_2 => ?_) (fun h42_2 => ?_)
            · skip
              have gd2 : ab_good a gi 2 = false := by unfold ab_good; simp; intro _; exact h42_2
              refine lv_iinc (k := 0) (v := nI (3)) X.1 X.2.1 d_Gr_bestLog_73 hl rfl (by decide) (by decide) rfl (fun ls hl => ?_)
              have hl : lv_has ls 5 [(4, .int (nI 3)), (3, .int (-1)), (2, .int (nI 0)), (1, .int (nI (ab_top a gi))), (0, .ref (ad (nGr gi)))] := hl
              refine lv_goto (tgt := 12) X.1 X.2.1 d_Gr_bestLog_76 (by decide) ?_
              refine lv_iload X.1 X.2.1 d_Gr_bestLog_12 (lv_at hl 0 rfl) ?_
              refine lv_iconst (v := nI 3) X.1 X.2.1 d_Gr_bestLog_14 (by decide) ?_
              refine gx_icmp_ge X.1 X.2.1 (tgt := 79) d_Gr_bestLog_15 (by decide) (by omega) (by omega) (fun h15 => ?_) (fun h15 => absurd h15 (by decide))
              refine lv_iload_n X.1 X.2.1 d_Gr_bestLog_79 rfl (lv_at hl 2 rfl) ?_
              refine gx_iret X.1 X.2.1 hr hlk hP hS d_Gr_bestLog_80 ?_
              refine ⟨rfl, ?_⟩
              have hb : ab_best a gi = 0 := by
                clear hP hS hl X S hr hlk hK hN hJ hx hw hrp0 hrp1 hrp2
                unfold ab_best
                grind
              rw [hb]
            · skip
              have gd2 : ab_good a gi 2 = true := by unfold ab_good; rw [xb_one.mp (show xb (ab_up a gi 2) = 1 by omega), h42_2]; simp
              refine lv_aload_n X.1 X.2.1 d_Gr_bestLog_45 rfl (lv_at hl 4 rfl) ?_
              refine gg_Gr_9 (by omega) X hP d_Gr_bestLog_46 ?_
              refine lv_iload X.1 X.2.1 d_Gr_bestLog_49 (lv_at hl 0 rfl) ?_
              refine gr_nRs (by omega) (by omega) X hP d_Gr_bestLog_51 ?_
              refine gg_Gr_34 (by omega) (by omega) X hP d_Gr_bestLog_52 ?_
              rw [hrp2.2.2.1]
              refine lv_iload_n X.1 X.2.1 d_Gr_bestLog_55 rfl (lv_at hl 1 rfl) ?_
              refine lv_icmp_le X.1 X.2.1 (tgt := 73) d_Gr_bestLog_56 (by decide) (fun h56_2 => absurd h56_2 (by rw [gi_nle (by omega)]; show ¬ ((_ : Int) ≤ -1); omega)) (fun h56_2 => ?_)
              refine lv_iload X.1 X.2.1 d_Gr_bestLog_59 (lv_at hl 0 rfl) ?_
              refine lv_istore_n X.1 X.2.1 d_Gr_bestLog_61 rfl hl (by decide) rfl (fun ls hl => ?_)
              have hl : lv_has ls 5 [(2, .int (nI 2)), (4, .int (nI 2)), (3, .int (-1)), (1, .int (nI (ab_top a gi))), (0, .ref (ad (nGr gi)))] := hl
              refine lv_aload_n X.1 X.2.1 d_Gr_bestLog_62 rfl (lv_at hl 4 rfl) ?_
              refine gg_Gr_9 (by omega) X hP d_Gr_bestLog_63 ?_
              refine lv_iload X.1 X.2.1 d_Gr_bestLog_66 (lv_at hl 1 rfl) ?_
              refine gr_nRs (by omega) (by omega) X hP d_Gr_bestLog_68 ?_
              refine gg_Gr_34 (by omega) (by omega) X hP d_Gr_bestLog_69 ?_
              rw [hrp2.2.2.1]
              refine lv_istore_n X.1 X.2.1 d_Gr_bestLog_72 rfl hl (by decide) rfl (fun ls hl => ?_)
              have hl : lv_has ls 5 [(3, .int (nI ((ab_lg a gi 2).length))), (2, .int (nI 2)), (4, .int (nI 2)), (1, .int (nI (ab_top a gi))), (0, .ref (ad (nGr gi)))] := hl
              refine lv_iinc (k := 2) (v := nI (3)) X.1 X.2.1 d_Gr_bestLog_73 hl rfl (by decide) (by decide) rfl (fun ls hl => ?_)
              have hl : lv_has ls 5 [(4, .int (nI 3)), (3, .int (nI ((ab_lg a gi 2).length))), (2, .int (nI 2)), (1, .int (nI (ab_top a gi))), (0, .ref (ad (nGr gi)))] := hl
              refine lv_goto (tgt := 12) X.1 X.2.1 d_Gr_bestLog_76 (by decide) ?_
              refine lv_iload X.1 X.2.1 d_Gr_bestLog_12 (lv_at hl 0 rfl) ?_
              refine lv_iconst (v := nI 3) X.1 X.2.1 d_Gr_bestLog_14 (by decide) ?_
              refine gx_icmp_ge X.1 X.2.1 (tgt := 79) d_Gr_bestLog_15 (by decide) (by omega) (by omega) (fun h15 => ?_) (fun h15 => absurd h15 (by decide))
              refine lv_iload_n X.1 X.2.1 d_Gr_bestLog_79 rfl (lv_at hl 2 rfl) ?_
              refine gx_iret X.1 X.2.1 hr hlk hP hS d_Gr_bestLog_80 ?_
              refine ⟨rfl, ?_⟩
              have hb : ab_best a gi = 2 := by
                clear hP hS hl X S hr hlk hK hN hJ hx hw hrp0 hrp1 hrp2
                unfold ab_best
                grind
              rw [hb]
        · skip
          have gd1 : ab_good a gi 1 = true := by unfold ab_good; rw [xb_one.mp (show xb (ab_up a gi 1) = 1 by omega), h42_1]; simp
          refine lv_aload_n X.1 X.2.1 d_Gr_bestLog_45 rfl (lv_at hl 4 rfl) ?_
          refine gg_Gr_9 (by omega) X hP d_Gr_bestLog_46 ?_
          refine lv_iload X.1 X.2.1 d_Gr_bestLog_49 (lv_at hl 0 rfl) ?_
          refine gr_nRs (by omega) (by omega) X hP d_Gr_bestLog_51 ?_
          refine gg_Gr_34 (by omega) (by omega) X hP d_Gr_bestLog_52 ?_
          rw [hrp1.2.2.1]
          refine lv_iload_n X.1 X.2.1 d_Gr_bestLog_55 rfl (lv_at hl 1 rfl) ?_
          refine lv_icmp_le X.1 X.2.1 (tgt := 73) d_Gr_bestLog_56 (by decide) (fun h56_1 => absurd h56_1 (by rw [gi_nle (by omega)]; show ¬ ((_ : Int) ≤ -1); omega)) (fun h56_1 => ?_)
          refine lv_iload X.1 X.2.1 d_Gr_bestLog_59 (lv_at hl 0 rfl) ?_
          refine lv_istore_n X.1 X.2.1 d_Gr_bestLog_61 rfl hl (by decide) rfl (fun ls hl => ?_)
          have hl : lv_has ls 5 [(2, .int (nI 1)), (4, .int (nI 1)), (3, .int (-1)), (1, .int (nI (ab_top a gi))), (0, .ref (ad (nGr gi)))] := hl
          refine lv_aload_n X.1 X.2.1 d_Gr_bestLog_62 rfl (lv_at hl 4 rfl) ?_
          refine gg_Gr_9 (by omega) X hP d_Gr_bestLog_63 ?_
          refine lv_iload X.1 X.2.1 d_Gr_bestLog_66 (lv_at hl 1 rfl) ?_
          refine gr_nRs (by omega) (by omega) X hP d_Gr_bestLog_68 ?_
          refine gg_Gr_34 (by omega) (by omega) X hP d_Gr_bestLog_69 ?_
          rw [hrp1.2.2.1]
          refine lv_istore_n X.1 X.2.1 d_Gr_bestLog_72 rfl hl (by decide) rfl (fun ls hl => ?_)
          have hl : lv_has ls 5 [(3, .int (nI ((ab_lg a gi 1).length))), (2, .int (nI 1)), (4, .int (nI 1)), (1, .int (nI (ab_top a gi))), (0, .ref (ad (nGr gi)))] := hl
          refine lv_iinc (k := 2) (v := nI (2)) X.1 X.2.1 d_Gr_bestLog_73 hl rfl (by decide) (by decide) rfl (fun ls hl => ?_)
          have hl : lv_has ls 5 [(4, .int (nI 2)), (3, .int (nI ((ab_lg a gi 1).length))), (2, .int (nI 1)), (1, .int (nI (ab_top a gi))), (0, .ref (ad (nGr gi)))] := hl
          refine lv_goto (tgt := 12) X.1 X.2.1 d_Gr_bestLog_76 (by decide) ?_
          refine lv_iload X.1 X.2.1 d_Gr_bestLog_12 (lv_at hl 0 rfl) ?_
          refine lv_iconst (v := nI 3) X.1 X.2.1 d_Gr_bestLog_14 (by decide) ?_
          refine gx_icmp_ge X.1 X.2.1 (tgt := 79) d_Gr_bestLog_15 (by decide) (by omega) (by omega) (fun h15 => absurd h15 (by decide)) (fun h15 => ?_)
          refine lv_aload_n X.1 X.2.1 d_Gr_bestLog_18 rfl (lv_at hl 4 rfl) ?_
          refine gg_Gr_9 (by omega) X hP d_Gr_bestLog_19 ?_
          refine lv_iload X.1 X.2.1 d_Gr_bestLog_22 (lv_at hl 0 rfl) ?_
          refine gr_nRs (by omega) (by omega) X hP d_Gr_bestLog_24 ?_
          refine gg_Gr_15 (by omega) (by omega) X hP d_Gr_bestLog_25 ?_
          rw [hrp2.1]
          refine gx_if_eq X.1 X.2.1 (tgt := 73) d_Gr_bestLog_28 (by decide) (by omega) (fun h28_2 => ?_) (fun h28_2 => ?_)
          · skip
            have gd2 : ab_good a gi 2 = false := by unfold ab_good; rw [xb_zero.mp h28_2]; rfl
            refine lv_iinc (k := 0) (v := nI (3)) X.1 X.2.1 d_Gr_bestLog_73 hl rfl (by decide) (by decide) rfl (fun ls hl => ?_)
            have hl : lv_has ls 5 [(4, .int (nI 3)), (3, .int (nI ((ab_lg a gi 1).length))), (2, .int (nI 1)), (1, .int (nI (ab_top a gi))), (0, .ref (ad (nGr gi)))] := hl
            refine lv_goto (tgt := 12) X.1 X.2.1 d_Gr_bestLog_76 (by decide) ?_
            refine lv_iload X.1 X.2.1 d_Gr_bestLog_12 (lv_at hl 0 rfl) ?_
            refine lv_iconst (v := nI 3) X.1 X.2.1 d_Gr_bestLog_14 (by decide) ?_
            refine gx_icmp_ge X.1 X.2.1 (tgt := 79) d_Gr_bestLog_15 (by decide) (by omega) (by omega) (fun h15 => ?_) (fun h15 => absurd h15 (by decide))
            refine lv_iload_n X.1 X.2.1 d_Gr_bestLog_79 rfl (lv_at hl 2 rfl) ?_
            refine gx_iret X.1 X.2.1 hr hlk hP hS d_Gr_bestLog_80 ?_
            refine ⟨rfl, ?_⟩
            have hb : ab_best a gi = 1 := by
              clear hP hS hl X S hr hlk hK hN hJ hx hw hrp0 hrp1 hrp2
              unfold ab_best
              grind
            rw [hb]
          · skip
            refine lv_aload_n X.1 X.2.1 d_Gr_bestLog_31 rfl (lv_at hl 4 rfl) ?_
            refine gg_Gr_9 (by omega) X hP d_Gr_bestLog_32 ?_
            refine lv_iload X.1 X.2.1 d_Gr_bestLog_35 (lv_at hl 0 rfl) ?_
            refine gr_nRs (by omega) (by omega) X hP d_Gr_bestLog_37 ?_
            refine gg_Gr_45 (by omega) (by omega) X hP d_Gr_bestLog_38 ?_
            rw [hrp2.2.1]
            refine lv_iload_n X.1 X.2.1 d_Gr_bestLog_41 rfl (lv_at hl 3 rfl) ?_
            refine gx_icmp_ne X.1 X.2.1 (tgt := 73) d_Gr_bestLog_42 (by decide) (by omega) (by omega) (fun h42_2 => ?_) (fun h42_2 => ?_)
            · skip
              have gd2 : ab_good a gi 2 = false := by unfold ab_good; simp; intro _; exact h42_2
              refine lv_iinc (k := 0) (v := nI (3)) X.1 X.2.1 d_Gr_bestLog_73 hl rfl (by decide) (by decide) rfl (fun ls hl => ?_)
              have hl : lv_has ls 5 [(4, .int (nI 3)), (3, .int (nI ((ab_lg a gi 1).length))), (2, .int (nI 1)), (1, .int (nI (ab_top a gi))), (0, .ref (ad (nGr gi)))] := hl
              refine lv_goto (tgt := 12) X.1 X.2.1 d_Gr_bestLog_76 (by decide) ?_
              refine lv_iload X.1 X.2.1 d_Gr_bestLog_12 (lv_at hl 0 rfl) ?_
              refine lv_iconst (v := nI 3) X.1 X.2.1 d_Gr_bestLog_14 (by decide) ?_
              refine gx_icmp_ge X.1 X.2.1 (tgt := 79) d_Gr_bestLog_15 (by decide) (by omega) (by omega) (fun h15 => ?_) (fun h15 => absurd h15 (by decide))
              refine lv_iload_n X.1 X.2.1 d_Gr_bestLog_79 rfl (lv_at hl 2 rfl) ?_
              refine gx_iret X.1 X.2.1 hr hlk hP hS d_Gr_bestLog_80 ?_
              refine ⟨rfl, ?_⟩
              have hb : ab_best a gi = 1 := by
                clear hP hS hl X S hr hlk hK hN hJ hx hw hrp0 hrp1 hrp2
                unfold ab_best
                grind
              rw [hb]
            · skip
              have gd2 : ab_good a gi 2 = true := by unfold ab_good; rw [xb_one.mp (show xb (ab_up a gi 2) = 1 by omega), h42_2]; simp
              refine lv_aload_n X.1 X.2.1 d_Gr_bestLog_45 rfl (lv_at hl 4 rfl) ?_
              refine gg_Gr_9 (by omega) X hP d_Gr_bestLog_46 ?_
              refine lv_iload X.1 X.2.1 d_Gr_bestLog_49 (lv_at hl 0 rfl) ?_
              refine gr_nRs (by omega) (by omega) X hP d_Gr_bestLog_51 ?_
              refine gg_Gr_34 (by omega) (by omega) X hP d_Gr_bestLog_52 ?_
              rw [hrp2.2.2.1]
              refine lv_iload_n X.1 X.2.1 d_Gr_bestLog_55 rfl (lv_at hl 1 rfl) ?_
              refine gx_icmp_le X.1 X.2.1 (tgt := 73) d_Gr_bestLog_56 (by decide) (by omega) (by omega) (fun h56_2 => ?_) (fun h56_2 => ?_)
              · skip
                refine lv_iinc (k := 0) (v := nI (3)) X.1 X.2.1 d_Gr_bestLog_73 hl rfl (by decide) (by decide) rfl (fun ls hl => ?_)
                have hl : lv_has ls 5 [(4, .int (nI 3)), (3, .int (nI ((ab_lg a gi 1).length))), (2, .int (nI 1)), (1, .int (nI (ab_top a gi))), (0, .ref (ad (nGr gi)))] := hl
                refine lv_goto (tgt := 12) X.1 X.2.1 d_Gr_bestLog_76 (by decide) ?_
                refine lv_iload X.1 X.2.1 d_Gr_bestLog_12 (lv_at hl 0 rfl) ?_
                refine lv_iconst (v := nI 3) X.1 X.2.1 d_Gr_bestLog_14 (by decide) ?_
                refine gx_icmp_ge X.1 X.2.1 (tgt := 79) d_Gr_bestLog_15 (by decide) (by omega) (by omega) (fun h15 => ?_) (fun h15 => absurd h15 (by decide))
                refine lv_iload_n X.1 X.2.1 d_Gr_bestLog_79 rfl (lv_at hl 2 rfl) ?_
                refine gx_iret X.1 X.2.1 hr hlk hP hS d_Gr_bestLog_80 ?_
                refine ⟨rfl, ?_⟩
                have hb : ab_best a gi = 1 := by
                  clear hP hS hl X S hr hlk hK hN hJ hx hw hrp0 hrp1 hrp2
                  unfold ab_best
                  grind
                rw [hb]
              · skip
                refine lv_iload X.1 X.2.1 d_Gr_bestLog_59 (lv_at hl 0 rfl) ?_
                refine lv_istore_n X.1 X.2.1 d_Gr_bestLog_61 rfl hl (by decide) rfl (fun ls hl => ?_)
                have hl : lv_has ls 5 [(2, .int (nI 2)), (4, .int (nI 2)), (3, .int (nI ((ab_lg a gi 1).length))), (1, .int (nI (ab_top a gi))), (0, .ref (ad (nGr gi)))] := hl
                refine lv_aload_n X.1 X.2.1 d_Gr_bestLog_62 rfl (lv_at hl 4 rfl) ?_
                refine gg_Gr_9 (by omega) X hP d_Gr_bestLog_63 ?_
                refine lv_iload X.1 X.2.1 d_Gr_bestLog_66 (lv_at hl 1 rfl) ?_
                refine gr_nRs (by omega) (by omega) X hP d_Gr_bestLog_68 ?_
                refine gg_Gr_34 (by omega) (by omega) X hP d_Gr_bestLog_69 ?_
                rw [hrp2.2.2.1]
                refine lv_istore_n X.1 X.2.1 d_Gr_bestLog_72 rfl hl (by decide) rfl (fun ls hl => ?_)
                have hl : lv_has ls 5 [(3, .int (nI ((ab_lg a gi 2).length))), (2, .int (nI 2)), (4, .int (nI 2)), (1, .int (nI (ab_top a gi))), (0, .ref (ad (nGr gi)))] := hl
                refine lv_iinc (k := 2) (v := nI (3)) X.1 X.2.1 d_Gr_bestLog_73 hl rfl (by decide) (by decide) rfl (fun ls hl => ?_)
                have hl : lv_has ls 5 [(4, .int (nI 3)), (3, .int (nI ((ab_lg a gi 2).length))), (2, .int (nI 2)), (1, .int (nI (ab_top a gi))), (0, .ref (ad (nGr gi)))] := hl
                refine lv_goto (tgt := 12) X.1 X.2.1 d_Gr_bestLog_76 (by decide) ?_
                refine lv_iload X.1 X.2.1 d_Gr_bestLog_12 (lv_at hl 0 rfl) ?_
                refine lv_iconst (v := nI 3) X.1 X.2.1 d_Gr_bestLog_14 (by decide) ?_
                refine gx_icmp_ge X.1 X.2.1 (tgt := 79) d_Gr_bestLog_15 (by decide) (by omega) (by omega) (fun h15 => ?_) (fun h15 => absurd h15 (by decide))
                refine lv_iload_n X.1 X.2.1 d_Gr_bestLog_79 rfl (lv_at hl 2 rfl) ?_
                refine gx_iret X.1 X.2.1 hr hlk hP hS d_Gr_bestLog_80 ?_
                refine ⟨rfl, ?_⟩
                have hb : ab_best a gi = 2 := by
                  clear hP hS hl X S hr hlk hK hN hJ hx hw hrp0 hrp1 hrp2
                  unfold ab_best
                  grind
                rw [hb]
    · skip
      have gd0 : ab_good a gi 0 = true := by unfold ab_good; rw [xb_one.mp (show xb (ab_up a gi 0) = 1 by omega), h42_0]; simp
      refine lv_aload_n X.1 X.2.1 d_Gr_bestLog_45 rfl (lv_at hl 4 rfl) ?_
      refine gg_Gr_9 (by omega) X hP d_Gr_bestLog_46 ?_
      refine lv_iload X.1 X.2.1 d_Gr_bestLog_49 (lv_at hl 0 rfl) ?_
      refine gr_nRs (by omega) (by omega) X hP d_Gr_bestLog_51 ?_
      refine gg_Gr_34 (by omega) (by omega) X hP d_Gr_bestLog_52 ?_
      rw [hrp0.2.2.1]
      refine lv_iload_n X.1 X.2.1 d_Gr_bestLog_55 rfl (lv_at hl 1 rfl) ?_
      refine lv_icmp_le X.1 X.2.1 (tgt := 73) d_Gr_bestLog_56 (by decide) (fun h56_0 => absurd h56_0 (by rw [gi_nle (by omega)]; show ¬ ((_ : Int) ≤ -1); omega)) (fun h56_0 => ?_)
      refine lv_iload X.1 X.2.1 d_Gr_bestLog_59 (lv_at hl 0 rfl) ?_
      refine lv_istore_n X.1 X.2.1 d_Gr_bestLog_61 rfl hl (by decide) rfl (fun ls hl => ?_)
      have hl : lv_has ls 5 [(2, .int (nI 0)), (4, .int (nI 0)), (3, .int (-1)), (1, .int (nI (ab_top a gi))), (0, .ref (ad (nGr gi)))] := hl
      refine lv_aload_n X.1 X.2.1 d_Gr_bestLog_62 rfl (lv_at hl 4 rfl) ?_
      refine gg_Gr_9 (by omega) X hP d_Gr_bestLog_63 ?_
      refine lv_iload X.1 X.2.1 d_Gr_bestLog_66 (lv_at hl 1 rfl) ?_
      refine gr_nRs (by omega) (by omega) X hP d_Gr_bestLog_68 ?_
      refine gg_Gr_34 (by omega) (by omega) X hP d_Gr_bestLog_69 ?_
      rw [hrp0.2.2.1]
      refine lv_istore_n X.1 X.2.1 d_Gr_bestLog_72 rfl hl (by decide) rfl (fun ls hl => ?_)
      have hl : lv_has ls 5 [(3, .int (nI ((ab_lg a gi 0).length))), (2, .int (nI 0)), (4, .int (nI 0)), (1, .int (nI (ab_top a gi))), (0, .ref (ad (nGr gi)))] := hl
      refine lv_iinc (k := 2) (v := nI (1)) X.1 X.2.1 d_Gr_bestLog_73 hl rfl (by decide) (by decide) rfl (fun ls hl => ?_)
      have hl : lv_has ls 5 [(4, .int (nI 1)), (3, .int (nI ((ab_lg a gi 0).length))), (2, .int (nI 0)), (1, .int (nI (ab_top a gi))), (0, .ref (ad (nGr gi)))] := hl
      refine lv_goto (tgt := 12) X.1 X.2.1 d_Gr_bestLog_76 (by decide) ?_
      refine lv_iload X.1 X.2.1 d_Gr_bestLog_12 (lv_at hl 0 rfl) ?_
      refine lv_iconst (v := nI 3) X.1 X.2.1 d_Gr_bestLog_14 (by decide) ?_
      refine gx_icmp_ge X.1 X.2.1 (tgt := 79) d_Gr_bestLog_15 (by decide) (by omega) (by omega) (fun h15 => absurd h15 (by decide)) (fun h15 => ?_)
      refine lv_aload_n X.1 X.2.1 d_Gr_bestLog_18 rfl (lv_at hl 4 rfl) ?_
      refine gg_Gr_9 (by omega) X hP d_Gr_bestLog_19 ?_
      refine lv_iload X.1 X.2.1 d_Gr_bestLog_22 (lv_at hl 0 rfl) ?_
      refine gr_nRs (by omega) (by omega) X hP d_Gr_bestLog_24 ?_
      refine gg_Gr_15 (by omega) (by omega) X hP d_Gr_bestLog_25 ?_
      rw [hrp1.1]
      refine gx_if_eq X.1 X.2.1 (tgt := 73) d_Gr_bestLog_28 (by decide) (by omega) (fun h28_1 => ?_) (fun h28_1 => ?_)
      · skip
        have gd1 : ab_good a gi 1 = false := by unfold ab_good; rw [xb_zero.mp h28_1]; rfl
        refine lv_iinc (k := 0) (v := nI (2)) X.1 X.2.1 d_Gr_bestLog_73 hl rfl (by decide) (by decide) rfl (fun ls hl => ?_)
        have hl : lv_has ls 5 [(4, .int (nI 2)), (3, .int (nI ((ab_lg a gi 0).length))), (2, .int (nI 0)), (1, .int (nI (ab_top a gi))), (0, .ref (ad (nGr gi)))] := hl
        refine lv_goto (tgt := 12) X.1 X.2.1 d_Gr_bestLog_76 (by decide) ?_
        refine lv_iload X.1 X.2.1 d_Gr_bestLog_12 (lv_at hl 0 rfl) ?_
        refine lv_iconst (v := nI 3) X.1 X.2.1 d_Gr_bestLog_14 (by decide) ?_
        refine gx_icmp_ge X.1 X.2.1 (tgt := 79) d_Gr_bestLog_15 (by decide) (by omega) (by omega) (fun h15 => absurd h15 (by decide)) (fun h15 => ?_)
        refine lv_aload_n X.1 X.2.1 d_Gr_bestLog_18 rfl (lv_at hl 4 rfl) ?_
        refine gg_Gr_9 (by omega) X hP d_Gr_bestLog_19 ?_
        refine lv_iload X.1 X.2.1 d_Gr_bestLog_22 (lv_at hl 0 rfl) ?_
        refine gr_nRs (by omega) (by omega) X hP d_Gr_bestLog_24 ?_
        refine gg_Gr_15 (by omega) (by omega) X hP d_Gr_bestLog_25 ?_
        rw [hrp2.1]
        refine gx_if_eq X.1 X.2.1 (tgt := 73) d_Gr_bestLog_28 (by decide) (by omega) (fun h28_2 => ?_) (fun h28_2 => ?_)
        · skip
          have gd2 : ab_good a gi 2 = false := by unfold ab_good; rw [xb_zero.mp h28_2]; rfl
          refine lv_iinc (k := 0) (v := nI (3)) X.1 X.2.1 d_Gr_bestLog_73 hl rfl (by decide) (by decide) rfl (fun ls hl => ?_)
          have hl : lv_has ls 5 [(4, .int (nI 3)), (3, .int (nI ((ab_lg a gi 0).length))), (2, .int (nI 0)), (1, .int (nI (ab_top a gi))), (0, .ref (ad (nGr gi)))] := hl
          refine lv_goto (tgt := 12) X.1 X.2.1 d_Gr_bestLog_76 (by decide) ?_
          refine lv_iload X.1 X.2.1 d_Gr_bestLog_12 (lv_at hl 0 rfl) ?_
          refine lv_iconst (v := nI 3) X.1 X.2.1 d_Gr_bestLog_14 (by decide) ?_
          refine gx_icmp_ge X.1 X.2.1 (tgt := 79) d_Gr_bestLog_15 (by decide) (by omega) (by omega) (fun h15 => ?_) (fun h15 => absurd h15 (by decide))
          refine lv_iload_n X.1 X.2.1 d_Gr_bestLog_79 rfl (lv_at hl 2 rfl) ?_
          refine gx_iret X.1 X.2.1 hr hlk hP hS d_Gr_bestLog_80 ?_
          refine ⟨rfl, ?_⟩
          have hb : ab_best a gi = 0 := by
            clear hP hS hl X S hr hlk hK hN hJ hx hw hrp0 hrp1 hrp2
            unfold ab_best
            grind
          rw [hb]
        · skip
          refine lv_aload_n X.1 X.2.1 d_Gr_bestLog_31 rfl (lv_at hl 4 rfl) ?_
          refine gg_Gr_9 (by omega) X hP d_Gr_bestLog_32 ?_
          refine lv_iload X.1 X.2.1 d_Gr_bestLog_35 (lv_at hl 0 rfl) ?_
          refine gr_nRs (by omega) (by omega) X hP d_Gr_bestLog_37 ?_
          refine gg_Gr_45 (by omega) (by omega) X hP d_Gr_bestLog_38 ?_
          rw [hrp2.2.1]
          refine lv_iload_n X.1 X.2.1 d_Gr_bestLog_41 rfl (lv_at hl 3 rfl) ?_
          refine gx_icmp_ne X.1 X.2.1 (tgt := 73) d_Gr_bestLog_42 (by decide) (by omega) (by omega) (fun h42_2 => ?_) (fun h42_2 => ?_)
          · skip
            have gd2 : ab_good a gi 2 = false := by unfold ab_good; simp; intro _; exact h42_2
            refine lv_iinc (k := 0) (v := nI (3)) X.1 X.2.1 d_Gr_bestLog_73 hl rfl (by decide) (by decide) rfl (fun ls hl => ?_)
            have hl : lv_has ls 5 [(4, .int (nI 3)), (3, .int (nI ((ab_lg a gi 0).length))), (2, .int (nI 0)), (1, .int (nI (ab_top a gi))), (0, .ref (ad (nGr gi)))] := hl
            refine lv_goto (tgt := 12) X.1 X.2.1 d_Gr_bestLog_76 (by decide) ?_
            refine lv_iload X.1 X.2.1 d_Gr_bestLog_12 (lv_at hl 0 rfl) ?_
            refine lv_iconst (v := nI 3) X.1 X.2.1 d_Gr_bestLog_14 (by decide) ?_
            refine gx_icmp_ge X.1 X.2.1 (tgt := 79) d_Gr_bestLog_15 (by decide) (by omega) (by omega) (fun h15 => ?_) (fun h15 => absurd h15 (by decide))
            refine lv_iload_n X.1 X.2.1 d_Gr_bestLog_79 rfl (lv_at hl 2 rfl) ?_
            refine gx_iret X.1 X.2.1 hr hlk hP hS d_Gr_bestLog_80 ?_
            refine ⟨rfl, ?_⟩
            have hb : ab_best a gi = 0 := by
              clear hP hS hl X S hr hlk hK hN hJ hx hw hrp0 hrp1 hrp2
              unfold ab_best
              grind
            rw [hb]
          · skip
            have gd2 : ab_good a gi 2 = true := by unfold ab_good; rw [xb_one.mp (show xb (ab_up a gi 2) = 1 by omega), h42_2]; simp
            refine lv_aload_n X.1 X.2.1 d_Gr_bestLog_45 rfl (lv_at hl 4 rfl) ?_
            refine gg_Gr_9 (by omega) X hP d_Gr_bestLog_46 ?_
            refine lv_iload X.1 X.2.1 d_Gr_bestLog_49 (lv_at hl 0 rfl) ?_
            refine gr_nRs (by omega) (by omega) X hP d_Gr_bestLog_51 ?_
            refine gg_Gr_34 (by omega) (by omega) X hP d_Gr_bestLog_52 ?_
            rw [hrp2.2.2.1]
            refine lv_iload_n X.1 X.2.1 d_Gr_bestLog_55 rfl (lv_at hl 1 rfl) ?_
            refine gx_icmp_le X.1 X.2.1 (tgt := 73) d_Gr_bestLog_56 (by decide) (by omega) (by omega) (fun h56_2 => ?_) (fun h56_2 => ?_)
            · skip
              refine lv_iinc (k := 0) (v := nI (3)) X.1 X.2.1 d_Gr_bestLog_73 hl rfl (by decide) (by decide) rfl (fun ls hl => ?_)
              have hl : lv_has ls 5 [(4, .int (nI 3)), (3, .int (nI ((ab_lg a gi 0).length))), (2, .int (nI 0)), (1, .int (nI (ab_top a gi))), (0, .ref (ad (nGr gi)))] := hl
              refine lv_goto (tgt := 12) X.1 X.2.1 d_Gr_bestLog_76 (by decide) ?_
              refine lv_iload X.1 X.2.1 d_Gr_bestLog_12 (lv_at hl 0 rfl) ?_
              refine lv_iconst (v := nI 3) X.1 X.2.1 d_Gr_bestLog_14 (by decide) ?_
              refine gx_icmp_ge X.1 X.2.1 (tgt := 79) d_Gr_bestLog_15 (by decide) (by omega) (by omega) (fun h15 => ?_) (fun h15 => absurd h15 (by decide))
              refine lv_iload_n X.1 X.2.1 d_Gr_bestLog_79 rfl (lv_at hl 2 rfl) ?_
              refine gx_iret X.1 X.2.1 hr hlk hP hS d_Gr_bestLog_80 ?_
              refine ⟨rfl, ?_⟩
              have hb : ab_best a gi = 0 := by
                clear hP hS hl X S hr hlk hK hN hJ hx hw hrp0 hrp1 hrp2
                unfold ab_best
                grind
              rw [hb]
            · skip
              refine lv_iload X.1 X.2.1 d_Gr_bestLog_59 (lv_at hl 0 rfl) ?_
              refine lv_istore_n X.1 X.2.1 d_Gr_bestLog_61 rfl hl (by decide) rfl (fun ls hl => ?_)
              have hl : lv_has ls 5 [(2, .int (nI 2)), (4, .int (nI 2)), (3, .int (nI ((ab_lg a gi 0).length))), (1, .int (nI (ab_top a gi))), (0, .ref (ad (nGr gi)))] := hl
              refine lv_aload_n X.1 X.2.1 d_Gr_bestLog_62 rfl (lv_at hl 4 rfl) ?_
              refine gg_Gr_9 (by omega) X hP d_Gr_bestLog_63 ?_
              refine lv_iload X.1 X.2.1 d_Gr_bestLog_66 (lv_at hl 1 rfl) ?_
              refine gr_nRs (by omega) (by omega) X hP d_Gr_bestLog_68 ?_
              refine gg_Gr_34 (by omega) (by omega) X hP d_Gr_bestLog_69 ?_
              rw [hrp2.2.2.1]
              refine lv_istore_n X.1 X.2.1 d_Gr_bestLog_72 rfl hl (by decide) rfl (fun ls hl => ?_)
              have hl : lv_has ls 5 [(3, .int (nI ((ab_lg a gi 2).length))), (2, .int (nI 2)), (4, .int (nI 2)), (1, .int (nI (ab_top a gi))), (0, .ref (ad (nGr gi)))] := hl
              refine lv_iinc (k := 2) (v := nI (3)) X.1 X.2.1 d_Gr_bestLog_73 hl rfl (by decide) (by decide) rfl (fun ls hl => ?_)
              have hl : lv_has ls 5 [(4, .int (nI 3)), (3, .int (nI ((ab_lg a gi 2).length))), (2, .int (nI 2)), (1, .int (nI (ab_top a gi))), (0, .ref (ad (nGr gi)))] := hl
              refine lv_goto (tgt := 12) X.1 X.2.1 d_Gr_bestLog_76 (by decide) ?_
              refine lv_iload X.1 X.2.1 d_Gr_bestLog_12 (lv_at hl 0 rfl) ?_
              refine lv_iconst (v := nI 3) X.1 X.2.1 d_Gr_bestLog_14 (by decide) ?_
              refine gx_icmp_ge X.1 X.2.1 (tgt := 79) d_Gr_bestLog_15 (by decide) (by omega) (by omega) (fun h15 => ?_) (fun h15 => absurd h15 (by decide))
              refine lv_iload_n X.1 X.2.1 d_Gr_bestLog_79 rfl (lv_at hl 2 rfl) ?_
              refine gx_iret X.1 X.2.1 hr hlk hP hS d_Gr_bestLog_80 ?_
              refine ⟨rfl, ?_⟩
              have hb : ab_best a gi = 2 := by
                clear hP hS hl X S hr hlk hK hN hJ hx hw hrp0 hrp1 hrp2
                unfold ab_best
                grind
              rw [hb]
      · skip
        refine lv_aload_n X.1 X.2.1 d_Gr_bestLog_31 rfl (lv_at hl 4 rfl) ?_
        refine gg_Gr_9 (by omega) X hP d_Gr_bestLog_32 ?_
        refine lv_iload X.1 X.2.1 d_Gr_bestLog_35 (lv_at hl 0 rfl) ?_
        refine gr_nRs (by omega) (by omega) X hP d_Gr_bestLog_37 ?_
        refine gg_Gr_45 (by omega) (by omega) X hP d_Gr_bestLog_38 ?_
        rw [hrp1.2.1]
        refine lv_iload_n X.1 X.2.1 d_Gr_bestLog_41 rfl (lv_at hl 3 rfl) ?_
        refine gx_icmp_ne X.1 X.2.1 (tgt := 73) d_Gr_bestLog_42 (by decide) (by omega) (by omega) (fun h42_1 => ?_) (fun h42_1 => ?_)
        · skip
          have gd1 : ab_good a gi 1 = false := by unfold ab_good; simp; intro _; exact h42_1
          refine lv_iinc (k := 0) (v := nI (2)) X.1 X.2.1 d_Gr_bestLog_73 hl rfl (by decide) (by decide) rfl (fun ls hl => ?_)
          have hl : lv_has ls 5 [(4, .int (nI 2)), (3, .int (nI ((ab_lg a gi 0).length))), (2, .int (nI 0)), (1, .int (nI (ab_top a gi))), (0, .ref (ad (nGr gi)))] := hl
          refine lv_goto (tgt := 12) X.1 X.2.1 d_Gr_bestLog_76 (by decide) ?_
          refine lv_iload X.1 X.2.1 d_Gr_bestLog_12 (lv_at hl 0 rfl) ?_
          refine lv_iconst (v := nI 3) X.1 X.2.1 d_Gr_bestLog_14 (by decide) ?_
          refine gx_icmp_ge X.1 X.2.1 (tgt := 79) d_Gr_bestLog_15 (by decide) (by omega) (by omega) (fun h15 => absurd h15 (by decide)) (fun h15 => ?_)
          refine lv_aload_n X.1 X.2.1 d_Gr_bestLog_18 rfl (lv_at hl 4 rfl) ?_
          refine gg_Gr_9 (by omega) X hP d_Gr_bestLog_19 ?_
          refine lv_iload X.1 X.2.1 d_Gr_bestLog_22 (lv_at hl 0 rfl) ?_
          refine gr_nRs (by omega) (by omega) X hP d_Gr_bestLog_24 ?_
          refine gg_Gr_15 (by omega) (by omega) X hP d_Gr_bestLog_25 ?_
          rw [hrp2.1]
          refine gx_if_eq X.1 X.2.1 (tgt := 73) d_Gr_bestLog_28 (by decide) (by omega) (fun h28_2 => ?_) (fun h28_2 => ?_)
          · skip
            have gd2 : ab_good a gi 2 = false := by unfold ab_good; rw [xb_zero.mp h28_2]; rfl
            refine lv_iinc (k := 0) (v := nI (3)) X.1 X.2.1 d_Gr_bestLog_73 hl rfl (by decide) (by decide) rfl (fun ls hl => ?_)
            have hl : lv_has ls 5 [(4, .int (nI 3)), (3, .int (nI ((ab_lg a gi 0).length))), (2, .int (nI 0)), (1, .int (nI (ab_top a gi))), (0, .ref (ad (nGr gi)))] := hl
            refine lv_goto (tgt := 12) X.1 X.2.1 d_Gr_bestLog_76 (by decide) ?_
            refine lv_iload X.1 X.2.1 d_Gr_bestLog_12 (lv_at hl 0 rfl) ?_
            refine lv_iconst (v := nI 3) X.1 X.2.1 d_Gr_bestLog_14 (by decide) ?_
            refine gx_icmp_ge X.1 X.2.1 (tgt := 79) d_Gr_bestLog_15 (by decide) (by omega) (by omega) (fun h15 => ?_) (fun h15 => absurd h15 (by decide))
            refine lv_iload_n X.1 X.2.1 d_Gr_bestLog_79 rfl (lv_at hl 2 rfl) ?_
            refine gx_iret X.1 X.2.1 hr hlk hP hS d_Gr_bestLog_80 ?_
            refine ⟨rfl, ?_⟩
            have hb : ab_best a gi = 0 := by
              clear hP hS hl X S hr hlk hK hN hJ hx hw hrp0 hrp1 hrp2
              unfold ab_best
              grind
            rw [hb]
          · skip
            refine lv_aload_n X.1 X.2.1 d_Gr_bestLog_31 rfl (lv_at hl 4 rfl) ?_
            refine gg_Gr_9 (by omega) X hP d_Gr_bestLog_32 ?_
            refine lv_iload X.1 X.2.1 d_Gr_bestLog_35 (lv_at hl 0 rfl) ?_
            refine gr_nRs (by omega) (by omega) X hP d_Gr_bestLog_37 ?_
            refine gg_Gr_45 (by omega) (by omega) X hP d_Gr_bestLog_38 ?_
            rw [hrp2.2.1]
            refine lv_iload_n X.1 X.2.1 d_Gr_bestLog_41 rfl (lv_at hl 3 rfl) ?_
            refine gx_icmp_ne X.1 X.2.1 (tgt := 73) d_Gr_bestLog_42 (by decide) (by omega) (by omega) (fun h42_2 => ?_) (fun h42_2 => ?_)
            · skip
              have gd2 : ab_good a gi 2 = false := by unfold ab_good; simp; intro _; exact h42_2
              refine lv_iinc (k := 0) (v := nI (3)) X.1 X.2.1 d_Gr_bestLog_73 hl rfl (by decide) (by decide) rfl (fun ls hl => ?_)
              have hl : lv_has ls 5 [(4, .int (nI 3)), (3, .int (nI ((ab_lg a gi 0).length))), (2, .int (nI 0)), (1, .int (nI (ab_top a gi))), (0, .ref (ad (nGr gi)))] := hl
              refine lv_goto (tgt := 12) X.1 X.2.1 d_Gr_bestLog_76 (by decide) ?_
              refine lv_iload X.1 X.2.1 d_Gr_bestLog_12 (lv_at hl 0 rfl) ?_
              refine lv_iconst (v := nI 3) X.1 X.2.1 d_Gr_bestLog_14 (by decide) ?_
              refine gx_icmp_ge X.1 X.2.1 (tgt := 79) d_Gr_bestLog_15 (by decide) (by omega) (by omega) (fun h15 => ?_) (fun h15 => absurd h15 (by decide))
              refine lv_iload_n X.1 X.2.1 d_Gr_bestLog_79 rfl (lv_at hl 2 rfl) ?_
              refine gx_iret X.1 X.2.1 hr hlk hP hS d_Gr_bestLog_80 ?_
              refine ⟨rfl, ?_⟩
              have hb : ab_best a gi = 0 := by
                clear hP hS hl X S hr hlk hK hN hJ hx hw hrp0 hrp1 hrp2
                unfold ab_best
                grind
              rw [hb]
            · skip
              have gd2 : ab_good a gi 2 = true := by unfold ab_good; rw [xb_one.mp (show xb (ab_up a gi 2) = 1 by omega), h42_2]; simp
              refine lv_aload_n X.1 X.2.1 d_Gr_bestLog_45 rfl (lv_at hl 4 rfl) ?_
              refine gg_Gr_9 (by omega) X hP d_Gr_bestLog_46 ?_
              refine lv_iload X.1 X.2.1 d_Gr_bestLog_49 (lv_at hl 0 rfl) ?_
              refine gr_nRs (by omega) (by omega) X hP d_Gr_bestLog_51 ?_
              refine gg_Gr_34 (by omega) (by omega) X hP d_Gr_bestLog_52 ?_
              rw [hrp2.2.2.1]
              refine lv_iload_n X.1 X.2.1 d_Gr_bestLog_55 rfl (lv_at hl 1 rfl) ?_
              refine gx_icmp_le X.1 X.2.1 (tgt := 73) d_Gr_bestLog_56 (by decide) (by omega) (by omega) (fun h56_2 => ?_) (fun h56_2 => ?_)
              · skip
                refine lv_iinc (k := 0) (v := nI (3)) X.1 X.2.1 d_Gr_bestLog_73 hl rfl (by decide) (by decide) rfl (fun ls hl => ?_)
                have hl : lv_has ls 5 [(4, .int (nI 3)), (3, .int (nI ((ab_lg a gi 0).length))), (2, .int (nI 0)), (1, .int (nI (ab_top a gi))), (0, .ref (ad (nGr gi)))] := hl
                refine lv_goto (tgt := 12) X.1 X.2.1 d_Gr_bestLog_76 (by decide) ?_
                refine lv_iload X.1 X.2.1 d_Gr_bestLog_12 (lv_at hl 0 rfl) ?_
                refine lv_iconst (v := nI 3) X.1 X.2.1 d_Gr_bestLog_14 (by decide) ?_
                refine gx_icmp_ge X.1 X.2.1 (tgt := 79) d_Gr_bestLog_15 (by decide) (by omega) (by omega) (fun h15 => ?_) (fun h15 => absurd h15 (by decide))
                refine lv_iload_n X.1 X.2.1 d_Gr_bestLog_79 rfl (lv_at hl 2 rfl) ?_
                refine gx_iret X.1 X.2.1 hr hlk hP hS d_Gr_bestLog_80 ?_
                refine ⟨rfl, ?_⟩
                have hb : ab_best a gi = 0 := by
                  clear hP hS hl X S hr hlk hK hN hJ hx hw hrp0 hrp1 hrp2
                  unfold ab_best
                  grind
                rw [hb]
              · skip
                refine lv_iload X.1 X.2.1 d_Gr_bestLog_59 (lv_at hl 0 rfl) ?_
                refine lv_istore_n X.1 X.2.1 d_Gr_bestLog_61 rfl hl (by decide) rfl (fun ls hl => ?_)
                have hl : lv_has ls 5 [(2, .int (nI 2)), (4, .int (nI 2)), (3, .int (nI ((ab_lg a gi 0).length))), (1, .int (nI (ab_top a gi))), (0, .ref (ad (nGr gi)))] := hl
                refine lv_aload_n X.1 X.2.1 d_Gr_bestLog_62 rfl (lv_at hl 4 rfl) ?_
                refine gg_Gr_9 (by omega) X hP d_Gr_bestLog_63 ?_
                refine lv_iload X.1 X.2.1 d_Gr_bestLog_66 (lv_at hl 1 rfl) ?_
                refine gr_nRs (by omega) (by omega) X hP d_Gr_bestLog_68 ?_
                refine gg_Gr_34 (by omega) (by omega) X hP d_Gr_bestLog_69 ?_
                rw [hrp2.2.2.1]
                refine lv_istore_n X.1 X.2.1 d_Gr_bestLog_72 rfl hl (by decide) rfl (fun ls hl => ?_)
                have hl : lv_has ls 5 [(3, .int (nI ((ab_lg a gi 2).length))), (2, .int (nI 2)), (4, .int (nI 2)), (1, .int (nI (ab_top a gi))), (0, .ref (ad (nGr gi)))] := hl
                refine lv_iinc (k := 2) (v := nI (3)) X.1 X.2.1 d_Gr_bestLog_73 hl rfl (by decide) (by decide) rfl (fun ls hl => ?_)
                have hl : lv_has ls 5 [(4, .int (nI 3)), (3, .int (nI ((ab_lg a gi 2).length))), (2, .int (nI 2)), (1, .int (nI (ab_top a gi))), (0, .ref (ad (nGr gi)))] := hl
                refine lv_goto (tgt := 12) X.1 X.2.1 d_Gr_bestLog_76 (by decide) ?_
                refine lv_iload X.1 X.2.1 d_Gr_bestLog_12 (lv_at hl 0 rfl) ?_
                refine lv_iconst (v := nI 3) X.1 X.2.1 d_Gr_bestLog_14 (by decide) ?_
                refine gx_icmp_ge X.1 X.2.1 (tgt := 79) d_Gr_bestLog_15 (by decide) (by omega) (by omega) (fun h15 => ?_) (fun h15 => absurd h15 (by decide))
                refine lv_iload_n X.1 X.2.1 d_Gr_bestLog_79 rfl (lv_at hl 2 rfl) ?_
                refine gx_iret X.1 X.2.1 hr hlk hP hS d_Gr_bestLog_80 ?_
                refine ⟨rfl, ?_⟩
                have hb : ab_best a gi = 2 := by
                  clear hP hS hl X S hr hlk hK hN hJ hx hw hrp0 hrp1 hrp2
                  unfold ab_best
                  grind
                rw [hb]
        · skip
          have gd1 : ab_good a gi 1 = true := by unfold ab_good; rw [xb_one.mp (show xb (ab_up a gi 1) = 1 by omega), h42_1]; simp
          refine lv_aload_n X.1 X.2.1 d_Gr_bestLog_45 rfl (lv_at hl 4 rfl) ?_
          refine gg_Gr_9 (by omega) X hP d_Gr_bestLog_46 ?_
          refine lv_iload X.1 X.2.1 d_Gr_bestLog_49 (lv_at hl 0 rfl) ?_
          refine gr_nRs (by omega) (by omega) X hP d_Gr_bestLog_51 ?_
          refine gg_Gr_34 (by omega) (by omega) X hP d_Gr_bestLog_52 ?_
          rw [hrp1.2.2.1]
          refine lv_iload_n X.1 X.2.1 d_Gr_bestLog_55 rfl (lv_at hl 1 rfl) ?_
          refine gx_icmp_le X.1 X.2.1 (tgt := 73) d_Gr_bestLog_56 (by decide) (by omega) (by omega) (fun h56_1 => ?_) (fun h56_1 => ?_)
          · skip
            refine lv_iinc (k := 0) (v := nI (2)) X.1 X.2.1 d_Gr_bestLog_73 hl rfl (by decide) (by decide) rfl (fun ls hl => ?_)
            have hl : lv_has ls 5 [(4, .int (nI 2)), (3, .int (nI ((ab_lg a gi 0).length))), (2, .int (nI 0)), (1, .int (nI (ab_top a gi))), (0, .ref (ad (nGr gi)))] := hl
            refine lv_goto (tgt := 12) X.1 X.2.1 d_Gr_bestLog_76 (by decide) ?_
            refine lv_iload X.1 X.2.1 d_Gr_bestLog_12 (lv_at hl 0 rfl) ?_
            refine lv_iconst (v := nI 3) X.1 X.2.1 d_Gr_bestLog_14 (by decide) ?_
            refine gx_icmp_ge X.1 X.2.1 (tgt := 79) d_Gr_bestLog_15 (by decide) (by omega) (by omega) (fun h15 => absurd h15 (by decide)) (fun h15 => ?_)
            refine lv_aload_n X.1 X.2.1 d_Gr_bestLog_18 rfl (lv_at hl 4 rfl) ?_
            refine gg_Gr_9 (by omega) X hP d_Gr_bestLog_19 ?_
            refine lv_iload X.1 X.2.1 d_Gr_bestLog_22 (lv_at hl 0 rfl) ?_
            refine gr_nRs (by omega) (by omega) X hP d_Gr_bestLog_24 ?_
            refine gg_Gr_15 (by omega) (by omega) X hP d_Gr_bestLog_25 ?_
            rw [hrp2.1]
            refine gx_if_eq X.1 X.2.1 (tgt := 73) d_Gr_bestLog_28 (by decide) (by omega) (fun h28_2 => ?_) (fun h28_2 => ?_)
            · skip
              have gd2 : ab_good a gi 2 = false := by unfold ab_good; rw [xb_zero.mp h28_2]; rfl
              refine lv_iinc (k := 0) (v := nI (3)) X.1 X.2.1 d_Gr_bestLog_73 hl rfl (by decide) (by decide) rfl (fun ls hl => ?_)
              have hl : lv_has ls 5 [(4, .int (nI 3)), (3, .int (nI ((ab_lg a gi 0).length))), (2, .int (nI 0)), (1, .int (nI (ab_top a gi))), (0, .ref (ad (nGr gi)))] := hl
              refine lv_goto (tgt := 12) X.1 X.2.1 d_Gr_bestLog_76 (by decide) ?_
              refine lv_iload X.1 X.2.1 d_Gr_bestLog_12 (lv_at hl 0 rfl) ?_
              refine lv_iconst (v := nI 3) X.1 X.2.1 d_Gr_bestLog_14 (by decide) ?_
              refine gx_icmp_ge X.1 X.2.1 (tgt := 79) d_Gr_bestLog_15 (by decide) (by omega) (by omega) (fun h15 => ?_) (fun h15 => absurd h15 (by decide))
              refine lv_iload_n X.1 X.2.1 d_Gr_bestLog_79 rfl (lv_at hl 2 rfl) ?_
              refine gx_iret X.1 X.2.1 hr hlk hP hS d_Gr_bestLog_80 ?_
              refine ⟨rfl, ?_⟩
              have hb : ab_best a gi = 0 := by
                clear hP hS hl X S hr hlk hK hN hJ hx hw hrp0 hrp1 hrp2
                unfold ab_best
                grind
              rw [hb]
            · skip
              refine lv_aload_n X.1 X.2.1 d_Gr_bestLog_31 rfl (lv_at hl 4 rfl) ?_
              refine gg_Gr_9 (by omega) X hP d_Gr_bestLog_32 ?_
              refine lv_iload X.1 X.2.1 d_Gr_bestLog_35 (lv_at hl 0 rfl) ?_
              refine gr_nRs (by omega) (by omega) X hP d_Gr_bestLog_37 ?_
              refine gg_Gr_45 (by omega) (by omega) X hP d_Gr_bestLog_38 ?_
              rw [hrp2.2.1]
              refine lv_iload_n X.1 X.2.1 d_Gr_bestLog_41 rfl (lv_at hl 3 rfl) ?_
              refine gx_icmp_ne X.1 X.2.1 (tgt := 73) d_Gr_bestLog_42 (by decide) (by omega) (by omega) (fun h42_2 => ?_) (fun h42_2 => ?_)
              · skip
                have gd2 : ab_good a gi 2 = false := by unfold ab_good; simp; intro _; exact h42_2
                refine lv_iinc (k := 0) (v := nI (3)) X.1 X.2.1 d_Gr_bestLog_73 hl rfl (by decide) (by decide) rfl (fun ls hl => ?_)
                have hl : lv_has ls 5 [(4, .int (nI 3)), (3, .int (nI ((ab_lg a gi 0).length))), (2, .int (nI 0)), (1, .int (nI (ab_top a gi))), (0, .ref (ad (nGr gi)))] := hl
                refine lv_goto (tgt := 12) X.1 X.2.1 d_Gr_bestLog_76 (by decide) ?_
                refine lv_iload X.1 X.2.1 d_Gr_bestLog_12 (lv_at hl 0 rfl) ?_
                refine lv_iconst (v := nI 3) X.1 X.2.1 d_Gr_bestLog_14 (by decide) ?_
                refine gx_icmp_ge X.1 X.2.1 (tgt := 79) d_Gr_bestLog_15 (by decide) (by omega) (by omega) (fun h15 => ?_) (fun h15 => absurd h15 (by decide))
                refine lv_iload_n X.1 X.2.1 d_Gr_bestLog_79 rfl (lv_at hl 2 rfl) ?_
                refine gx_iret X.1 X.2.1 hr hlk hP hS d_Gr_bestLog_80 ?_
                refine ⟨rfl, ?_⟩
                have hb : ab_best a gi = 0 := by
                  clear hP hS hl X S hr hlk hK hN hJ hx hw hrp0 hrp1 hrp2
                  unfold ab_best
                  grind
                rw [hb]
              · skip
                have gd2 : ab_good a gi 2 = true := by unfold ab_good; rw [xb_one.mp (show xb (ab_up a gi 2) = 1 by omega), h42_2]; simp
                refine lv_aload_n X.1 X.2.1 d_Gr_bestLog_45 rfl (lv_at hl 4 rfl) ?_
                refine gg_Gr_9 (by omega) X hP d_Gr_bestLog_46 ?_
                refine lv_iload X.1 X.2.1 d_Gr_bestLog_49 (lv_at hl 0 rfl) ?_
                refine gr_nRs (by omega) (by omega) X hP d_Gr_bestLog_51 ?_
                refine gg_Gr_34 (by omega) (by omega) X hP d_Gr_bestLog_52 ?_
                rw [hrp2.2.2.1]
                refine lv_iload_n X.1 X.2.1 d_Gr_bestLog_55 rfl (lv_at hl 1 rfl) ?_
                refine gx_icmp_le X.1 X.2.1 (tgt := 73) d_Gr_bestLog_56 (by decide) (by omega) (by omega) (fun h56_2 => ?_) (fun h56_2 => ?_)
                · skip
                  refine lv_iinc (k := 0) (v := nI (3)) X.1 X.2.1 d_Gr_bestLog_73 hl rfl (by decide) (by decide) rfl (fun ls hl => ?_)
                  have hl : lv_has ls 5 [(4, .int (nI 3)), (3, .int (nI ((ab_lg a gi 0).length))), (2, .int (nI 0)), (1, .int (nI (ab_top a gi))), (0, .ref (ad (nGr gi)))] := hl
                  refine lv_goto (tgt := 12) X.1 X.2.1 d_Gr_bestLog_76 (by decide) ?_
                  refine lv_iload X.1 X.2.1 d_Gr_bestLog_12 (lv_at hl 0 rfl) ?_
                  refine lv_iconst (v := nI 3) X.1 X.2.1 d_Gr_bestLog_14 (by decide) ?_
                  refine gx_icmp_ge X.1 X.2.1 (tgt := 79) d_Gr_bestLog_15 (by decide) (by omega) (by omega) (fun h15 => ?_) (fun h15 => absurd h15 (by decide))
                  refine lv_iload_n X.1 X.2.1 d_Gr_bestLog_79 rfl (lv_at hl 2 rfl) ?_
                  refine gx_iret X.1 X.2.1 hr hlk hP hS d_Gr_bestLog_80 ?_
                  refine ⟨rfl, ?_⟩
                  have hb : ab_best a gi = 0 := by
                    clear hP hS hl X S hr hlk hK hN hJ hx hw hrp0 hrp1 hrp2
                    unfold ab_best
                    grind
                  rw [hb]
                · skip
                  refine lv_iload X.1 X.2.1 d_Gr_bestLog_59 (lv_at hl 0 rfl) ?_
                  refine lv_istore_n X.1 X.2.1 d_Gr_bestLog_61 rfl hl (by decide) rfl (fun ls hl => ?_)
                  have hl : lv_has ls 5 [(2, .int (nI 2)), (4, .int (nI 2)), (3, .int (nI ((ab_lg a gi 0).length))), (1, .int (nI (ab_top a gi))), (0, .ref (ad (nGr gi)))] := hl
                  refine lv_aload_n X.1 X.2.1 d_Gr_bestLog_62 rfl (lv_at hl 4 rfl) ?_
                  refine gg_Gr_9 (by omega) X hP d_Gr_bestLog_63 ?_
                  refine lv_iload X.1 X.2.1 d_Gr_bestLog_66 (lv_at hl 1 rfl) ?_
                  refine gr_nRs (by omega) (by omega) X hP d_Gr_bestLog_68 ?_
                  refine gg_Gr_34 (by omega) (by omega) X hP d_Gr_bestLog_69 ?_
                  rw [hrp2.2.2.1]
                  refine lv_istore_n X.1 X.2.1 d_Gr_bestLog_72 rfl hl (by decide) rfl (fun ls hl => ?_)
                  have hl : lv_has ls 5 [(3, .int (nI ((ab_lg a gi 2).length))), (2, .int (nI 2)), (4, .int (nI 2)), (1, .int (nI (ab_top a gi))), (0, .ref (ad (nGr gi)))] := hl
                  refine lv_iinc (k := 2) (v := nI (3)) X.1 X.2.1 d_Gr_bestLog_73 hl rfl (by decide) (by decide) rfl (fun ls hl => ?_)
                  have hl : lv_has ls 5 [(4, .int (nI 3)), (3, .int (nI ((ab_lg a gi 2).length))), (2, .int (nI 2)), (1, .int (nI (ab_top a gi))), (0, .ref (ad (nGr gi)))] := hl
                  refine lv_goto (tgt := 12) X.1 X.2.1 d_Gr_bestLog_76 (by decide) ?_
                  refine lv_iload X.1 X.2.1 d_Gr_bestLog_12 (lv_at hl 0 rfl) ?_
                  refine lv_iconst (v := nI 3) X.1 X.2.1 d_Gr_bestLog_14 (by decide) ?_
                  refine gx_icmp_ge X.1 X.2.1 (tgt := 79) d_Gr_bestLog_15 (by decide) (by omega) (by omega) (fun h15 => ?_) (fun h15 => absurd h15 (by decide))
                  refine lv_iload_n X.1 X.2.1 d_Gr_bestLog_79 rfl (lv_at hl 2 rfl) ?_
                  refine gx_iret X.1 X.2.1 hr hlk hP hS d_Gr_bestLog_80 ?_
                  refine ⟨rfl, ?_⟩
                  have hb : ab_best a gi = 2 := by
                    clear hP hS hl X S hr hlk hK hN hJ hx hw hrp0 hrp1 hrp2
                    unfold ab_best
                    grind
                  rw [hb]
          · skip
            refine lv_iload X.1 X.2.1 d_Gr_bestLog_59 (lv_at hl 0 rfl) ?_
            refine lv_istore_n X.1 X.2.1 d_Gr_bestLog_61 rfl hl (by decide) rfl (fun ls hl => ?_)
            have hl : lv_has ls 5 [(2, .int (nI 1)), (4, .int (nI 1)), (3, .int (nI ((ab_lg a gi 0).length))), (1, .int (nI (ab_top a gi))), (0, .ref (ad (nGr gi)))] := hl
            refine lv_aload_n X.1 X.2.1 d_Gr_bestLog_62 rfl (lv_at hl 4 rfl) ?_
            refine gg_Gr_9 (by omega) X hP d_Gr_bestLog_63 ?_
            refine lv_iload X.1 X.2.1 d_Gr_bestLog_66 (lv_at hl 1 rfl) ?_
            refine gr_nRs (by omega) (by omega) X hP d_Gr_bestLog_68 ?_
            refine gg_Gr_34 (by omega) (by omega) X hP d_Gr_bestLog_69 ?_
            rw [hrp1.2.2.1]
            refine lv_istore_n X.1 X.2.1 d_Gr_bestLog_72 rfl hl (by decide) rfl (fun ls hl => ?_)
            have hl : lv_has ls 5 [(3, .int (nI ((ab_lg a gi 1).length))), (2, .int (nI 1)), (4, .int (nI 1)), (1, .int (nI (ab_top a gi))), (0, .ref (ad (nGr gi)))] := hl
            refine lv_iinc (k := 2) (v := nI (2)) X.1 X.2.1 d_Gr_bestLog_73 hl rfl (by decide) (by decide) rfl (fun ls hl => ?_)
            have hl : lv_has ls 5 [(4, .int (nI 2)), (3, .int (nI ((ab_lg a gi 1).length))), (2, .int (nI 1)), (1, .int (nI (ab_top a gi))), (0, .ref (ad (nGr gi)))] := hl
            refine lv_goto (tgt := 12) X.1 X.2.1 d_Gr_bestLog_76 (by decide) ?_
            refine lv_iload X.1 X.2.1 d_Gr_bestLog_12 (lv_at hl 0 rfl) ?_
            refine lv_iconst (v := nI 3) X.1 X.2.1 d_Gr_bestLog_14 (by decide) ?_
            refine gx_icmp_ge X.1 X.2.1 (tgt := 79) d_Gr_bestLog_15 (by decide) (by omega) (by omega) (fun h15 => absurd h15 (by decide)) (fun h15 => ?_)
            refine lv_aload_n X.1 X.2.1 d_Gr_bestLog_18 rfl (lv_at hl 4 rfl) ?_
            refine gg_Gr_9 (by omega) X hP d_Gr_bestLog_19 ?_
            refine lv_iload X.1 X.2.1 d_Gr_bestLog_22 (lv_at hl 0 rfl) ?_
            refine gr_nRs (by omega) (by omega) X hP d_Gr_bestLog_24 ?_
            refine gg_Gr_15 (by omega) (by omega) X hP d_Gr_bestLog_25 ?_
            rw [hrp2.1]
            refine gx_if_eq X.1 X.2.1 (tgt := 73) d_Gr_bestLog_28 (by decide) (by omega) (fun h28_2 => ?_) (fun h28_2 => ?_)
            · skip
              have gd2 : ab_good a gi 2 = false := by unfold ab_good; rw [xb_zero.mp h28_2]; rfl
              refine lv_iinc (k := 0) (v := nI (3)) X.1 X.2.1 d_Gr_bestLog_73 hl rfl (by decide) (by decide) rfl (fun ls hl => ?_)
              have hl : lv_has ls 5 [(4, .int (nI 3)), (3, .int (nI ((ab_lg a gi 1).length))), (2, .int (nI 1)), (1, .int (nI (ab_top a gi))), (0, .ref (ad (nGr gi)))] := hl
              refine lv_goto (tgt := 12) X.1 X.2.1 d_Gr_bestLog_76 (by decide) ?_
              refine lv_iload X.1 X.2.1 d_Gr_bestLog_12 (lv_at hl 0 rfl) ?_
              refine lv_iconst (v := nI 3) X.1 X.2.1 d_Gr_bestLog_14 (by decide) ?_
              refine gx_icmp_ge X.1 X.2.1 (tgt := 79) d_Gr_bestLog_15 (by decide) (by omega) (by omega) (fun h15 => ?_) (fun h15 => absurd h15 (by decide))
              refine lv_iload_n X.1 X.2.1 d_Gr_bestLog_79 rfl (lv_at hl 2 rfl) ?_
              refine gx_iret X.1 X.2.1 hr hlk hP hS d_Gr_bestLog_80 ?_
              refine ⟨rfl, ?_⟩
              have hb : ab_best a gi = 1 := by
                clear hP hS hl X S hr hlk hK hN hJ hx hw hrp0 hrp1 hrp2
                unfold ab_best
                grind
              rw [hb]
            · skip
              refine lv_aload_n X.1 X.2.1 d_Gr_bestLog_31 rfl (lv_at hl 4 rfl) ?_
              refine gg_Gr_9 (by omega) X hP d_Gr_bestLog_32 ?_
              refine lv_iload X.1 X.2.1 d_Gr_bestLog_35 (lv_at hl 0 rfl) ?_
              refine gr_nRs (by omega) (by omega) X hP d_Gr_bestLog_37 ?_
              refine gg_Gr_45 (by omega) (by omega) X hP d_Gr_bestLog_38 ?_
              rw [hrp2.2.1]
              refine lv_iload_n X.1 X.2.1 d_Gr_bestLog_41 rfl (lv_at hl 3 rfl) ?_
              refine gx_icmp_ne X.1 X.2.1 (tgt := 73) d_Gr_bestLog_42 (by decide) (by omega) (by omega) (fun h42_2 => ?_) (fun h42_2 => ?_)
              · skip
                have gd2 : ab_good a gi 2 = false := by unfold ab_good; simp; intro _; exact h42_2
                refine lv_iinc (k := 0) (v := nI (3)) X.1 X.2.1 d_Gr_bestLog_73 hl rfl (by decide) (by decide) rfl (fun ls hl => ?_)
                have hl : lv_has ls 5 [(4, .int (nI 3)), (3, .int (nI ((ab_lg a gi 1).length))), (2, .int (nI 1)), (1, .int (nI (ab_top a gi))), (0, .ref (ad (nGr gi)))] := hl
                refine lv_goto (tgt := 12) X.1 X.2.1 d_Gr_bestLog_76 (by decide) ?_
                refine lv_iload X.1 X.2.1 d_Gr_bestLog_12 (lv_at hl 0 rfl) ?_
                refine lv_iconst (v := nI 3) X.1 X.2.1 d_Gr_bestLog_14 (by decide) ?_
                refine gx_icmp_ge X.1 X.2.1 (tgt := 79) d_Gr_bestLog_15 (by decide) (by omega) (by omega) (fun h15 => ?_) (fun h15 => absurd h15 (by decide))
                refine lv_iload_n X.1 X.2.1 d_Gr_bestLog_79 rfl (lv_at hl 2 rfl) ?_
                refine gx_iret X.1 X.2.1 hr hlk hP hS d_Gr_bestLog_80 ?_
                refine ⟨rfl, ?_⟩
                have hb : ab_best a gi = 1 := by
                  clear hP hS hl X S hr hlk hK hN hJ hx hw hrp0 hrp1 hrp2
                  unfold ab_best
                  grind
                rw [hb]
              · skip
                have gd2 : ab_good a gi 2 = true := by unfold ab_good; rw [xb_one.mp (show xb (ab_up a gi 2) = 1 by omega), h42_2]; simp
                refine lv_aload_n X.1 X.2.1 d_Gr_bestLog_45 rfl (lv_at hl 4 rfl) ?_
                refine gg_Gr_9 (by omega) X hP d_Gr_bestLog_46 ?_
                refine lv_iload X.1 X.2.1 d_Gr_bestLog_49 (lv_at hl 0 rfl) ?_
                refine gr_nRs (by omega) (by omega) X hP d_Gr_bestLog_51 ?_
                refine gg_Gr_34 (by omega) (by omega) X hP d_Gr_bestLog_52 ?_
                rw [hrp2.2.2.1]
                refine lv_iload_n X.1 X.2.1 d_Gr_bestLog_55 rfl (lv_at hl 1 rfl) ?_
                refine gx_icmp_le X.1 X.2.1 (tgt := 73) d_Gr_bestLog_56 (by decide) (by omega) (by omega) (fun h56_2 => ?_) (fun h56_2 => ?_)
                · skip
                  refine lv_iinc (k := 0) (v := nI (3)) X.1 X.2.1 d_Gr_bestLog_73 hl rfl (by decide) (by decide) rfl (fun ls hl => ?_)
                  have hl : lv_has ls 5 [(4, .int (nI 3)), (3, .int (nI ((ab_lg a gi 1).length))), (2, .int (nI 1)), (1, .int (nI (ab_top a gi))), (0, .ref (ad (nGr gi)))] := hl
                  refine lv_goto (tgt := 12) X.1 X.2.1 d_Gr_bestLog_76 (by decide) ?_
                  refine lv_iload X.1 X.2.1 d_Gr_bestLog_12 (lv_at hl 0 rfl) ?_
                  refine lv_iconst (v := nI 3) X.1 X.2.1 d_Gr_bestLog_14 (by decide) ?_
                  refine gx_icmp_ge X.1 X.2.1 (tgt := 79) d_Gr_bestLog_15 (by decide) (by omega) (by omega) (fun h15 => ?_) (fun h15 => absurd h15 (by decide))
                  refine lv_iload_n X.1 X.2.1 d_Gr_bestLog_79 rfl (lv_at hl 2 rfl) ?_
                  refine gx_iret X.1 X.2.1 hr hlk hP hS d_Gr_bestLog_80 ?_
                  refine ⟨rfl, ?_⟩
                  have hb : ab_best a gi = 1 := by
                    clear hP hS hl X S hr hlk hK hN hJ hx hw hrp0 hrp1 hrp2
                    unfold ab_best
                    grind
                  rw [hb]
                · skip
                  refine lv_iload X.1 X.2.1 d_Gr_bestLog_59 (lv_at hl 0 rfl) ?_
                  refine lv_istore_n X.1 X.2.1 d_Gr_bestLog_61 rfl hl (by decide) rfl (fun ls hl => ?_)
                  have hl : lv_has ls 5 [(2, .int (nI 2)), (4, .int (nI 2)), (3, .int (nI ((ab_lg a gi 1).length))), (1, .int (nI (ab_top a gi))), (0, .ref (ad (nGr gi)))] := hl
                  refine lv_aload_n X.1 X.2.1 d_Gr_bestLog_62 rfl (lv_at hl 4 rfl) ?_
                  refine gg_Gr_9 (by omega) X hP d_Gr_bestLog_63 ?_
                  refine lv_iload X.1 X.2.1 d_Gr_bestLog_66 (lv_at hl 1 rfl) ?_
                  refine gr_nRs (by omega) (by omega) X hP d_Gr_bestLog_68 ?_
                  refine gg_Gr_34 (by omega) (by omega) X hP d_Gr_bestLog_69 ?_
                  rw [hrp2.2.2.1]
                  refine lv_istore_n X.1 X.2.1 d_Gr_bestLog_72 rfl hl (by decide) rfl (fun ls hl => ?_)
                  have hl : lv_has ls 5 [(3, .int (nI ((ab_lg a gi 2).length))), (2, .int (nI 2)), (4, .int (nI 2)), (1, .int (nI (ab_top a gi))), (0, .ref (ad (nGr gi)))] := hl
                  refine lv_iinc (k := 2) (v := nI (3)) X.1 X.2.1 d_Gr_bestLog_73 hl rfl (by decide) (by decide) rfl (fun ls hl => ?_)
                  have hl : lv_has ls 5 [(4, .int (nI 3)), (3, .int (nI ((ab_lg a gi 2).length))), (2, .int (nI 2)), (1, .int (nI (ab_top a gi))), (0, .ref (ad (nGr gi)))] := hl
                  refine lv_goto (tgt := 12) X.1 X.2.1 d_Gr_bestLog_76 (by decide) ?_
                  refine lv_iload X.1 X.2.1 d_Gr_bestLog_12 (lv_at hl 0 rfl) ?_
                  refine lv_iconst (v := nI 3) X.1 X.2.1 d_Gr_bestLog_14 (by decide) ?_
                  refine gx_icmp_ge X.1 X.2.1 (tgt := 79) d_Gr_bestLog_15 (by decide) (by omega) (by omega) (fun h15 => ?_) (fun h15 => absurd h15 (by decide))
                  refine lv_iload_n X.1 X.2.1 d_Gr_bestLog_79 rfl (lv_at hl 2 rfl) ?_
                  refine gx_iret X.1 X.2.1 hr hlk hP hS d_Gr_bestLog_80 ?_
                  refine ⟨rfl, ?_⟩
                  have hb : ab_best a gi = 2 := by
                    clear hP hS hl X S hr hlk hK hN hJ hx hw hrp0 hrp1 hrp2
                    unfold ab_best
                    grind
                  rw [hb]
