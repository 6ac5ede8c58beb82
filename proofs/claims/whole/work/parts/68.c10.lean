/-! contracts: the face of the system, one -/
set_option maxRecDepth 100000 in
set_option maxHeartbeats 4000000 in
theorem K_CG_opn (l : Launch) (dC : Nat → ClassId) (dI : Nat → Nat → Nat) (cx : Nat → ClassId) (ad : Nat → Nat) (hJ : gx_J gx_N ad (gx_A gx_N ad)) (σ : gx_M) (a : ab_S) (B : Nat) (I : ab_I B a) (hB : B + 3 < 2 ^ 30) (hx : xr σ a) : cg_Mi l dC dI cx ad y_CG_opn w_CG_opn 0 [.ref (ad 0)] σ (fun r σ' => r = Int32.ofInt (ab_open a).1 ∧ xr σ' (ab_open a).2 ∧ ∀ n, 224 ≤ n → σ' n = σ n) := by
  refine gx_ofW (cc := c_CG_opn) (maxL := 1) (ret := (Option.some Jvm.ClassFile.FieldType.int)) (by decide) rfl (Nat.le_of_ble_eq_true rfl) ?_
  intro p e s m below meth c ls S hr hlk hK hN hl hP
  have X : cg_X c_CG_opn "CommitGroups" 1 dC dI cx p m c s _ := ⟨S.1, S.2.1, S.2.2.2.1, fun w h => S.2.2.2.2 w (List.mem_cons_of_mem _ h), hK, hN, S.2.2.1⟩
  have hS : va_S (gx_A gx_N ad) s.heap s.heap [] := va_S.rf
  have hl : lv_has ls 1 [(0, .ref (ad 0))] := hl
  have hw := ab_W_of I (by omega)
  have hn : σ 0 5 = ab_n a := hx.1
  have hn20 := hw.1
  refine lv_aload_n X.1 X.2.1 d_CG_opn_0 rfl (lv_at hl 0 rfl) ?_
  refine gg_CG_41 X hP d_CG_opn_1 ?_
  rw [hn]
  refine lv_bipush (v := nI 20) X.1 X.2.1 d_CG_opn_4 (by decide) ?_
  refine gx_icmp_lt X.1 X.2.1 (tgt := 11) d_CG_opn_6 (by decide) (by omega) (by omega) (fun h6 => ?_) (fun h6 => ?_)
  · skip
    refine lv_aload_n X.1 X.2.1 d_CG_opn_11 rfl (lv_at hl 0 rfl) ?_
    refine lv_dup X.1 X.2.1 d_CG_opn_12 rfl ?_
    refine gg_CG_41 X hP d_CG_opn_13 ?_
    rw [hn]
    refine lv_iconst (v := nI 1) X.1 X.2.1 d_CG_opn_16 (by decide) ?_
    refine gx_iadd X.1 X.2.1 d_CG_opn_17 ?_
    refine gp_CG_41 X hJ hP hS d_CG_opn_18 (fun H locs hP hS => ?_)
    refine lv_aload_n X.1 X.2.1 d_CG_opn_21 rfl (lv_at hl 0 rfl) ?_
    refine gg_CG_41 X hP d_CG_opn_22 ?_
    rw [gx_w_self]
    refine gx_iret X.1 X.2.1 hr hlk hP hS d_CG_opn_25 ?_
    have e : ab_open a = (((ab_n a + 1 : Nat) : Int), ab_mk (ab_n a + 1) (ab_op a) (ab_cl a) (ab_up a) (ab_vi a) (ab_lg a) (ab_dn a) (ab_ha a) (ab_kv a) (ab_kd a) (ab_rs a)) := by unfold ab_open; exact if_neg (by omega)
    rw [e]
    exact ⟨rfl, xr_opn hx _, fun n hn => gx_w_row _ _ _ (by omega)⟩
  · skip
    refine lv_iconst (v := -1) X.1 X.2.1 d_CG_opn_9 (by decide) ?_
    refine gx_iret X.1 X.2.1 hr hlk hP hS d_CG_opn_10 ?_
    have e : ab_open a = (-1, a) := by unfold ab_open; exact if_pos (by omega)
    rw [e]
    exact ⟨rfl, hx, fun n _ => rfl⟩
set_option maxRecDepth 100000 in
set_option maxHeartbeats 4000000 in
theorem K_CG_touch (l : Launch) (dC : Nat → ClassId) (dI : Nat → Nat → Nat) (cx : Nat → ClassId) (ad : Nat → Nat) (hJ : gx_J gx_N ad (gx_A gx_N ad)) (σ : gx_M) (a : ab_S) (B : Nat) (tq kq yq : Int32) (v : Nat) (I : ab_I B a) (hB : B + 3 < 2 ^ 30) (hx : xr σ a) : cg_Mi l dC dI cx ad y_CG_touch w_CG_touch 2 [.ref (ad 0), .int tq, .int kq, .int yq, .int (nI v)] σ (fun r σ' => r = nI (xb (ab_touch a tq.toInt kq.toInt yq.toInt v).1) ∧ xr σ' (ab_touch a tq.toInt kq.toInt yq.toInt v).2 ∧ ∀ n, 224 ≤ n → σ' n = σ n) := by
  refine gx_ofW (cc := c_CG_touch) (maxL := 5) (ret := (Option.some Jvm.ClassFile.FieldType.boolean)) (by decide) rfl (Nat.le_of_ble_eq_true rfl) ?_
  intro p e s m below meth c ls S hr hlk hK hN hl hP
  have X : cg_X c_CG_touch "CommitGroups" 5 dC dI cx p m c s _ := ⟨S.1, S.2.1, S.2.2.2.1, fun w h => S.2.2.2.2 w (List.mem_cons_of_mem _ h), hK, hN, S.2.2.1⟩
  have hS : va_S (gx_A gx_N ad) s.heap s.heap [] := va_S.rf
  have hl : lv_has ls 5 [(0, .ref (ad 0)), (1, .int tq), (2, .int kq), (3, .int yq), (4, .int (nI v))] := hl
  have hw := ab_W_of I (by omega)
  have hn : σ 0 5 = ab_n a := hx.1
  have hn20 := hw.1
  refine lv_aload_n X.1 X.2.1 d_CG_touch_0 rfl (lv_at hl 0 rfl) ?_
  refine lv_iload_n X.1 X.2.1 d_CG_touch_1 rfl (lv_at hl 1 rfl) ?_
  refine cv_CG_57 (rest := []) X hJ hP hS (by decide) (ec_CG _) (K_CG_isTransaction l dC dI cx ad hJ σ tq (by omega)) rfl rfl (by decide) hl.1 (Nat.le_of_ble_eq_true rfl) ⟨Nat.le_refl _, Nat.le_refl _⟩ d_CG_touch_2 (fun r σ' H locs hq hP hS => ?_)
  obtain ⟨hq0, b2, rfl, hb2, hp2⟩ := hq
  rw [hq0] at hP
  rw [hn] at hp2
  refine gx_if_eq X.1 X.2.1 (tgt := 24) d_CG_touch_5 (by decide) (by omega) (fun h5 => ?_) (fun h5 => ?_)
  · skip
    refine lv_iconst (v := nI 0) X.1 X.2.1 d_CG_touch_24 (by decide) ?_
    refine gx_zret X.1 X.2.1 hr hlk hP hS d_CG_touch_25 (by decide) ?_
    rw [ab_touch_f (fun hh => by have := hp2.mpr ⟨hh.1.1, hh.1.2⟩; omega)]
    exact ⟨rfl, hx, fun n _ => rfl⟩
  · skip
    refine lv_iload_n X.1 X.2.1 d_CG_touch_8 rfl (lv_at hl 2 rfl) ?_
    refine lv_if_lt X.1 X.2.1 (tgt := 24) d_CG_touch_9 (by decide) (fun h9 => ?_) (fun h9 => ?_)
    · skip
      refine lv_iconst (v := nI 0) X.1 X.2.1 d_CG_touch_24 (by decide) ?_
      refine gx_zret X.1 X.2.1 hr hlk hP hS d_CG_touch_25 (by decide) ?_
      have h9 := gi_lt0.mp h9
      rw [ab_touch_f (fun hh => by have := hh.2.1; omega)]
      exact ⟨rfl, hx, fun n _ => rfl⟩
    · skip
      refine lv_iload_n X.1 X.2.1 d_CG_touch_12 rfl (lv_at hl 2 rfl) ?_
      refine lv_iconst (v := nI 2) X.1 X.2.1 d_CG_touch_13 (by decide) ?_
      refine lv_icmp_gt X.1 X.2.1 (tgt := 24) d_CG_touch_14 (by decide) (fun h14 => ?_) (fun h14 => ?_)
      · skip
        refine lv_iconst (v := nI 0) X.1 X.2.1 d_CG_touch_24 (by decide) ?_
        refine gx_zret X.1 X.2.1 hr hlk hP hS d_CG_touch_25 (by decide) ?_
        have h14 := (gi_nlt (by decide)).mp h14
        rw [ab_touch_f (fun hh => by have := hh.2.2.1; omega)]
        exact ⟨rfl, hx, fun n _ => rfl⟩
      · skip
        refine lv_iload_n X.1 X.2.1 d_CG_touch_17 rfl (lv_at hl 3 rfl) ?_
        refine cv_CG_61 (rest := []) X hJ hP hS (K_CG_isKey l dC dI cx ad hJ _ yq) rfl rfl (by decide) hl.1 (Nat.le_of_ble_eq_true rfl) ⟨Nat.le_refl _, Nat.le_refl _⟩ d_CG_touch_18 (fun r σ' H locs hq hP hS => ?_)
        obtain ⟨hq0, b18, rfl, hb18, hp18⟩ := hq
        rw [hq0] at hP
        refine gx_if_ne X.1 X.2.1 (tgt := 26) d_CG_touch_21 (by decide) (by omega) (fun h21 => ?_) (fun h21 => ?_)
        · skip
          have h9 := mt gi_lt0.mpr h9
          have h14 := mt (gi_nlt (by decide)).mpr h14
          have hh2 := hp2.mp (by omega)
          have hh18 := hp18.mp (by omega)
          obtain ⟨u, rfl, u1, u2, u3⟩ := gi_of (t := tq) (n := ab_n a) (by omega) (by omega)
          obtain ⟨k, rfl, k1, k2, k3⟩ := gi_of (t := kq) (n := 2) (by omega) (by omega)
          obtain ⟨y, rfl, y1, y2, y3⟩ := gi_of (t := yq) (n := 11) (by omega) (by omega)
          obtain ⟨t1, t2, t3, t4⟩ := hx.2.1 u (by omega)
          refine lv_aload_n X.1 X.2.1 d_CG_touch_26 rfl (lv_at hl 0 rfl) ?_
          refine gg_CG_12 X hP d_CG_touch_27 ?_
          refine lv_iload_n X.1 X.2.1 d_CG_touch_30 rfl (lv_at hl 1 rfl) ?_
          refine gr_bk (by omega) X hP d_CG_touch_31 ?_
          refine lv_iload_n X.1 X.2.1 d_CG_touch_32 rfl (lv_at hl 2 rfl) ?_
          refine lv_iload_n X.1 X.2.1 d_CG_touch_33 rfl (lv_at hl 3 rfl) ?_
          refine lv_iload X.1 X.2.1 d_CG_touch_34 (lv_at hl 4 rfl) ?_
          refine cv_CG_64 (rest := []) X hJ hP hS (nTx_lt (by omega)) (ec_nTx (by omega) _) (K_Tx_addOperation l dC dI cx ad hJ σ u k y v (by omega) (by omega) (by omega) (by rw [t1]; exact (hw.2.1 u).1) (by rw [t2]; exact xb_le _) (by rw [t4 y (by omega)]; exact pu_need_le _ _)) rfl rfl (by decide) hl.1 (Nat.le_of_ble_eq_true rfl) ⟨Nat.le_refl _, Nat.le_refl _⟩ d_CG_touch_36 (fun r σ' H locs hq hP hS => ?_)
          rcases hq with ⟨q1, rfl, hq0⟩ | ⟨q1, q2, rfl, hq0⟩
          · skip
            rw [hq0] at hP
            refine gx_zret X.1 X.2.1 hr hlk hP hS d_CG_touch_39 (by decide) ?_
            rw [ab_touch_f (fun hh => by
              rw [u3] at hh
              rcases q1 with q1 | q1
              · rw [t2, hh.2.2.2.2.2.1] at q1; exact absurd q1 (by decide)
              · rw [t1] at q1; omega)]
            exact ⟨rfl, hx, fun n _ => rfl⟩
          · skip
            rw [hq0] at hP
            refine gx_zret X.1 X.2.1 hr hlk hP hS d_CG_touch_39 (by decide) ?_
            have hcl : ab_cl a u = false := xb_zero.mp (by rw [← t2]; exact q1)
            have hl4 : (ab_op a u).length < 4 := by rw [← t1]; exact q2
            rw [ab_touch_t (by rw [u3]; exact ⟨⟨by omega, by omega⟩, by omega, by omega, by omega, by omega, hcl, hl4⟩), u3, k3, y3]
            refine ⟨rfl, xr_setop hx hw (by omega) hcl hl4 (by omega) (ab_unclosed I hcl), fun n hn => ?_⟩
            rw [gx_w_row _ _ _ (by unfold nTn; omega), gx_w_row _ _ _ (by unfold nTx; omega), gx_w_row _ _ _ (by unfold nTa; omega), gx_w_row _ _ _ (by unfold nTy; omega), gx_w_row _ _ _ (by unfold nTk; omega)]
        · skip
          refine lv_iconst (v := nI 0) X.1 X.2.1 d_CG_touch_24 (by decide) ?_
          refine gx_zret X.1 X.2.1 hr hlk hP hS d_CG_touch_25 (by decide) ?_
          rw [ab_touch_f (fun hh => by have := hp18.mpr ⟨hh.2.2.2.1, by have := hh.2.2.2.2.1; omega⟩; omega)]
          exact ⟨rfl, hx, fun n _ => rfl⟩
set_option maxRecDepth 100000 in
set_option maxHeartbeats 4000000 in
theorem K_CG_refusalAtShard (l : Launch) (dC : Nat → ClassId) (dI : Nat → Nat → Nat) (cx : Nat → ClassId) (ad : Nat → Nat) (hJ : gx_J gx_N ad (gx_A gx_N ad)) (σ : gx_M) (a : ab_S) (tq sq : Int32) (hw : ab_W a) (hx : xr σ a) : cg_Mi l dC dI cx ad y_CG_refusalAtShard w_CG_refusalAtShard 1 [.ref (ad 0), .int tq, .int sq] σ (fun r σ' => σ' = σ ∧ ((¬ ab_ok a tq.toInt sq.toInt ∧ r = -1) ∨ (ab_ok a tq.toInt sq.toInt ∧ ab_ha a = true ∧ r = -2) ∨ (ab_ok a tq.toInt sq.toInt ∧ ab_ha a = false ∧ r = nI 0))) := by
  refine gx_ofW (cc := c_CG_refusalAtShard) (maxL := 3) (ret := (Option.some Jvm.ClassFile.FieldType.int)) (by decide) rfl (Nat.le_of_ble_eq_true rfl) ?_
  intro p e s m below meth c ls S hr hlk hK hN hl hP
  have X : cg_X c_CG_refusalAtShard "CommitGroups" 3 dC dI cx p m c s _ := ⟨S.1, S.2.1, S.2.2.2.1, fun w h => S.2.2.2.2 w (List.mem_cons_of_mem _ h), hK, hN, S.2.2.1⟩
  have hS : va_S (gx_A gx_N ad) s.heap s.heap [] := va_S.rf
  have hl : lv_has ls 3 [(0, .ref (ad 0)), (1, .int tq), (2, .int sq)] := hl
  have hn : σ 0 5 = ab_n a := hx.1
  have hn20 := hw.1
  have hxb := xb_le (!ab_ha a)
  refine lv_aload_n X.1 X.2.1 d_CG_refusalAtShard_0 rfl (lv_at hl 0 rfl) ?_
  refine lv_iload_n X.1 X.2.1 d_CG_refusalAtShard_1 rfl (lv_at hl 1 rfl) ?_
  refine cv_CG_57 (rest := []) X hJ hP hS (by decide) (ec_CG _) (K_CG_isTransaction l dC dI cx ad hJ σ tq (by omega)) rfl rfl (by decide) hl.1 (Nat.le_of_ble_eq_true rfl) ⟨Nat.le_refl _, Nat.le_refl _⟩ d_CG_refusalAtShard_2 (fun r σ' H locs hq hP hS => ?_)
  obtain ⟨hq0, b2, rfl, hb2, hp2⟩ := hq
  rw [hq0] at hP
  rw [hn] at hp2
  refine gx_if_eq X.1 X.2.1 (tgt := 28) d_CG_refusalAtShard_5 (by decide) (by omega) (fun h5 => ?_) (fun h5 => ?_)
  · skip
    refine lv_iconst (v := -1) X.1 X.2.1 d_CG_refusalAtShard_28 (by decide) ?_
    refine gx_iret X.1 X.2.1 hr hlk hP hS d_CG_refusalAtShard_29 ?_
    refine ⟨rfl, Or.inl ⟨fun hh => ?_, rfl⟩⟩
    have := hp2.mpr ⟨hh.1.1, hh.1.2⟩; omega
  · skip
    refine lv_iload_n X.1 X.2.1 d_CG_refusalAtShard_8 rfl (lv_at hl 2 rfl) ?_
    refine cv_CG_116 (rest := []) X hJ hP hS (K_CG_isShard l dC dI cx ad hJ _ sq) rfl rfl (by decide) hl.1 (Nat.le_of_ble_eq_true rfl) ⟨Nat.le_refl _, Nat.le_refl _⟩ d_CG_refusalAtShard_9 (fun r σ' H locs hq hP hS => ?_)
    obtain ⟨hq0, b9, rfl, hb9, hp9⟩ := hq
    rw [hq0] at hP
    refine gx_if_eq X.1 X.2.1 (tgt := 28) d_CG_refusalAtShard_12 (by decide) (by omega) (fun h12 => ?_) (fun h12 => ?_)
    · skip
      refine lv_iconst (v := -1) X.1 X.2.1 d_CG_refusalAtShard_28 (by decide) ?_
      refine gx_iret X.1 X.2.1 hr hlk hP hS d_CG_refusalAtShard_29 ?_
      refine ⟨rfl, Or.inl ⟨fun hh => ?_, rfl⟩⟩
      have := hp9.mpr ⟨hh.2.1, by have := hh.2.2.1; omega⟩; omega
    · skip
      have hh2 := hp2.mp (by omega)
      have hh9 := hp9.mp (by omega)
      obtain ⟨u, rfl, u1, u2, u3⟩ := gi_of (t := tq) (n := ab_n a) (by omega) (by omega)
      obtain ⟨x, rfl, x1, x2, x3⟩ := gi_of (t := sq) (n := 2) (by omega) (by omega)
      refine lv_aload_n X.1 X.2.1 d_CG_refusalAtShard_15 rfl (lv_at hl 0 rfl) ?_
      refine gg_CG_12 X hP d_CG_refusalAtShard_16 ?_
      refine lv_iload_n X.1 X.2.1 d_CG_refusalAtShard_19 rfl (lv_at hl 1 rfl) ?_
      refine gr_bk (by omega) X hP d_CG_refusalAtShard_20 ?_
      refine lv_iload_n X.1 X.2.1 d_CG_refusalAtShard_21 rfl (lv_at hl 2 rfl) ?_
      refine cv_CG_173 (rest := []) X hJ hP hS (nTx_lt (by omega)) (ec_nTx (by omega) _) (K_reaches l dC dI cx ad hJ _ a u x (by omega) (by omega) hx.2.1 hw) rfl rfl (by decide) hl.1 (Nat.le_of_ble_eq_true rfl) ⟨Nat.le_refl _, Nat.le_refl _⟩ d_CG_refusalAtShard_22 (fun r σ' H locs hq hP hS => ?_)
      obtain ⟨hq0, b22, rfl, hb22, hp22⟩ := hq
      rw [hq0] at hP
      refine gx_if_ne X.1 X.2.1 (tgt := 30) d_CG_refusalAtShard_25 (by decide) (by omega) (fun h25 => ?_) (fun h25 => ?_)
      · skip
        refine lv_aload_n X.1 X.2.1 d_CG_refusalAtShard_30 rfl (lv_at hl 0 rfl) ?_
        refine gg_CG_37 X hP d_CG_refusalAtShard_31 ?_
        refine gg_CG_151 X hP d_CG_refusalAtShard_34 ?_
        rw [hx.2.2.2.2.2.1]
        refine gx_if_eq X.1 X.2.1 (tgt := 44) d_CG_refusalAtShard_37 (by decide) (by omega) (fun h37 => ?_) (fun h37 => ?_)
        · skip
          refine lv_bipush (v := -2) X.1 X.2.1 d_CG_refusalAtShard_44 (by decide) ?_
          refine gx_iret X.1 X.2.1 hr hlk hP hS d_CG_refusalAtShard_46 ?_
          refine ⟨rfl, Or.inr (Or.inl ⟨⟨⟨by omega, by omega⟩, by omega, by omega, ?_⟩, ?_, rfl⟩)⟩
          · rw [u3, x3]; exact hp22.mp (by omega)
          · have := xb_zero.mp h37; simpa using this
        · skip
          refine lv_iconst (v := nI 0) X.1 X.2.1 d_CG_refusalAtShard_40 (by decide) ?_
          refine lv_goto (tgt := 46) X.1 X.2.1 d_CG_refusalAtShard_41 (by decide) ?_
          refine gx_iret X.1 X.2.1 hr hlk hP hS d_CG_refusalAtShard_46 ?_
          refine ⟨rfl, Or.inr (Or.inr ⟨⟨⟨by omega, by omega⟩, by omega, by omega, ?_⟩, ?_, rfl⟩)⟩
          · rw [u3, x3]; exact hp22.mp (by omega)
          · have := xb_one.mp (show xb (!ab_ha a) = 1 by omega); simpa using this
      · skip
        refine lv_iconst (v := -1) X.1 X.2.1 d_CG_refusalAtShard_28 (by decide) ?_
        refine gx_iret X.1 X.2.1 hr hlk hP hS d_CG_refusalAtShard_29 ?_
        refine ⟨rfl, Or.inl ⟨fun hh => ?_, rfl⟩⟩
        have := hh.2.2.2
        rw [u3, x3] at this
        have := hp22.mpr this; omega
set_option maxRecDepth 100000 in
set_option maxHeartbeats 4000000 in
theorem K_CG_refusalOfDecision (l : Launch) (dC : Nat → ClassId) (dI : Nat → Nat → Nat) (cx : Nat → ClassId) (ad : Nat → Nat) (hJ : gx_J gx_N ad (gx_A gx_N ad)) (σ : gx_M) (a : ab_S) (tq : Int32) (hw : ab_W a) (hx : xr σ a) : cg_Mi l dC dI cx ad y_CG_refusalOfDecision w_CG_refusalOfDecision 1 [.ref (ad 0), .int tq] σ (fun r σ' => σ' = σ ∧ ((¬ ab_okd a tq.toInt ∧ r = -1) ∨ (ab_okd a tq.toInt ∧ ab_ha a = true ∧ r = -2) ∨ (ab_okd a tq.toInt ∧ ab_ha a = false ∧ r = nI 0))) := by
  refine gx_ofW (cc := c_CG_refusalOfDecision) (maxL := 2) (ret := (Option.some Jvm.ClassFile.FieldType.int)) (by decide) rfl (Nat.le_of_ble_eq_true rfl) ?_
  intro p e s m below meth c ls S hr hlk hK hN hl hP
  have X : cg_X c_CG_refusalOfDecision "CommitGroups" 2 dC dI cx p m c s _ := ⟨S.1, S.2.1, S.2.2.2.1, fun w h => S.2.2.2.2 w (List.mem_cons_of_mem _ h), hK, hN, S.2.2.1⟩
  have hS : va_S (gx_A gx_N ad) s.heap s.heap [] := va_S.rf
  have hl : lv_has ls 2 [(0, .ref (ad 0)), (1, .int tq)] := hl
  have hn : σ 0 5 = ab_n a := hx.1
  have hn20 := hw.1
  have hxb := xb_le (!ab_ha a)
  refine lv_aload_n X.1 X.2.1 d_CG_refusalOfDecision_0 rfl (lv_at hl 0 rfl) ?_
  refine lv_iload_n X.1 X.2.1 d_CG_refusalOfDecision_1 rfl (lv_at hl 1 rfl) ?_
  refine cv_CG_57 (rest := []) X hJ hP hS (by decide) (ec_CG _) (K_CG_isTransaction l dC dI cx ad hJ σ tq (by omega)) rfl rfl (by decide) hl.1 (Nat.le_of_ble_eq_true rfl) ⟨Nat.le_refl _, Nat.le_refl _⟩ d_CG_refusalOfDecision_2 (fun r σ' H locs hq hP hS => ?_)
  obtain ⟨hq0, b2, rfl, hb2, hp2⟩ := hq
  rw [hq0] at hP
  rw [hn] at hp2
  refine gx_if_eq X.1 X.2.1 (tgt := 20) d_CG_refusalOfDecision_5 (by decide) (by omega) (fun h5 => ?_) (fun h5 => ?_)
  · skip
    refine lv_iconst (v := -1) X.1 X.2.1 d_CG_refusalOfDecision_20 (by decide) ?_
    refine gx_iret X.1 X.2.1 hr hlk hP hS d_CG_refusalOfDecision_21 ?_
    refine ⟨rfl, Or.inl ⟨fun hh => ?_, rfl⟩⟩
    have := hp2.mpr ⟨hh.1.1, hh.1.2⟩; omega
  · skip
    have hh2 := hp2.mp (by omega)
    obtain ⟨u, rfl, u1, u2, u3⟩ := gi_of (t := tq) (n := ab_n a) (by omega) (by omega)
    have hl4 := (hw.2.1 u).1
    refine lv_aload_n X.1 X.2.1 d_CG_refusalOfDecision_8 rfl (lv_at hl 0 rfl) ?_
    refine gg_CG_12 X hP d_CG_refusalOfDecision_9 ?_
    refine lv_iload_n X.1 X.2.1 d_CG_refusalOfDecision_12 rfl (lv_at hl 1 rfl) ?_
    refine gr_bk (by omega) X hP d_CG_refusalOfDecision_13 ?_
    refine gg_CG_120 (by omega) X hP d_CG_refusalOfDecision_14 ?_
    rw [(hx.2.1 u (by omega)).1]
    refine gx_if_ne X.1 X.2.1 (tgt := 22) d_CG_refusalOfDecision_17 (by decide) (by omega) (fun h17 => ?_) (fun h17 => ?_)
    · skip
      refine lv_aload_n X.1 X.2.1 d_CG_refusalOfDecision_22 rfl (lv_at hl 0 rfl) ?_
      refine gg_CG_37 X hP d_CG_refusalOfDecision_23 ?_
      refine gg_CG_151 X hP d_CG_refusalOfDecision_26 ?_
      rw [hx.2.2.2.2.2.1]
      refine gx_if_eq X.1 X.2.1 (tgt := 36) d_CG_refusalOfDecision_29 (by decide) (by omega) (fun h29 => ?_) (fun h29 => ?_)
      · skip
        refine lv_bipush (v := -2) X.1 X.2.1 d_CG_refusalOfDecision_36 (by decide) ?_
        refine gx_iret X.1 X.2.1 hr hlk hP hS d_CG_refusalOfDecision_38 ?_
        refine ⟨rfl, Or.inr (Or.inl ⟨⟨⟨by omega, by omega⟩, by rw [u3]; exact h17⟩, ?_, rfl⟩)⟩
        have := xb_zero.mp h29; simpa using this
      · skip
        refine lv_iconst (v := nI 0) X.1 X.2.1 d_CG_refusalOfDecision_32 (by decide) ?_
        refine lv_goto (tgt := 38) X.1 X.2.1 d_CG_refusalOfDecision_33 (by decide) ?_
        refine gx_iret X.1 X.2.1 hr hlk hP hS d_CG_refusalOfDecision_38 ?_
        refine ⟨rfl, Or.inr (Or.inr ⟨⟨⟨by omega, by omega⟩, by rw [u3]; exact h17⟩, ?_, rfl⟩)⟩
        have := xb_one.mp (show xb (!ab_ha a) = 1 by omega); simpa using this
    · skip
      refine lv_iconst (v := -1) X.1 X.2.1 d_CG_refusalOfDecision_20 (by decide) ?_
      refine gx_iret X.1 X.2.1 hr hlk hP hS d_CG_refusalOfDecision_21 ?_
      refine ⟨rfl, Or.inl ⟨fun hh => ?_, rfl⟩⟩
      have := hh.2
      rw [u3] at this
      exact this h17
set_option maxRecDepth 100000 in
set_option maxHeartbeats 4000000 in
theorem K_CG_view (l : Launch) (dC : Nat → ClassId) (dI : Nat → Nat → Nat) (cx : Nat → ClassId) (ad : Nat → Nat) (hJ : gx_J gx_N ad (gx_A gx_N ad)) (σ : gx_M) (a : ab_S) (gq rq : Int32) (hw : ab_W a) (hx : xr σ a) : cg_Mi l dC dI cx ad y_CG_view w_CG_view 2 [.ref (ad 0), .int gq, .int rq] σ (fun r σ' => σ' = σ ∧ r = Int32.ofInt (ab_at (ab_vi a) gq.toInt rq.toInt)) := by
  refine gx_ofW (cc := c_CG_view) (maxL := 3) (ret := (Option.some Jvm.ClassFile.FieldType.int)) (by decide) rfl (Nat.le_of_ble_eq_true rfl) ?_
  intro p e s m below meth c ls S hr hlk hK hN hl hP
  have X : cg_X c_CG_view "CommitGroups" 3 dC dI cx p m c s _ := ⟨S.1, S.2.1, S.2.2.2.1, fun w h => S.2.2.2.2 w (List.mem_cons_of_mem _ h), hK, hN, S.2.2.1⟩
  have hS : va_S (gx_A gx_N ad) s.heap s.heap [] := va_S.rf
  have hl : lv_has ls 3 [(0, .ref (ad 0)), (1, .int gq), (2, .int rq)] := hl
  refine lv_iload_n X.1 X.2.1 d_CG_view_0 rfl (lv_at hl 1 rfl) ?_
  refine lv_iload_n X.1 X.2.1 d_CG_view_1 rfl (lv_at hl 2 rfl) ?_
  refine cv_CG_131 (rest := []) X hJ hP hS (K_CG_isReplica l dC dI cx ad hJ σ gq rq) rfl rfl (by decide) hl.1 (Nat.le_of_ble_eq_true rfl) ⟨Nat.le_refl _, Nat.le_refl _⟩ d_CG_view_2 (fun r σ' H locs hq hP hS => ?_)
  obtain ⟨hq0, b2, rfl, hb2, hp2⟩ := hq
  rw [hq0] at hP
  refine gx_if_eq X.1 X.2.1 (tgt := 25) d_CG_view_5 (by decide) (by omega) (fun h5 => ?_) (fun h5 => ?_)
  · skip
    refine lv_iconst (v := -1) X.1 X.2.1 d_CG_view_25 (by decide) ?_
    refine gx_iret X.1 X.2.1 hr hlk hP hS d_CG_view_26 ?_
    refine ⟨rfl, ?_⟩
    unfold ab_at
    rw [if_neg (fun hh => by have := hp2.mpr ⟨⟨hh.1, by have := hh.2.1; omega⟩, hh.2.2.1, by have := hh.2.2.2; omega⟩; omega)]
    rfl
  · skip
    have hh2 := hp2.mp (by omega)
    obtain ⟨g, rfl, g1, g2, g3⟩ := gi_of (t := gq) (n := 3) (by omega) (by omega)
    obtain ⟨r', rfl, r1, r2, r3⟩ := gi_of (t := rq) (n := 2) (by omega) (by omega)
    have hrp := hx.2.2.1 g r' (by omega) (by omega)
    refine lv_aload_n X.1 X.2.1 d_CG_view_8 rfl (lv_at hl 0 rfl) ?_
    refine gg_CG_18 X hP d_CG_view_9 ?_
    refine lv_iload_n X.1 X.2.1 d_CG_view_12 rfl (lv_at hl 1 rfl) ?_
    refine gr_gs (by omega) X hP d_CG_view_13 ?_
    refine gg_CG_135 (by omega) X hP d_CG_view_14 ?_
    refine lv_iload_n X.1 X.2.1 d_CG_view_17 rfl (lv_at hl 2 rfl) ?_
    refine gr_nRs (by omega) (by omega) X hP d_CG_view_18 ?_
    refine gg_CG_155 (by omega) (by omega) X hP d_CG_view_19 ?_
    refine lv_goto (tgt := 26) X.1 X.2.1 d_CG_view_22 (by decide) ?_
    refine gx_iret X.1 X.2.1 hr hlk hP hS d_CG_view_26 ?_
    refine ⟨rfl, ?_⟩
    unfold ab_at
    rw [if_pos ⟨by omega, by omega, by omega, by omega⟩, g3, r3, hrp.2.1]
    rfl
set_option maxRecDepth 100000 in
set_option maxHeartbeats 4000000 in
theorem K_CG_length (l : Launch) (dC : Nat → ClassId) (dI : Nat → Nat → Nat) (cx : Nat → ClassId) (ad : Nat → Nat) (hJ : gx_J gx_N ad (gx_A gx_N ad)) (σ : gx_M) (a : ab_S) (gq rq : Int32) (hw : ab_W a) (hx : xr σ a) : cg_Mi l dC dI cx ad y_CG_length w_CG_length 2 [.ref (ad 0), .int gq, .int rq] σ (fun r σ' => σ' = σ ∧ r = Int32.ofInt (ab_at (fun g r => (ab_lg a g r).length) gq.toInt rq.toInt)) := by
  refine gx_ofW (cc := c_CG_length) (maxL := 3) (ret := (Option.some Jvm.ClassFile.FieldType.int)) (by decide) rfl (Nat.le_of_ble_eq_true rfl) ?_
  intro p e s m below meth c ls S hr hlk hK hN hl hP
  have X : cg_X c_CG_length "CommitGroups" 3 dC dI cx p m c s _ := ⟨S.1, S.2.1, S.2.2.2.1, fun w h => S.2.2.2.2 w (List.mem_cons_of_mem _ h), hK, hN, S.2.2.1⟩
  have hS : va_S (gx_A gx_N ad) s.heap s.heap [] := va_S.rf
  have hl : lv_has ls 3 [(0, .ref (ad 0)), (1, .int gq), (2, .int rq)] := hl
  refine lv_iload_n X.1 X.2.1 d_CG_length_0 rfl (lv_at hl 1 rfl) ?_
  refine lv_iload_n X.1 X.2.1 d_CG_length_1 rfl (lv_at hl 2 rfl) ?_
  refine cv_CG_131 (rest := []) X hJ hP hS (K_CG_isReplica l dC dI cx ad hJ σ gq rq) rfl rfl (by decide) hl.1 (Nat.le_of_ble_eq_true rfl) ⟨Nat.le_refl _, Nat.le_refl _⟩ d_CG_length_2 (fun r σ' H locs hq hP hS => ?_)
  obtain ⟨hq0, b2, rfl, hb2, hp2⟩ := hq
  rw [hq0] at hP
  refine gx_if_eq X.1 X.2.1 (tgt := 25) d_CG_length_5 (by decide) (by omega) (fun h5 => ?_) (fun h5 => ?_)
  · skip
    refine lv_iconst (v := -1) X.1 X.2.1 d_CG_length_25 (by decide) ?_
    refine gx_iret X.1 X.2.1 hr hlk hP hS d_CG_length_26 ?_
    refine ⟨rfl, ?_⟩
    unfold ab_at
    rw [if_neg (fun hh => by have := hp2.mpr ⟨⟨hh.1, by have := hh.2.1; omega⟩, hh.2.2.1, by have := hh.2.2.2; omega⟩; omega)]
    rfl
  · skip
    have hh2 := hp2.mp (by omega)
    obtain ⟨g, rfl, g1, g2, g3⟩ := gi_of (t := gq) (n := 3) (by omega) (by omega)
    obtain ⟨r', rfl, r1, r2, r3⟩ := gi_of (t := rq) (n := 2) (by omega) (by omega)
    have hrp := hx.2.2.1 g r' (by omega) (by omega)
    refine lv_aload_n X.1 X.2.1 d_CG_length_8 rfl (lv_at hl 0 rfl) ?_
    refine gg_CG_18 X hP d_CG_length_9 ?_
    refine lv_iload_n X.1 X.2.1 d_CG_length_12 rfl (lv_at hl 1 rfl) ?_
    refine gr_gs (by omega) X hP d_CG_length_13 ?_
    refine gg_CG_135 (by omega) X hP d_CG_length_14 ?_
    refine lv_iload_n X.1 X.2.1 d_CG_length_17 rfl (lv_at hl 2 rfl) ?_
    refine gr_nRs (by omega) (by omega) X hP d_CG_length_18 ?_
    refine gg_CG_158 (by omega) (by omega) X hP d_CG_length_19 ?_
    refine lv_goto (tgt := 26) X.1 X.2.1 d_CG_length_22 (by decide) ?_
    refine gx_iret X.1 X.2.1 hr hlk hP hS d_CG_length_26 ?_
    refine ⟨rfl, ?_⟩
    unfold ab_at
    rw [if_pos ⟨by omega, by omega, by omega, by omega⟩, g3, r3, hrp.2.2.1]
    rfl
set_option maxRecDepth 100000 in
set_option maxHeartbeats 4000000 in
theorem K_CG_executed (l : Launch) (dC : Nat → ClassId) (dI : Nat → Nat → Nat) (cx : Nat → ClassId) (ad : Nat → Nat) (hJ : gx_J gx_N ad (gx_A gx_N ad)) (σ : gx_M) (a : ab_S) (gq rq : Int32) (hw : ab_W a) (hx : xr σ a) : cg_Mi l dC dI cx ad y_CG_executed w_CG_executed 2 [.ref (ad 0), .int gq, .int rq] σ (fun r σ' => σ' = σ ∧ r = Int32.ofInt (ab_at (ab_dn a) gq.toInt rq.toInt)) := by
  refine gx_ofW (cc := c_CG_executed) (maxL := 3) (ret := (Option.some Jvm.ClassFile.FieldType.int)) (by decide) rfl (Nat.le_of_ble_eq_true rfl) ?_
  intro p e s m below meth c ls S hr hlk hK hN hl hP
  have X : cg_X c_CG_executed "CommitGroups" 3 dC dI cx p m c s _ := ⟨S.1, S.2.1, S.2.2.2.1, fun w h => S.2.2.2.2 w (List.mem_cons_of_mem _ h), hK, hN, S.2.2.1⟩
  have hS : va_S (gx_A gx_N ad) s.heap s.heap [] := va_S.rf
  have hl : lv_has ls 3 [(0, .ref (ad 0)), (1, .int gq), (2, .int rq)] := hl
  refine lv_iload_n X.1 X.2.1 d_CG_executed_0 rfl (lv_at hl 1 rfl) ?_
  refine lv_iload_n X.1 X.2.1 d_CG_executed_1 rfl (lv_at hl 2 rfl) ?_
  refine cv_CG_131 (rest := []) X hJ hP hS (K_CG_isReplica l dC dI cx ad hJ σ gq rq) rfl rfl (by decide) hl.1 (Nat.le_of_ble_eq_true rfl) ⟨Nat.le_refl _, Nat.le_refl _⟩ d_CG_executed_2 (fun r σ' H locs hq hP hS => ?_)
  obtain ⟨hq0, b2, rfl, hb2, hp2⟩ := hq
  rw [hq0] at hP
  refine gx_if_eq X.1 X.2.1 (tgt := 25) d_CG_executed_5 (by decide) (by omega) (fun h5 => ?_) (fun h5 => ?_)
  · skip
    refine lv_iconst (v := -1) X.1 X.2.1 d_CG_executed_25 (by decide) ?_
    refine gx_iret X.1 X.2.1 hr hlk hP hS d_CG_executed_26 ?_
    refine ⟨rfl, ?_⟩
    unfold ab_at
    rw [if_neg (fun hh => by have := hp2.mpr ⟨⟨hh.1, by have := hh.2.1; omega⟩, hh.2.2.1, by have := hh.2.2.2; omega⟩; omega)]
    rfl
  · skip
    have hh2 := hp2.mp (by omega)
    obtain ⟨g, rfl, g1, g2, g3⟩ := gi_of (t := gq) (n := 3) (by omega) (by omega)
    obtain ⟨r', rfl, r1, r2, r3⟩ := gi_of (t := rq) (n := 2) (by omega) (by omega)
    have hrp := hx.2.2.1 g r' (by omega) (by omega)
    refine lv_aload_n X.1 X.2.1 d_CG_executed_8 rfl (lv_at hl 0 rfl) ?_
    refine gg_CG_18 X hP d_CG_executed_9 ?_
    refine lv_iload_n X.1 X.2.1 d_CG_executed_12 rfl (lv_at hl 1 rfl) ?_
    refine gr_gs (by omega) X hP d_CG_executed_13 ?_
    refine gg_CG_135 (by omega) X hP d_CG_executed_14 ?_
    refine lv_iload_n X.1 X.2.1 d_CG_executed_17 rfl (lv_at hl 2 rfl) ?_
    refine gr_nRs (by omega) (by omega) X hP d_CG_executed_18 ?_
    refine gg_CG_161 (by omega) (by omega) X hP d_CG_executed_19 ?_
    refine lv_goto (tgt := 26) X.1 X.2.1 d_CG_executed_22 (by decide) ?_
    refine gx_iret X.1 X.2.1 hr hlk hP hS d_CG_executed_26 ?_
    refine ⟨rfl, ?_⟩
    unfold ab_at
    rw [if_pos ⟨by omega, by omega, by omega, by omega⟩, g3, r3, hrp.2.2.2.1]
    rfl
set_option maxRecDepth 100000 in
set_option maxHeartbeats 4000000 in
theorem K_CG_crash (l : Launch) (dC : Nat → ClassId) (dI : Nat → Nat → Nat) (cx : Nat → ClassId) (ad : Nat → Nat) (hJ : gx_J gx_N ad (gx_A gx_N ad)) (σ : gx_M) (a : ab_S) (gq rq : Int32) (hw : ab_W a) (hx : xr σ a) : cg_Mi l dC dI cx ad y_CG_crash w_CG_crash 2 [.ref (ad 0), .int gq, .int rq] σ (fun r σ' => r = nI (xb (ab_crash a gq.toInt rq.toInt).1) ∧ xr σ' (ab_crash a gq.toInt rq.toInt).2 ∧ ∀ n, 224 ≤ n → σ' n = σ n) := by
  refine gx_ofW (cc := c_CG_crash) (maxL := 3) (ret := (Option.some Jvm.ClassFile.FieldType.boolean)) (by decide) rfl (Nat.le_of_ble_eq_true rfl) ?_
  intro p e s m below meth c ls S hr hlk hK hN hl hP
  have X : cg_X c_CG_crash "CommitGroups" 3 dC dI cx p m c s _ := ⟨S.1, S.2.1, S.2.2.2.1, fun w h => S.2.2.2.2 w (List.mem_cons_of_mem _ h), hK, hN, S.2.2.1⟩
  have hS : va_S (gx_A gx_N ad) s.heap s.heap [] := va_S.rf
  have hl : lv_has ls 3 [(0, .ref (ad 0)), (1, .int gq), (2, .int rq)] := hl
  refine lv_iload_n X.1 X.2.1 d_CG_crash_0 rfl (lv_at hl 1 rfl) ?_
  refine lv_iload_n X.1 X.2.1 d_CG_crash_1 rfl (lv_at hl 2 rfl) ?_
  refine cv_CG_131 (rest := []) X hJ hP hS (K_CG_isReplica l dC dI cx ad hJ σ gq rq) rfl rfl (by decide) hl.1 (Nat.le_of_ble_eq_true rfl) ⟨Nat.le_refl _, Nat.le_refl _⟩ d_CG_crash_2 (fun r σ' H locs hq hP hS => ?_)
  obtain ⟨hq0, b2, rfl, hb2, hp2⟩ := hq
  rw [hq0] at hP
  refine gx_if_eq X.1 X.2.1 (tgt := 25) d_CG_crash_5 (by decide) (by omega) (fun h5 => ?_) (fun h5 => ?_)
  · skip
    refine lv_iconst (v := nI 0) X.1 X.2.1 d_CG_crash_25 (by decide) ?_
    refine gx_zret X.1 X.2.1 hr hlk hP hS d_CG_crash_26 (by decide) ?_
    have e : ab_crash a gq.toInt rq.toInt = (false, a) := by unfold ab_crash; exact if_neg (fun hh => by have := hp2.mpr ⟨⟨hh.1.1, by have := hh.1.2.1; omega⟩, hh.1.2.2.1, by have := hh.1.2.2.2; omega⟩; omega)
    rw [e]
    exact ⟨rfl, hx, fun n _ => rfl⟩
  · skip
    have hh2 := hp2.mp (by omega)
    obtain ⟨g, rfl, g1, g2, g3⟩ := gi_of (t := gq) (n := 3) (by omega) (by omega)
    obtain ⟨r', rfl, r1, r2, r3⟩ := gi_of (t := rq) (n := 2) (by omega) (by omega)
    have hrp := hx.2.2.1 g r' (by omega) (by omega)
    have hxb := xb_le (ab_up a g r')
    refine lv_aload_n X.1 X.2.1 d_CG_crash_8 rfl (lv_at hl 0 rfl) ?_
    refine gg_CG_18 X hP d_CG_crash_9 ?_
    refine lv_iload_n X.1 X.2.1 d_CG_crash_12 rfl (lv_at hl 1 rfl) ?_
    refine gr_gs (by omega) X hP d_CG_crash_13 ?_
    refine gg_CG_135 (by omega) X hP d_CG_crash_14 ?_
    refine lv_iload_n X.1 X.2.1 d_CG_crash_17 rfl (lv_at hl 2 rfl) ?_
    refine gr_nRs (by omega) (by omega) X hP d_CG_crash_18 ?_
    refine gg_CG_139 (by omega) (by omega) X hP d_CG_crash_19 ?_
    rw [hrp.1]
    refine gx_if_ne X.1 X.2.1 (tgt := 27) d_CG_crash_22 (by decide) (by omega) (fun h22 => ?_) (fun h22 => ?_)
    · skip
      refine lv_aload_n X.1 X.2.1 d_CG_crash_27 rfl (lv_at hl 0 rfl) ?_
      refine gg_CG_18 X hP d_CG_crash_28 ?_
      refine lv_iload_n X.1 X.2.1 d_CG_crash_31 rfl (lv_at hl 1 rfl) ?_
      refine gr_gs (by omega) X hP d_CG_crash_32 ?_
      refine gg_CG_135 (by omega) X hP d_CG_crash_33 ?_
      refine lv_iload_n X.1 X.2.1 d_CG_crash_36 rfl (lv_at hl 2 rfl) ?_
      refine gr_nRs (by omega) (by omega) X hP d_CG_crash_37 ?_
      refine lv_iconst (v := nI 0) X.1 X.2.1 d_CG_crash_38 (by decide) ?_
      refine gp_CG_139 (by omega) (by omega) (by omega) X hJ hP hS d_CG_crash_39 (fun H locs hP hS => ?_)
      refine lv_iconst (v := nI 1) X.1 X.2.1 d_CG_crash_42 (by decide) ?_
      refine gx_zret X.1 X.2.1 hr hlk hP hS d_CG_crash_43 (by decide) ?_
      have e : ab_crash a (nI g).toInt (nI r').toInt = (true, ab_setup a g r' false) := by
        unfold ab_crash
        rw [if_pos ⟨⟨by omega, by omega, by omega, by omega⟩, by rw [g3, r3]; exact xb_one.mp (show xb (ab_up a g r') = 1 by omega)⟩, g3, r3]
      rw [e]
      exact ⟨rfl, xr_up hx (by omega) (by omega) false, fun n hn => gx_w_row _ _ _ (fun z => by obtain ⟨g', r'', b1, b2, b3⟩ := fR_num (n := n) (z ▸ ⟨g, r', by omega, by omega, Or.inl rfl⟩); omega)⟩
    · skip
      refine lv_iconst (v := nI 0) X.1 X.2.1 d_CG_crash_25 (by decide) ?_
      refine gx_zret X.1 X.2.1 hr hlk hP hS d_CG_crash_26 (by decide) ?_
      have e : ab_crash a (nI g).toInt (nI r').toInt = (false, a) := by
        unfold ab_crash
        refine if_neg (fun hh => ?_)
        have := hh.2
        rw [g3, r3] at this
        rw [xb_zero.mp h22] at this; exact absurd this (by decide)
      rw [e]
      exact ⟨rfl, hx, fun n _ => rfl⟩
set_option maxRecDepth 100000 in
set_option maxHeartbeats 4000000 in
theorem K_CG_restart (l : Launch) (dC : Nat → ClassId) (dI : Nat → Nat → Nat) (cx : Nat → ClassId) (ad : Nat → Nat) (hJ : gx_J gx_N ad (gx_A gx_N ad)) (σ : gx_M) (a : ab_S) (gq rq : Int32) (hw : ab_W a) (hx : xr σ a) : cg_Mi l dC dI cx ad y_CG_restart w_CG_restart 2 [.ref (ad 0), .int gq, .int rq] σ (fun r σ' => r = nI (xb (ab_restart a gq.toInt rq.toInt).1) ∧ xr σ' (ab_restart a gq.toInt rq.toInt).2 ∧ ∀ n, 224 ≤ n → σ' n = σ n) := by
  refine gx_ofW (cc := c_CG_restart) (maxL := 3) (ret := (Option.some Jvm.ClassFile.FieldType.boolean)) (by decide) rfl (Nat.le_of_ble_eq_true rfl) ?_
  intro p e s m below meth c ls S hr hlk hK hN hl hP
  have X : cg_X c_CG_restart "CommitGroups" 3 dC dI cx p m c s _ := ⟨S.1, S.2.1, S.2.2.2.1, fun w h => S.2.2.2.2 w (List.mem_cons_of_mem _ h), hK, hN, S.2.2.1⟩
  have hS : va_S (gx_A gx_N ad) s.heap s.heap [] := va_S.rf
  have hl : lv_has ls 3 [(0, .ref (ad 0)), (1, .int gq), (2, .int rq)] := hl
  refine lv_iload_n X.1 X.2.1 d_CG_restart_0 rfl (lv_at hl 1 rfl) ?_
  refine lv_iload_n X.1 X.2.1 d_CG_restart_1 rfl (lv_at hl 2 rfl) ?_
  refine cv_CG_131 (rest := []) X hJ hP hS (K_CG_isReplica l dC dI cx ad hJ σ gq rq) rfl rfl (by decide) hl.1 (Nat.le_of_ble_eq_true rfl) ⟨Nat.le_refl _, Nat.le_refl _⟩ d_CG_restart_2 (fun r σ' H locs hq hP hS => ?_)
  obtain ⟨hq0, b2, rfl, hb2, hp2⟩ := hq
  rw [hq0] at hP
  refine gx_if_eq X.1 X.2.1 (tgt := 25) d_CG_restart_5 (by decide) (by omega) (fun h5 => ?_) (fun h5 => ?_)
  · skip
    refine lv_iconst (v := nI 0) X.1 X.2.1 d_CG_restart_25 (by decide) ?_
    refine gx_zret X.1 X.2.1 hr hlk hP hS d_CG_restart_26 (by decide) ?_
    have e : ab_restart a gq.toInt rq.toInt = (false, a) := by unfold ab_restart; exact if_neg (fun hh => by have := hp2.mpr ⟨⟨hh.1.1, by have := hh.1.2.1; omega⟩, hh.1.2.2.1, by have := hh.1.2.2.2; omega⟩; omega)
    rw [e]
    exact ⟨rfl, hx, fun n _ => rfl⟩
  · skip
    have hh2 := hp2.mp (by omega)
    obtain ⟨g, rfl, g1, g2, g3⟩ := gi_of (t := gq) (n := 3) (by omega) (by omega)
    obtain ⟨r', rfl, r1, r2, r3⟩ := gi_of (t := rq) (n := 2) (by omega) (by omega)
    have hrp := hx.2.2.1 g r' (by omega) (by omega)
    have hxb := xb_le (ab_up a g r')
    refine lv_aload_n X.1 X.2.1 d_CG_restart_8 rfl (lv_at hl 0 rfl) ?_
    refine gg_CG_18 X hP d_CG_restart_9 ?_
    refine lv_iload_n X.1 X.2.1 d_CG_restart_12 rfl (lv_at hl 1 rfl) ?_
    refine gr_gs (by omega) X hP d_CG_restart_13 ?_
    refine gg_CG_135 (by omega) X hP d_CG_restart_14 ?_
    refine lv_iload_n X.1 X.2.1 d_CG_restart_17 rfl (lv_at hl 2 rfl) ?_
    refine gr_nRs (by omega) (by omega) X hP d_CG_restart_18 ?_
    refine gg_CG_139 (by omega) (by omega) X hP d_CG_restart_19 ?_
    rw [hrp.1]
    refine gx_if_eq X.1 X.2.1 (tgt := 27) d_CG_restart_22 (by decide) (by omega) (fun h22 => ?_) (fun h22 => ?_)
    · skip
      refine lv_aload_n X.1 X.2.1 d_CG_restart_27 rfl (lv_at hl 0 rfl) ?_
      refine gg_CG_18 X hP d_CG_restart_28 ?_
      refine lv_iload_n X.1 X.2.1 d_CG_restart_31 rfl (lv_at hl 1 rfl) ?_
      refine gr_gs (by omega) X hP d_CG_restart_32 ?_
      refine gg_CG_135 (by omega) X hP d_CG_restart_33 ?_
      refine lv_iload_n X.1 X.2.1 d_CG_restart_36 rfl (lv_at hl 2 rfl) ?_
      refine gr_nRs (by omega) (by omega) X hP d_CG_restart_37 ?_
      refine lv_iconst (v := nI 1) X.1 X.2.1 d_CG_restart_38 (by decide) ?_
      refine gp_CG_139 (by omega) (by omega) (by omega) X hJ hP hS d_CG_restart_39 (fun H locs hP hS => ?_)
      refine lv_iconst (v := nI 1) X.1 X.2.1 d_CG_restart_42 (by decide) ?_
      refine gx_zret X.1 X.2.1 hr hlk hP hS d_CG_restart_43 (by decide) ?_
      have e : ab_restart a (nI g).toInt (nI r').toInt = (true, ab_setup a g r' true) := by
        unfold ab_restart
        rw [if_pos ⟨⟨by omega, by omega, by omega, by omega⟩, by rw [g3, r3]; exact xb_zero.mp h22⟩, g3, r3]
      rw [e]
      exact ⟨rfl, xr_up hx (by omega) (by omega) true, fun n hn => gx_w_row _ _ _ (fun z => by obtain ⟨g', r'', b1, b2, b3⟩ := fR_num (n := n) (z ▸ ⟨g, r', by omega, by omega, Or.inl rfl⟩); omega)⟩
    · skip
      refine lv_iconst (v := nI 0) X.1 X.2.1 d_CG_restart_25 (by decide) ?_
      refine gx_zret X.1 X.2.1 hr hlk hP hS d_CG_restart_26 (by decide) ?_
      have e : ab_restart a (nI g).toInt (nI r').toInt = (false, a) := by
        unfold ab_restart
        refine if_neg (fun hh => ?_)
        have := hh.2
        rw [g3, r3] at this
        have z := xb_one.mp (show xb (ab_up a g r') = 1 by omega)
        rw [z] at this; exact absurd this (by decide)
      rw [e]
      exact ⟨rfl, hx, fun n _ => rfl⟩
set_option maxRecDepth 100000 in
set_option maxHeartbeats 4000000 in
theorem K_CG_vote (l : Launch) (dC : Nat → ClassId) (dI : Nat → Nat → Nat) (cx : Nat → ClassId) (ad : Nat → Nat) (hJ : gx_J gx_N ad (gx_A gx_N ad)) (σ : gx_M) (a : ab_S) (tq sq : Int32) (hw : ab_W a) (hx : xr σ a) : cg_Mi l dC dI cx ad y_CG_vote w_CG_vote 1 [.ref (ad 0), .int tq, .int sq] σ (fun r σ' => σ' = σ ∧ r = nI (ab_vote a tq.toInt sq.toInt)) := by
  refine gx_ofW (cc := c_CG_vote) (maxL := 3) (ret := (Option.some Jvm.ClassFile.FieldType.int)) (by decide) rfl (Nat.le_of_ble_eq_true rfl) ?_
  intro p e s m below meth c ls S hr hlk hK hN hl hP
  have X : cg_X c_CG_vote "CommitGroups" 3 dC dI cx p m c s _ := ⟨S.1, S.2.1, S.2.2.2.1, fun w h => S.2.2.2.2 w (List.mem_cons_of_mem _ h), hK, hN, S.2.2.1⟩
  have hS : va_S (gx_A gx_N ad) s.heap s.heap [] := va_S.rf
  have hl : lv_has ls 3 [(0, .ref (ad 0)), (1, .int tq), (2, .int sq)] := hl
  have hn : σ 0 5 = ab_n a := hx.1
  have hn20 := hw.1
  refine lv_aload_n X.1 X.2.1 d_CG_vote_0 rfl (lv_at hl 0 rfl) ?_
  refine lv_iload_n X.1 X.2.1 d_CG_vote_1 rfl (lv_at hl 1 rfl) ?_
  refine cv_CG_57 (rest := []) X hJ hP hS (by decide) (ec_CG _) (K_CG_isTransaction l dC dI cx ad hJ σ tq (by omega)) rfl rfl (by decide) hl.1 (Nat.le_of_ble_eq_true rfl) ⟨Nat.le_refl _, Nat.le_refl _⟩ d_CG_vote_2 (fun r σ' H locs hq hP hS => ?_)
  obtain ⟨hq0, b2, rfl, hb2, hp2⟩ := hq
  rw [hq0] at hP
  rw [hn] at hp2
  refine gx_if_eq X.1 X.2.1 (tgt := 15) d_CG_vote_5 (by decide) (by omega) (fun h5 => ?_) (fun h5 => ?_)
  · skip
    refine lv_iconst (v := nI 0) X.1 X.2.1 d_CG_vote_15 (by decide) ?_
    refine gx_iret X.1 X.2.1 hr hlk hP hS d_CG_vote_16 ?_
    refine ⟨rfl, ?_⟩
    unfold ab_vote
    rw [if_neg (fun hh => ?_)]
    have := hp2.mpr ⟨hh.1.1, hh.1.2⟩; omega
  · skip
    refine lv_iload_n X.1 X.2.1 d_CG_vote_8 rfl (lv_at hl 2 rfl) ?_
    refine cv_CG_116 (rest := []) X hJ hP hS (K_CG_isShard l dC dI cx ad hJ _ sq) rfl rfl (by decide) hl.1 (Nat.le_of_ble_eq_true rfl) ⟨Nat.le_refl _, Nat.le_refl _⟩ d_CG_vote_9 (fun r σ' H locs hq hP hS => ?_)
    obtain ⟨hq0, b9, rfl, hb9, hp9⟩ := hq
    rw [hq0] at hP
    refine gx_if_ne X.1 X.2.1 (tgt := 17) d_CG_vote_12 (by decide) (by omega) (fun h12 => ?_) (fun h12 => ?_)
    · skip
      have hh2 := hp2.mp (by omega)
      have hh9 := hp9.mp (by omega)
      obtain ⟨u, rfl, u1, u2, u3⟩ := gi_of (t := tq) (n := ab_n a) (by omega) (by omega)
      obtain ⟨x, rfl, x1, x2, x3⟩ := gi_of (t := sq) (n := 2) (by omega) (by omega)
      refine lv_aload_n X.1 X.2.1 d_CG_vote_17 rfl (lv_at hl 0 rfl) ?_
      refine gg_CG_37 X hP d_CG_vote_18 ?_
      refine gg_CG_119 X hP d_CG_vote_21 ?_
      refine lv_iload_n X.1 X.2.1 d_CG_vote_24 rfl (lv_at hl 1 rfl) ?_
      refine lv_iconst (v := nI 3) X.1 X.2.1 d_CG_vote_25 (by decide) ?_
      refine gx_imul X.1 X.2.1 d_CG_vote_26 ?_
      refine lv_iload_n X.1 X.2.1 d_CG_vote_27 rfl (lv_at hl 2 rfl) ?_
      refine gx_iadd X.1 X.2.1 d_CG_vote_28 ?_
      refine ga_111 (by omega) X hP d_CG_vote_29 ?_
      rw [show σ 111 (u * 3 + x) = ab_kv a u x by rw [Nat.mul_comm]; exact hx.2.2.2.2.2.2.1 u x (by omega) (by omega)]
      refine gx_iret X.1 X.2.1 hr hlk hP hS d_CG_vote_30 ?_
      refine ⟨rfl, ?_⟩
      unfold ab_vote
      rw [if_pos ⟨⟨by omega, by omega⟩, by omega, by omega⟩, u3, x3]
    · skip
      refine lv_iconst (v := nI 0) X.1 X.2.1 d_CG_vote_15 (by decide) ?_
      refine gx_iret X.1 X.2.1 hr hlk hP hS d_CG_vote_16 ?_
      refine ⟨rfl, ?_⟩
      unfold ab_vote
      rw [if_neg (fun hh => ?_)]
      have := hp9.mpr ⟨hh.2.1, by have := hh.2.2; omega⟩; omega
set_option maxRecDepth 100000 in
set_option maxHeartbeats 4000000 in
theorem K_CG_outcome (l : Launch) (dC : Nat → ClassId) (dI : Nat → Nat → Nat) (cx : Nat → ClassId) (ad : Nat → Nat) (hJ : gx_J gx_N ad (gx_A gx_N ad)) (σ : gx_M) (a : ab_S) (tq : Int32) (hw : ab_W a) (hx : xr σ a) : cg_Mi l dC dI cx ad y_CG_outcome w_CG_outcome 1 [.ref (ad 0), .int tq] σ (fun r σ' => σ' = σ ∧ r = nI (ab_outcome a tq.toInt)) := by
  refine gx_ofW (cc := c_CG_outcome) (maxL := 2) (ret := (Option.some Jvm.ClassFile.FieldType.int)) (by decide) rfl (Nat.le_of_ble_eq_true rfl) ?_
  intro p e s m below meth c ls S hr hlk hK hN hl hP
  have X : cg_X c_CG_outcome "CommitGroups" 2 dC dI cx p m c s _ := ⟨S.1, S.2.1, S.2.2.2.1, fun w h => S.2.2.2.2 w (List.mem_cons_of_mem _ h), hK, hN, S.2.2.1⟩
  have hS : va_S (gx_A gx_N ad) s.heap s.heap [] := va_S.rf
  have hl : lv_has ls 2 [(0, .ref (ad 0)), (1, .int tq)] := hl
  have hn : σ 0 5 = ab_n a := hx.1
  have hn20 := hw.1
  refine lv_aload_n X.1 X.2.1 d_CG_outcome_0 rfl (lv_at hl 0 rfl) ?_
  refine lv_iload_n X.1 X.2.1 d_CG_outcome_1 rfl (lv_at hl 1 rfl) ?_
  refine cv_CG_57 (rest := []) X hJ hP hS (by decide) (ec_CG _) (K_CG_isTransaction l dC dI cx ad hJ σ tq (by omega)) rfl rfl (by decide) hl.1 (Nat.le_of_ble_eq_true rfl) ⟨Nat.le_refl _, Nat.le_refl _⟩ d_CG_outcome_2 (fun r σ' H locs hq hP hS => ?_)
  obtain ⟨hq0, b2, rfl, hb2, hp2⟩ := hq
  rw [hq0] at hP
  rw [hn] at hp2
  refine gx_if_ne X.1 X.2.1 (tgt := 10) d_CG_outcome_5 (by decide) (by omega) (fun h5 => ?_) (fun h5 => ?_)
  · skip
    have hh2 := hp2.mp (by omega)
    obtain ⟨u, rfl, u1, u2, u3⟩ := gi_of (t := tq) (n := ab_n a) (by omega) (by omega)
    refine lv_aload_n X.1 X.2.1 d_CG_outcome_10 rfl (lv_at hl 0 rfl) ?_
    refine gg_CG_37 X hP d_CG_outcome_11 ?_
    refine gg_CG_98 X hP d_CG_outcome_14 ?_
    refine lv_iload_n X.1 X.2.1 d_CG_outcome_17 rfl (lv_at hl 1 rfl) ?_
    refine ga_112 (by omega) X hP d_CG_outcome_18 ?_
    rw [hx.2.2.2.2.2.2.2.1 u (by omega)]
    refine gx_iret X.1 X.2.1 hr hlk hP hS d_CG_outcome_19 ?_
    refine ⟨rfl, ?_⟩
    unfold ab_outcome
    rw [if_pos ⟨by omega, by omega⟩, u3]
  · skip
    refine lv_iconst (v := nI 0) X.1 X.2.1 d_CG_outcome_8 (by decide) ?_
    refine gx_iret X.1 X.2.1 hr hlk hP hS d_CG_outcome_9 ?_
    refine ⟨rfl, ?_⟩
    unfold ab_outcome
    rw [if_neg (fun hh => ?_)]
    have := hp2.mpr ⟨hh.1, hh.2⟩; omega
set_option maxRecDepth 100000 in
set_option maxHeartbeats 4000000 in
theorem K_CG_halt (l : Launch) (dC : Nat → ClassId) (dI : Nat → Nat → Nat) (cx : Nat → ClassId) (ad : Nat → Nat) (hJ : gx_J gx_N ad (gx_A gx_N ad)) (σ : gx_M) (a : ab_S) (hw : ab_W a) (hx : xr σ a) : cg_Mi l dC dI cx ad y_CG_halt w_CG_halt 2 [.ref (ad 0)] σ (fun r σ' => r = nI (xb (ab_halt a).1) ∧ xr σ' (ab_halt a).2 ∧ ∀ n, 224 ≤ n → σ' n = σ n) := by
  refine gx_ofW (cc := c_CG_halt) (maxL := 1) (ret := (Option.some Jvm.ClassFile.FieldType.boolean)) (by decide) rfl (Nat.le_of_ble_eq_true rfl) ?_
  intro p e s m below meth c ls S hr hlk hK hN hl hP
  have X : cg_X c_CG_halt "CommitGroups" 1 dC dI cx p m c s _ := ⟨S.1, S.2.1, S.2.2.2.1, fun w h => S.2.2.2.2 w (List.mem_cons_of_mem _ h), hK, hN, S.2.2.1⟩
  have hS : va_S (gx_A gx_N ad) s.heap s.heap [] := va_S.rf
  have hl : lv_has ls 1 [(0, .ref (ad 0))] := hl
  have hxb := xb_le (!ab_ha a)
  refine lv_aload_n X.1 X.2.1 d_CG_halt_0 rfl (lv_at hl 0 rfl) ?_
  refine gg_CG_37 X hP d_CG_halt_1 ?_
  refine gg_CG_151 X hP d_CG_halt_4 ?_
  rw [hx.2.2.2.2.2.1]
  refine gx_if_ne X.1 X.2.1 (tgt := 12) d_CG_halt_7 (by decide) (by omega) (fun h7 => ?_) (fun h7 => ?_)
  · skip
    refine lv_aload_n X.1 X.2.1 d_CG_halt_12 rfl (lv_at hl 0 rfl) ?_
    refine gg_CG_37 X hP d_CG_halt_13 ?_
    refine lv_iconst (v := nI 0) X.1 X.2.1 d_CG_halt_16 (by decide) ?_
    refine gp_CG_151 (by omega) X hJ hP hS d_CG_halt_17 (fun H locs hP hS => ?_)
    refine lv_aload_n X.1 X.2.1 d_CG_halt_20 rfl (lv_at hl 0 rfl) ?_
    refine gg_CG_37 X hP d_CG_halt_21 ?_
    refine cv_CG_152 (rest := []) X hJ hP hS (by decide) (ec_Co _) (K_Co_forget l dC dI cx ad hJ _) rfl rfl (by decide) hl.1 (Nat.le_of_ble_eq_true rfl) ⟨Nat.le_refl _, Nat.le_refl _⟩ d_CG_halt_24 (fun σ' H locs hq hP hS => ?_)
    obtain ⟨q1, q2, q3⟩ := hq
    refine lv_iconst (v := nI 1) X.1 X.2.1 d_CG_halt_27 (by decide) ?_
    refine gx_zret X.1 X.2.1 hr hlk hP hS d_CG_halt_28 (by decide) ?_
    have hh : ab_ha a = false := by have := xb_one.mp (show xb (!ab_ha a) = 1 by omega); simpa using this
    have e : ab_halt a = (true, ab_forget a) := by unfold ab_halt; exact if_neg (by rw [hh]; decide)
    rw [e]
    exact ⟨rfl, xr_forget hx q1 q2 q3, fun n hn => by rw [q1 n (by omega), gx_w_row _ _ _ (by omega)]⟩
  · skip
    refine lv_iconst (v := nI 0) X.1 X.2.1 d_CG_halt_10 (by decide) ?_
    refine gx_zret X.1 X.2.1 hr hlk hP hS d_CG_halt_11 (by decide) ?_
    have hh : ab_ha a = true := by have := xb_zero.mp h7; simpa using this
    have e : ab_halt a = (false, a) := by unfold ab_halt; exact if_pos hh
    rw [e]
    exact ⟨rfl, hx, fun n _ => rfl⟩
set_option maxRecDepth 100000 in
set_option maxHeartbeats 4000000 in
theorem K_CG_resume (l : Launch) (dC : Nat → ClassId) (dI : Nat → Nat → Nat) (cx : Nat → ClassId) (ad : Nat → Nat) (hJ : gx_J gx_N ad (gx_A gx_N ad)) (σ : gx_M) (a : ab_S) (hw : ab_W a) (hx : xr σ a) : cg_Mi l dC dI cx ad y_CG_resume w_CG_resume 0 [.ref (ad 0)] σ (fun r σ' => r = nI (xb (ab_resume a).1) ∧ xr σ' (ab_resume a).2 ∧ ∀ n, 224 ≤ n → σ' n = σ n) := by
  refine gx_ofW (cc := c_CG_resume) (maxL := 1) (ret := (Option.some Jvm.ClassFile.FieldType.boolean)) (by decide) rfl (Nat.le_of_ble_eq_true rfl) ?_
  intro p e s m below meth c ls S hr hlk hK hN hl hP
  have X : cg_X c_CG_resume "CommitGroups" 1 dC dI cx p m c s _ := ⟨S.1, S.2.1, S.2.2.2.1, fun w h => S.2.2.2.2 w (List.mem_cons_of_mem _ h), hK, hN, S.2.2.1⟩
  have hS : va_S (gx_A gx_N ad) s.heap s.heap [] := va_S.rf
  have hl : lv_has ls 1 [(0, .ref (ad 0))] := hl
  have hxb := xb_le (!ab_ha a)
  refine lv_aload_n X.1 X.2.1 d_CG_resume_0 rfl (lv_at hl 0 rfl) ?_
  refine gg_CG_37 X hP d_CG_resume_1 ?_
  refine gg_CG_151 X hP d_CG_resume_4 ?_
  rw [hx.2.2.2.2.2.1]
  refine gx_if_eq X.1 X.2.1 (tgt := 12) d_CG_resume_7 (by decide) (by omega) (fun h7 => ?_) (fun h7 => ?_)
  · skip
    refine lv_aload_n X.1 X.2.1 d_CG_resume_12 rfl (lv_at hl 0 rfl) ?_
    refine gg_CG_37 X hP d_CG_resume_13 ?_
    refine lv_iconst (v := nI 1) X.1 X.2.1 d_CG_resume_16 (by decide) ?_
    refine gp_CG_151 (by omega) X hJ hP hS d_CG_resume_17 (fun H locs hP hS => ?_)
    refine lv_iconst (v := nI 1) X.1 X.2.1 d_CG_resume_20 (by decide) ?_
    refine gx_zret X.1 X.2.1 hr hlk hP hS d_CG_resume_21 (by decide) ?_
    have hh : ab_ha a = true := by have := xb_zero.mp h7; simpa using this
    have e : ab_resume a = (true, ab_setha a false) := by unfold ab_resume; exact if_pos hh
    rw [e]
    exact ⟨rfl, xr_setha hx false, fun n hn => gx_w_row _ _ _ (by omega)⟩
  · skip
    refine lv_iconst (v := nI 0) X.1 X.2.1 d_CG_resume_10 (by decide) ?_
    refine gx_zret X.1 X.2.1 hr hlk hP hS d_CG_resume_11 (by decide) ?_
    have hh : ab_ha a = false := by have := xb_one.mp (show xb (!ab_ha a) = 1 by omega); simpa using this
    have e : ab_resume a = (false, a) := by unfold ab_resume; exact if_neg (by rw [hh]; decide)
    rw [e]
    exact ⟨rfl, hx, fun n _ => rfl⟩
