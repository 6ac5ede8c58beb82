/-! contracts: the reference's calls -/
set_option maxRecDepth 100000 in
set_option maxHeartbeats 4000000 in
theorem K_Mo_propose (l : Launch) (dC : Nat → ClassId) (dI : Nat → Nat → Nat) (cx : Nat → ClassId) (ad : Nat → Nat) (hJ : gx_J gx_N ad (gx_A gx_N ad)) (σ : gx_M) (a : ab_S) (B : Nat) (k u : Nat) (bb : Bool) (I : ab_I B a) (hB : B + 3 < 2 ^ 30) (hx : mr σ a) (hu1 : 1 ≤ u) (hu2 : u ≤ ab_n a) (hk : k ≤ 2) (hI2 : ab_I B (ab_log a 3 (k, u)).2) : cg_Mi l dC dI cx ad y_Mo_propose w_Mo_propose 5 [.ref (ad 224), .int (nI u), .int (nI (k + 1)), .int (nI (xb bb))] σ (fun r σ' => r = Int32.ofInt (ab_propose a k u bb).1 ∧ mr σ' (ab_propose a k u bb).2 ∧ ∀ n, n < 224 → σ' n = σ n) := by
  refine gx_ofW (cc := c_Mo_propose) (maxL := 6) (ret := (Option.some Jvm.ClassFile.FieldType.int)) (by decide) rfl (Nat.le_of_ble_eq_true rfl) ?_
  intro p e s m below meth c ls S hr hlk hK hN hl hP
  have X : cg_X c_Mo_propose "CommitGroupsModel" 6 dC dI cx p m c s _ := ⟨S.1, S.2.1, S.2.2.2.1, fun w h => S.2.2.2.2 w (List.mem_cons_of_mem _ h), hK, hN, S.2.2.1⟩
  have hS : va_S (gx_A gx_N ad) s.heap s.heap [] := va_S.rf
  have hl : lv_has ls 6 [(0, .ref (ad 224)), (1, .int (nI u)), (2, .int (nI (k + 1))), (3, .int (nI (xb bb)))] := hl
  have hw := ab_W_of I (by omega)
  have hn : σ 224 0 = ab_n a := hx.1
  have hn20 := hw.1
  have hv := ab_V_of I
  have hxb := xb_le bb
  have hw2 := ab_W_of hI2 (by omega)
  refine lv_aload_n X.1 X.2.1 d_Mo_propose_0 rfl (lv_at hl 0 rfl) ?_
  refine lv_iconst (v := nI 3) X.1 X.2.1 d_Mo_propose_1 (by decide) ?_
  refine cv_Mo_97 (rest := []) X hJ hP hS (by decide) (ec_Mo_0 _) (K_Mo_leader l dC dI cx ad hJ _ a (nI 3) hx hw) rfl rfl (by decide) hl.1 (Nat.le_of_ble_eq_true rfl) ⟨Nat.le_refl _, Nat.le_refl _⟩ d_Mo_propose_2 (fun r σ' H locs hq hP hS => ?_)
  obtain ⟨hq0, rfl⟩ := hq
  rw [hq0] at hP
  rcases ab_leader_c a (g := 3) (by decide) with ⟨hld, hqr⟩ | ⟨hld, hlt, hup, hqr⟩ <;> rw [hqr]
  · skip
    refine lv_istore X.1 X.2.1 d_Mo_propose_5 hl (by decide) rfl (fun ls hl => ?_)
    have hl : lv_has ls 6 [(4, .int (-1)), (0, .ref (ad 224)), (1, .int (nI u)), (2, .int (nI (k + 1))), (3, .int (nI (xb bb)))] := hl
    refine lv_iload X.1 X.2.1 d_Mo_propose_7 (lv_at hl 0 rfl) ?_
    refine lv_if_ge X.1 X.2.1 (tgt := 15) d_Mo_propose_9 (by decide) (fun h9 => absurd h9 (by decide)) (fun h9 => ?_)
    refine lv_bipush (v := -3) X.1 X.2.1 d_Mo_propose_12 (by decide) ?_
    refine gx_iret X.1 X.2.1 hr hlk hP hS d_Mo_propose_14 ?_
    rw [ab_propose_nl hld]
    exact ⟨rfl, hx, fun n _ => rfl⟩
  · skip
    have hl3 : ab_ld a 3 ≠ 3 := by omega
    have hd2 := ab_ds_le hw hld u (ab_dn a 3 (ab_ld a 3))
    rw [ab_setdn_id] at hd2
    refine lv_istore X.1 X.2.1 d_Mo_propose_5 hl (by decide) rfl (fun ls hl => ?_)
    have hl : lv_has ls 6 [(4, .int (nI (ab_ld a 3))), (0, .ref (ad 224)), (1, .int (nI u)), (2, .int (nI (k + 1))), (3, .int (nI (xb bb)))] := hl
    refine lv_iload X.1 X.2.1 d_Mo_propose_7 (lv_at hl 0 rfl) ?_
    refine gx_if_ge X.1 X.2.1 (tgt := 15) d_Mo_propose_9 (by decide) (by omega) ?_
    refine lv_aload_n X.1 X.2.1 d_Mo_propose_15 rfl (lv_at hl 1 rfl) ?_
    refine lv_iconst (v := nI 3) X.1 X.2.1 d_Mo_propose_16 (by decide) ?_
    refine lv_iload X.1 X.2.1 d_Mo_propose_17 (lv_at hl 0 rfl) ?_
    refine cv_Mo_113 (rest := []) X hJ hP hS (by decide) (ec_Mo_0 _) (K_Mo_work_d l dC dI cx ad hJ _ a (ab_ld a 3) hx hw hv hld) rfl rfl (by decide) hl.1 (Nat.le_of_ble_eq_true rfl) ⟨Nat.le_refl _, Nat.le_refl _⟩ d_Mo_propose_19 (fun σ' H locs hq hP hS => ?_)
    obtain ⟨w1, w2⟩ := hq
    refine lv_aload_n X.1 X.2.1 d_Mo_propose_22 rfl (lv_at hl 1 rfl) ?_
    refine gg_Mo_53 X hP d_Mo_propose_23 ?_
    refine lv_iload_n X.1 X.2.1 d_Mo_propose_26 rfl (lv_at hl 2 rfl) ?_
    refine ga_239 (by omega) X hP d_Mo_propose_27 ?_
    rw [w1 u (by omega)]
    refine gx_if_ne X.1 X.2.1 (tgt := 55) d_Mo_propose_28 (by decide) (by omega) (fun h28 => ?_) (fun h28 => ?_)
    · skip
      refine lv_iload_n X.1 X.2.1 d_Mo_propose_55 rfl (lv_at hl 4 rfl) ?_
      refine gx_if_ne X.1 X.2.1 (tgt := 61) d_Mo_propose_56 (by decide) (by omega) (fun h56 => ?_) (fun h56 => ?_)
      · skip
        refine lv_aload_n X.1 X.2.1 d_Mo_propose_61 rfl (lv_at hl 1 rfl) ?_
        refine gg_Mo_44 X hP d_Mo_propose_62 ?_
        refine lv_iload_n X.1 X.2.1 d_Mo_propose_65 rfl (lv_at hl 2 rfl) ?_
        refine lv_aload_n X.1 X.2.1 d_Mo_propose_66 rfl (lv_at hl 1 rfl) ?_
        refine gg_Mo_53 X hP d_Mo_propose_67 ?_
        refine lv_iload_n X.1 X.2.1 d_Mo_propose_70 rfl (lv_at hl 2 rfl) ?_
        refine ga_239 (by omega) X hP d_Mo_propose_71 ?_
        rw [w1 u (by omega)]
        refine gs_236 (by omega) X hJ hP hS d_Mo_propose_72 (fun H locs hP hS => ?_)
        refine lv_aload_n X.1 X.2.1 d_Mo_propose_73 rfl (lv_at hl 1 rfl) ?_
        refine gg_Mo_44 X hP d_Mo_propose_74 ?_
        refine lv_iload_n X.1 X.2.1 d_Mo_propose_77 rfl (lv_at hl 2 rfl) ?_
        refine ga_236 (by omega) X hP d_Mo_propose_78 ?_
        rw [gx_w_self]
        refine gx_iret X.1 X.2.1 hr hlk hP hS d_Mo_propose_79 ?_
        have hbt : bb = true := xb_one.mp (by omega)
        rw [ab_propose_go hl3 _ rfl, if_neg h28]
        dsimp only
        rw [if_neg (show ¬ ((0 : Int) ≠ 0) by decide), if_neg (by rw [hbt]; decide)]
        exact ⟨rfl, mr_setkd (mr_mC hx w2), fun n hn => by rw [gx_w_row _ _ _ (by omega)]; exact mC_lo w2 n hn⟩
      · skip
        refine lv_iconst (v := nI 3) X.1 X.2.1 d_Mo_propose_59 (by decide) ?_
        refine gx_iret X.1 X.2.1 hr hlk hP hS d_Mo_propose_60 ?_
        rw [ab_propose_go hl3 _ rfl, if_neg h28]
        dsimp only
        rw [if_neg (show ¬ ((0 : Int) ≠ 0) by decide), if_pos (xb_zero.mp h56)]
        exact ⟨rfl, mr_mC hx w2, fun n hn => mC_lo w2 n hn⟩
    · skip
      refine lv_aload_n X.1 X.2.1 d_Mo_propose_31 rfl (lv_at hl 1 rfl) ?_
      refine lv_iconst (v := nI 3) X.1 X.2.1 d_Mo_propose_32 (by decide) ?_
      refine lv_iload_n X.1 X.2.1 d_Mo_propose_33 rfl (lv_at hl 3 rfl) ?_
      refine lv_iload_n X.1 X.2.1 d_Mo_propose_34 rfl (lv_at hl 2 rfl) ?_
      refine cv_Mo_116 (rest := []) X hJ hP hS (by decide) (ec_Mo_0 _) (K_Mo_append l dC dI cx ad hJ σ' a 3 k u (mr_mC hx w2) hw (by decide) hu1 (by omega) hk) rfl rfl (by decide) hl.1 (Nat.le_of_ble_eq_true rfl) ⟨Nat.le_refl _, Nat.le_refl _⟩ d_Mo_propose_35 (fun r υ H locs hq hP hS => ?_)
      obtain ⟨hqr, q1, q2⟩ := hq
      refine lv_istore X.1 X.2.1 d_Mo_propose_38 hl (by decide) rfl (fun ls hl => ?_)
      have hl : lv_has ls 6 [(5, .int r), (4, .int (nI (ab_ld a 3))), (0, .ref (ad 224)), (1, .int (nI u)), (2, .int (nI (k + 1))), (3, .int (nI (xb bb)))] := hl
      refine lv_iload X.1 X.2.1 d_Mo_propose_40 (lv_at hl 0 rfl) ?_
      refine lv_if_ge X.1 X.2.1 (tgt := 48) d_Mo_propose_42 (by decide) (fun h42 => ?_) (fun h42 => ?_)
      · skip
        have hz0 : (ab_log a 3 (k, u)).1 = 0 := ab_log_ge.mp (by rw [← hqr]; exact h42)
        refine lv_aload_n X.1 X.2.1 d_Mo_propose_48 rfl (lv_at hl 2 rfl) ?_
        refine lv_iconst (v := nI 3) X.1 X.2.1 d_Mo_propose_49 (by decide) ?_
        refine lv_iload X.1 X.2.1 d_Mo_propose_50 (lv_at hl 1 rfl) ?_
        refine cv_Mo_113 (rest := []) X hJ hP hS (by decide) (ec_Mo_0 _) (K_Mo_work_d l dC dI cx ad hJ υ (ab_log a 3 (k, u)).2 (ab_ld a 3) q1 hw2 (ab_V_of hI2) hld) rfl rfl (by decide) hl.1 (Nat.le_of_ble_eq_true rfl) ⟨Nat.le_refl _, Nat.le_refl _⟩ d_Mo_propose_52 (fun ω H locs hq hP hS => ?_)
        obtain ⟨w3, w4⟩ := hq
        refine lv_iload_n X.1 X.2.1 d_Mo_propose_55 rfl (lv_at hl 5 rfl) ?_
        refine gx_if_ne X.1 X.2.1 (tgt := 61) d_Mo_propose_56 (by decide) (by omega) (fun h56 => ?_) (fun h56 => ?_)
        · skip
          refine lv_aload_n X.1 X.2.1 d_Mo_propose_61 rfl (lv_at hl 2 rfl) ?_
          refine gg_Mo_44 X hP d_Mo_propose_62 ?_
          refine lv_iload_n X.1 X.2.1 d_Mo_propose_65 rfl (lv_at hl 3 rfl) ?_
          refine lv_aload_n X.1 X.2.1 d_Mo_propose_66 rfl (lv_at hl 2 rfl) ?_
          refine gg_Mo_53 X hP d_Mo_propose_67 ?_
          refine lv_iload_n X.1 X.2.1 d_Mo_propose_70 rfl (lv_at hl 3 rfl) ?_
          refine ga_239 (by omega) X hP d_Mo_propose_71 ?_
          rw [w3 u (by omega)]
          refine gs_236 (by omega) X hJ hP hS d_Mo_propose_72 (fun H locs hP hS => ?_)
          refine lv_aload_n X.1 X.2.1 d_Mo_propose_73 rfl (lv_at hl 2 rfl) ?_
          refine gg_Mo_44 X hP d_Mo_propose_74 ?_
          refine lv_iload_n X.1 X.2.1 d_Mo_propose_77 rfl (lv_at hl 3 rfl) ?_
          refine ga_236 (by omega) X hP d_Mo_propose_78 ?_
          rw [gx_w_self]
          refine gx_iret X.1 X.2.1 hr hlk hP hS d_Mo_propose_79 ?_
          have hbt : bb = true := xb_one.mp (by omega)
          rw [ab_propose_go hl3 _ rfl, if_pos h28, if_neg (fun z => z hz0), if_neg (by rw [hbt]; decide)]
          exact ⟨rfl, mr_setkd (mr_mC q1 w4), fun n hn => by rw [gx_w_row _ _ _ (by omega), mC_lo w4 n hn, q2 n (by omega), mC_lo w2 n hn]⟩
        · skip
          refine lv_iconst (v := nI 3) X.1 X.2.1 d_Mo_propose_59 (by decide) ?_
          refine gx_iret X.1 X.2.1 hr hlk hP hS d_Mo_propose_60 ?_
          rw [ab_propose_go hl3 _ rfl, if_pos h28, if_neg (fun z => z hz0), if_pos (xb_zero.mp h56)]
          exact ⟨rfl, mr_mC q1 w4, fun n hn => by rw [mC_lo w4 n hn, q2 n (by omega), mC_lo w2 n hn]⟩
      · skip
        have hz0 : (ab_log a 3 (k, u)).1 ≠ 0 := fun z => h42 (by rw [hqr]; exact ab_log_ge.mpr z)
        refine lv_iload X.1 X.2.1 d_Mo_propose_45 (lv_at hl 0 rfl) ?_
        refine gx_iret X.1 X.2.1 hr hlk hP hS d_Mo_propose_47 ?_
        rw [ab_propose_go hl3 _ rfl, if_pos h28, if_pos hz0]
        exact ⟨hqr, q1, fun n hn => by rw [q2 n (by omega), mC_lo w2 n hn]⟩
set_option maxRecDepth 100000 in
set_option maxHeartbeats 4000000 in
theorem K_Mo_prepare (l : Launch) (dC : Nat → ClassId) (dI : Nat → Nat → Nat) (cx : Nat → ClassId) (ad : Nat → Nat) (hJ : gx_J gx_N ad (gx_A gx_N ad)) (σ : gx_M) (a : ab_S) (B : Nat) (tq sq : Int32) (bb : Bool) (I : ab_I B a) (hB : B + 3 < 2 ^ 30) (hx : mr σ a) : cg_Mi l dC dI cx ad y_Mo_prepare w_Mo_prepare 5 [.ref (ad 224), .int tq, .int sq, .int (nI (xb bb))] σ (fun r σ' => r = Int32.ofInt (ab_prepare a tq.toInt sq.toInt bb).1 ∧ mr σ' (ab_prepare a tq.toInt sq.toInt bb).2 ∧ ∀ n, n < 224 → σ' n = σ n) := by
  refine gx_ofW (cc := c_Mo_prepare) (maxL := 7) (ret := (Option.some Jvm.ClassFile.FieldType.int)) (by decide) rfl (Nat.le_of_ble_eq_true rfl) ?_
  intro p e s m below meth c ls S hr hlk hK hN hl hP
  have X : cg_X c_Mo_prepare "CommitGroupsModel" 7 dC dI cx p m c s _ := ⟨S.1, S.2.1, S.2.2.2.1, fun w h => S.2.2.2.2 w (List.mem_cons_of_mem _ h), hK, hN, S.2.2.1⟩
  have hS : va_S (gx_A gx_N ad) s.heap s.heap [] := va_S.rf
  have hl : lv_has ls 7 [(0, .ref (ad 224)), (1, .int tq), (2, .int sq), (3, .int (nI (xb bb)))] := hl
  have hw := ab_W_of I (by omega)
  have hn : σ 224 0 = ab_n a := hx.1
  have hn20 := hw.1
  have hv := ab_V_of I
  have hxb := xb_le bb
  refine lv_aload_n X.1 X.2.1 d_Mo_prepare_0 rfl (lv_at hl 0 rfl) ?_
  refine lv_iload_n X.1 X.2.1 d_Mo_prepare_1 rfl (lv_at hl 1 rfl) ?_
  refine lv_iload_n X.1 X.2.1 d_Mo_prepare_2 rfl (lv_at hl 2 rfl) ?_
  refine cv_Mo_110 (rest := []) X hJ hP hS (by decide) (ec_Mo_0 _) (K_Mo_refusal l dC dI cx ad hJ σ a tq sq hw hx) rfl rfl (by decide) hl.1 (Nat.le_of_ble_eq_true rfl) ⟨Nat.le_refl _, Nat.le_refl _⟩ d_Mo_prepare_3 (fun r σ' H locs hq hP hS => ?_)
  obtain ⟨hq0, hq⟩ := hq
  rw [hq0] at hP
  rcases hq with ⟨hok, rfl⟩ | ⟨hok, hha, rfl⟩ | ⟨hok, hha, rfl⟩
  · skip
    refine lv_istore X.1 X.2.1 d_Mo_prepare_6 hl (by decide) rfl (fun ls hl => ?_)
    have hl : lv_has ls 7 [(4, .int (-1)), (0, .ref (ad 224)), (1, .int tq), (2, .int sq), (3, .int (nI (xb bb)))] := hl
    refine lv_iload X.1 X.2.1 d_Mo_prepare_8 (lv_at hl 0 rfl) ?_
    refine lv_if_ge X.1 X.2.1 (tgt := 16) d_Mo_prepare_10 (by decide) (fun h10 => absurd h10 (by decide)) (fun h10 => ?_)
    refine lv_iload X.1 X.2.1 d_Mo_prepare_13 (lv_at hl 0 rfl) ?_
    refine gx_iret X.1 X.2.1 hr hlk hP hS d_Mo_prepare_15 ?_
    rw [ab_prepare_bad hok]
    exact ⟨rfl, hx, fun n _ => rfl⟩
  · skip
    refine lv_istore X.1 X.2.1 d_Mo_prepare_6 hl (by decide) rfl (fun ls hl => ?_)
    have hl : lv_has ls 7 [(4, .int (-2)), (0, .ref (ad 224)), (1, .int tq), (2, .int sq), (3, .int (nI (xb bb)))] := hl
    refine lv_iload X.1 X.2.1 d_Mo_prepare_8 (lv_at hl 0 rfl) ?_
    refine lv_if_ge X.1 X.2.1 (tgt := 16) d_Mo_prepare_10 (by decide) (fun h10 => absurd h10 (by decide)) (fun h10 => ?_)
    refine lv_iload X.1 X.2.1 d_Mo_prepare_13 (lv_at hl 0 rfl) ?_
    refine gx_iret X.1 X.2.1 hr hlk hP hS d_Mo_prepare_15 ?_
    rw [ab_prepare_ha hok hha]
    exact ⟨rfl, hx, fun n _ => rfl⟩
  · skip
    refine lv_istore X.1 X.2.1 d_Mo_prepare_6 hl (by decide) rfl (fun ls hl => ?_)
    have hl : lv_has ls 7 [(4, .int (nI 0)), (0, .ref (ad 224)), (1, .int tq), (2, .int sq), (3, .int (nI (xb bb)))] := hl
    refine lv_iload X.1 X.2.1 d_Mo_prepare_8 (lv_at hl 0 rfl) ?_
    refine gx_if_ge X.1 X.2.1 (tgt := 16) d_Mo_prepare_10 (by decide) (by omega) ?_
    obtain ⟨⟨o1, o2⟩, o3, o4, o5⟩ := id hok
    obtain ⟨u, rfl, u1, u2, u3⟩ := gi_of (t := tq) (n := ab_n a) (by omega) (by omega)
    obtain ⟨x, rfl, x1, x2, x3⟩ := gi_of (t := sq) (n := 2) (by omega) (by omega)
    rw [u3, x3] at o5
    have hxc := mr_close hx (t := u)
    have Ic := ab_I_close I u
    have hwc := ab_W_of Ic (by omega)
    refine lv_aload_n X.1 X.2.1 d_Mo_prepare_16 rfl (lv_at hl 1 rfl) ?_
    refine gg_Mo_13 X hP d_Mo_prepare_17 ?_
    refine lv_iload_n X.1 X.2.1 d_Mo_prepare_20 rfl (lv_at hl 2 rfl) ?_
    refine lv_iconst (v := nI 1) X.1 X.2.1 d_Mo_prepare_21 (by decide) ?_
    refine gs_226 (by omega) (by omega) X hJ hP hS d_Mo_prepare_22 (fun H locs hP hS => ?_)
    refine lv_aload_n X.1 X.2.1 d_Mo_prepare_23 rfl (lv_at hl 1 rfl) ?_
    refine lv_iload_n X.1 X.2.1 d_Mo_prepare_24 rfl (lv_at hl 3 rfl) ?_
    refine cv_Mo_97 (rest := []) X hJ hP hS (by decide) (ec_Mo_0 _) (K_Mo_leader l dC dI cx ad hJ _ (ab_close a u) (nI x) hxc hwc) rfl rfl (by decide) hl.1 (Nat.le_of_ble_eq_true rfl) ⟨Nat.le_refl _, Nat.le_refl _⟩ d_Mo_prepare_25 (fun r σ' H locs hq hP hS => ?_)
    obtain ⟨hq0, rfl⟩ := hq
    rw [hq0] at hP
    rcases ab_leader_c (ab_close a u) (g := x) (by omega) with ⟨hld, hqr⟩ | ⟨hld, hlt, hup, hqr⟩ <;> rw [hqr]
    · skip
      refine lv_istore X.1 X.2.1 d_Mo_prepare_28 hl (by decide) rfl (fun ls hl => ?_)
      have hl : lv_has ls 7 [(5, .int (-1)), (4, .int (nI 0)), (0, .ref (ad 224)), (1, .int (nI u)), (2, .int (nI x)), (3, .int (nI (xb bb)))] := hl
      refine lv_iload X.1 X.2.1 d_Mo_prepare_30 (lv_at hl 0 rfl) ?_
      refine lv_if_ge X.1 X.2.1 (tgt := 38) d_Mo_prepare_32 (by decide) (fun h32 => absurd h32 (by decide)) (fun h32 => ?_)
      refine lv_bipush (v := -3) X.1 X.2.1 d_Mo_prepare_35 (by decide) ?_
      refine gx_iret X.1 X.2.1 hr hlk hP hS d_Mo_prepare_37 ?_
      rw [ab_prepare_nl hok hha (by rw [x3]; exact hld), u3]
      exact ⟨rfl, hxc, fun n hn => gx_w_row _ _ _ (by omega)⟩
    · skip
      have hl3 : ab_ld a x ≠ 3 := by
        have z : ab_ld (ab_close a u) x < 3 := hld
        have z2 : ab_ld (ab_close a u) x = ab_ld a x := rfl
        omega
      have hld : ab_ld a x < 3 := hld
      have hv2 : (ab_ex (ab_close a u) x (ab_ld a x)).1 u ≤ 2 := pu_ex_vo_le _ _ _ _
      show W _ _ _ _ _ _ _ _ _ _ _ _ _ _ _ (F0 m _ _ (.int (nI (ab_ld a x)) :: _))
      refine lv_istore X.1 X.2.1 d_Mo_prepare_28 hl (by decide) rfl (fun ls hl => ?_)
      have hl : lv_has ls 7 [(5, .int (nI (ab_ld a x))), (4, .int (nI 0)), (0, .ref (ad 224)), (1, .int (nI u)), (2, .int (nI x)), (3, .int (nI (xb bb)))] := hl
      refine lv_iload X.1 X.2.1 d_Mo_prepare_30 (lv_at hl 0 rfl) ?_
      refine gx_if_ge X.1 X.2.1 (tgt := 38) d_Mo_prepare_32 (by decide) (by omega) ?_
      refine lv_aload_n X.1 X.2.1 d_Mo_prepare_38 rfl (lv_at hl 2 rfl) ?_
      refine lv_iload_n X.1 X.2.1 d_Mo_prepare_39 rfl (lv_at hl 4 rfl) ?_
      refine lv_iload X.1 X.2.1 d_Mo_prepare_40 (lv_at hl 0 rfl) ?_
      refine cv_Mo_113 (rest := []) X hJ hP hS (by decide) (ec_Mo_0 _) (K_Mo_work_s l dC dI cx ad hJ _ (ab_close a u) x (ab_ld a x) hxc hwc (ab_V_of Ic) (by omega) hld) rfl rfl (by decide) hl.1 (Nat.le_of_ble_eq_true rfl) ⟨Nat.le_refl _, Nat.le_refl _⟩ d_Mo_prepare_42 (fun σ' H locs hq hP hS => ?_)
      obtain ⟨w1, w2⟩ := hq
      refine lv_aload_n X.1 X.2.1 d_Mo_prepare_45 rfl (lv_at hl 2 rfl) ?_
      refine gg_Mo_47 X hP d_Mo_prepare_46 ?_
      refine lv_iload_n X.1 X.2.1 d_Mo_prepare_49 rfl (lv_at hl 3 rfl) ?_
      refine ga_237 (by omega) X hP d_Mo_prepare_50 ?_
      rw [(w1.1 u (by omega)).1]
      refine gx_if_ne X.1 X.2.1 (tgt := 78) d_Mo_prepare_51 (by decide) (by omega) (fun h51 => ?_) (fun h51 => ?_)
      · skip
        refine lv_iload_n X.1 X.2.1 d_Mo_prepare_78 rfl (lv_at hl 5 rfl) ?_
        refine gx_if_ne X.1 X.2.1 (tgt := 84) d_Mo_prepare_79 (by decide) (by omega) (fun h79 => ?_) (fun h79 => ?_)
        · skip
          refine lv_aload_n X.1 X.2.1 d_Mo_prepare_84 rfl (lv_at hl 2 rfl) ?_
          refine gg_Mo_41 X hP d_Mo_prepare_85 ?_
          refine lv_iconst (v := nI 3) X.1 X.2.1 d_Mo_prepare_88 (by decide) ?_
          refine lv_iload_n X.1 X.2.1 d_Mo_prepare_89 rfl (lv_at hl 3 rfl) ?_
          refine gx_imul X.1 X.2.1 d_Mo_prepare_90 ?_
          refine lv_iload_n X.1 X.2.1 d_Mo_prepare_91 rfl (lv_at hl 4 rfl) ?_
          refine gx_iadd X.1 X.2.1 d_Mo_prepare_92 ?_
          refine lv_aload_n X.1 X.2.1 d_Mo_prepare_93 rfl (lv_at hl 2 rfl) ?_
          refine gg_Mo_47 X hP d_Mo_prepare_94 ?_
          refine lv_iload_n X.1 X.2.1 d_Mo_prepare_97 rfl (lv_at hl 3 rfl) ?_
          refine ga_237 (by omega) X hP d_Mo_prepare_98 ?_
          rw [(w1.1 u (by omega)).1]
          refine gs_235 (by omega) X hJ hP hS d_Mo_prepare_99 (fun H locs hP hS => ?_)
          refine lv_aload_n X.1 X.2.1 d_Mo_prepare_100 rfl (lv_at hl 2 rfl) ?_
          refine gg_Mo_47 X hP d_Mo_prepare_101 ?_
          refine lv_iload_n X.1 X.2.1 d_Mo_prepare_104 rfl (lv_at hl 3 rfl) ?_
          refine ga_237 (by omega) X hP d_Mo_prepare_105 ?_
          rw [gx_w_row _ _ _ (show (237 : Nat) ≠ 235 by decide), (w1.1 u (by omega)).1]
          refine gx_iret X.1 X.2.1 hr hlk hP hS d_Mo_prepare_106 ?_
          have hbt : bb = true := xb_one.mp (by omega)
          have hgo := ab_prepare_go (b := bb) hok hha (by rw [x3]; exact hl3) _ rfl
          rw [u3, x3] at hgo
          rw [if_neg h51] at hgo
          rw [hgo]
          dsimp only
          rw [if_neg (show ¬ ((0 : Int) ≠ 0) by decide), if_neg (by rw [hbt]; decide)]
          exact ⟨rfl, mr_learn (mr_mC hxc w2) (by omega), fun n hn => by rw [gx_w_row _ _ _ (by omega), mC_lo w2 n hn, gx_w_row _ _ _ (by omega)]⟩
        · skip
          refine lv_iconst (v := nI 3) X.1 X.2.1 d_Mo_prepare_82 (by decide) ?_
          refine gx_iret X.1 X.2.1 hr hlk hP hS d_Mo_prepare_83 ?_
          have hgo := ab_prepare_go (b := bb) hok hha (by rw [x3]; exact hl3) _ rfl
          rw [u3, x3] at hgo
          rw [if_neg h51] at hgo
          rw [hgo]
          dsimp only
          rw [if_neg (show ¬ ((0 : Int) ≠ 0) by decide), if_pos (xb_zero.mp h79)]
          exact ⟨rfl, mr_mC hxc w2, fun n hn => by rw [mC_lo w2 n hn, gx_w_row _ _ _ (by omega)]⟩
      · skip
        refine lv_aload_n X.1 X.2.1 d_Mo_prepare_54 rfl (lv_at hl 2 rfl) ?_
        refine lv_iload_n X.1 X.2.1 d_Mo_prepare_55 rfl (lv_at hl 4 rfl) ?_
        refine lv_iconst (v := nI 1) X.1 X.2.1 d_Mo_prepare_56 (by decide) ?_
        refine lv_iload_n X.1 X.2.1 d_Mo_prepare_57 rfl (lv_at hl 3 rfl) ?_
        refine cv_Mo_116 (rest := []) X hJ hP hS (by decide) (ec_Mo_0 _) (K_Mo_append l dC dI cx ad hJ σ' (ab_close a u) x 0 u (mr_mC hxc w2) hwc (by omega) (by omega) (by omega) (by decide)) rfl rfl (by decide) hl.1 (Nat.le_of_ble_eq_true rfl) ⟨Nat.le_refl _, Nat.le_refl _⟩ d_Mo_prepare_58 (fun r υ H locs hq hP hS => ?_)
        obtain ⟨hqr, q1, q2⟩ := hq
        have hI2 : ab_I B (ab_log (ab_close a u) x (0, u)).2 := ab_I_logS Ic (by omega) ⟨pu_up_self _ _ _, (show 1 ≤ u by omega), u1, Nat.zero_le 2⟩ (fun q => absurd rfl q) o5
        have hw2 := ab_W_of hI2 (by omega)
        refine lv_istore X.1 X.2.1 d_Mo_prepare_61 hl (by decide) rfl (fun ls hl => ?_)
        have hl : lv_has ls 7 [(6, .int r), (5, .int (nI (ab_ld a x))), (4, .int (nI 0)), (0, .ref (ad 224)), (1, .int (nI u)), (2, .int (nI x)), (3, .int (nI (xb bb)))] := hl
        refine lv_iload X.1 X.2.1 d_Mo_prepare_63 (lv_at hl 0 rfl) ?_
        refine lv_if_ge X.1 X.2.1 (tgt := 71) d_Mo_prepare_65 (by decide) (fun h65 => ?_) (fun h65 => ?_)
        · skip
          have hz0 : (ab_log (ab_close a u) x (0, u)).1 = 0 := ab_log_ge.mp (by rw [← hqr]; exact h65)
          refine lv_aload_n X.1 X.2.1 d_Mo_prepare_71 rfl (lv_at hl 3 rfl) ?_
          refine lv_iload_n X.1 X.2.1 d_Mo_prepare_72 rfl (lv_at hl 5 rfl) ?_
          refine lv_iload X.1 X.2.1 d_Mo_prepare_73 (lv_at hl 1 rfl) ?_
          refine cv_Mo_113 (rest := []) X hJ hP hS (by decide) (ec_Mo_0 _) (K_Mo_work_s l dC dI cx ad hJ υ (ab_log (ab_close a u) x (0, u)).2 x (ab_ld a x) q1 hw2 (ab_V_of hI2) (by omega) hld) rfl rfl (by decide) hl.1 (Nat.le_of_ble_eq_true rfl) ⟨Nat.le_refl _, Nat.le_refl _⟩ d_Mo_prepare_75 (fun ω H locs hq hP hS => ?_)
          obtain ⟨w3, w4⟩ := hq
          refine lv_iload_n X.1 X.2.1 d_Mo_prepare_78 rfl (lv_at hl 6 rfl) ?_
          refine gx_if_ne X.1 X.2.1 (tgt := 84) d_Mo_prepare_79 (by decide) (by omega) (fun h79 => ?_) (fun h79 => ?_)
          · skip
            refine lv_aload_n X.1 X.2.1 d_Mo_prepare_84 rfl (lv_at hl 3 rfl) ?_
            refine gg_Mo_41 X hP d_Mo_prepare_85 ?_
            refine lv_iconst (v := nI 3) X.1 X.2.1 d_Mo_prepare_88 (by decide) ?_
            refine lv_iload_n X.1 X.2.1 d_Mo_prepare_89 rfl (lv_at hl 4 rfl) ?_
            refine gx_imul X.1 X.2.1 d_Mo_prepare_90 ?_
            refine lv_iload_n X.1 X.2.1 d_Mo_prepare_91 rfl (lv_at hl 5 rfl) ?_
            refine gx_iadd X.1 X.2.1 d_Mo_prepare_92 ?_
            refine lv_aload_n X.1 X.2.1 d_Mo_prepare_93 rfl (lv_at hl 3 rfl) ?_
            refine gg_Mo_47 X hP d_Mo_prepare_94 ?_
            refine lv_iload_n X.1 X.2.1 d_Mo_prepare_97 rfl (lv_at hl 4 rfl) ?_
            refine ga_237 (by omega) X hP d_Mo_prepare_98 ?_
            rw [(w3.1 u (by omega)).1]
            refine gs_235 (by omega) X hJ hP hS d_Mo_prepare_99 (fun H locs hP hS => ?_)
            refine lv_aload_n X.1 X.2.1 d_Mo_prepare_100 rfl (lv_at hl 3 rfl) ?_
            refine gg_Mo_47 X hP d_Mo_prepare_101 ?_
            refine lv_iload_n X.1 X.2.1 d_Mo_prepare_104 rfl (lv_at hl 4 rfl) ?_
            refine ga_237 (by omega) X hP d_Mo_prepare_105 ?_
            rw [gx_w_row _ _ _ (show (237 : Nat) ≠ 235 by decide), (w3.1 u (by omega)).1]
            refine gx_iret X.1 X.2.1 hr hlk hP hS d_Mo_prepare_106 ?_
            have hbt : bb = true := xb_one.mp (by omega)
            have hgo := ab_prepare_go (b := bb) hok hha (by rw [x3]; exact hl3) _ rfl
            rw [u3, x3] at hgo
            rw [if_pos h51] at hgo
            rw [hgo, if_neg (fun z => z hz0), if_neg (by rw [hbt]; decide)]
            exact ⟨rfl, mr_learn (mr_mC q1 w4) (by omega), fun n hn => by rw [gx_w_row _ _ _ (by omega), mC_lo w4 n hn, q2 n (by omega), mC_lo w2 n hn, gx_w_row _ _ _ (by omega)]⟩
          · skip
            refine lv_iconst (v := nI 3) X.1 X.2.1 d_Mo_prepare_82 (by decide) ?_
            refine gx_iret X.1 X.2.1 hr hlk hP hS d_Mo_prepare_83 ?_
            have hgo := ab_prepare_go (b := bb) hok hha (by rw [x3]; exact hl3) _ rfl
            rw [u3, x3] at hgo
            rw [if_pos h51] at hgo
            rw [hgo, if_neg (fun z => z hz0), if_pos (xb_zero.mp h79)]
            exact ⟨rfl, mr_mC q1 w4, fun n hn => by rw [mC_lo w4 n hn, q2 n (by omega), mC_lo w2 n hn, gx_w_row _ _ _ (by omega)]⟩
        · skip
          have hz0 : (ab_log (ab_close a u) x (0, u)).1 ≠ 0 := fun z => h65 (by rw [hqr]; exact ab_log_ge.mpr z)
          refine lv_iload X.1 X.2.1 d_Mo_prepare_68 (lv_at hl 0 rfl) ?_
          refine gx_iret X.1 X.2.1 hr hlk hP hS d_Mo_prepare_70 ?_
          have hgo := ab_prepare_go (b := bb) hok hha (by rw [x3]; exact hl3) _ rfl
          rw [u3, x3, if_pos h51, if_pos hz0] at hgo
          rw [hgo]
          exact ⟨hqr, q1, fun n hn => by rw [q2 n (by omega), mC_lo w2 n hn, gx_w_row _ _ _ (by omega)]⟩
set_option maxRecDepth 100000 in
set_option maxHeartbeats 4000000 in
theorem K_Mo_decide (l : Launch) (dC : Nat → ClassId) (dI : Nat → Nat → Nat) (cx : Nat → ClassId) (ad : Nat → Nat) (hJ : gx_J gx_N ad (gx_A gx_N ad)) (σ : gx_M) (a : ab_S) (B : Nat) (tq : Int32) (bb : Bool) (I : ab_I B a) (hB : B + 3 < 2 ^ 30) (hx : mr σ a) : cg_Mi l dC dI cx ad y_Mo_decide w_Mo_decide 6 [.ref (ad 224), .int tq, .int (nI (xb bb))] σ (fun r σ' => r = Int32.ofInt (ab_decide a tq.toInt bb).1 ∧ mr σ' (ab_decide a tq.toInt bb).2 ∧ ∀ n, n < 224 → σ' n = σ n) := by
  refine gx_ofW (cc := c_Mo_decide) (maxL := 7) (ret := (Option.some Jvm.ClassFile.FieldType.int)) (by decide) rfl (Nat.le_of_ble_eq_true rfl) ?_
  intro p e s m below meth c ls S hr hlk hK hN hl hP
  have X : cg_X c_Mo_decide "CommitGroupsModel" 7 dC dI cx p m c s _ := ⟨S.1, S.2.1, S.2.2.2.1, fun w h => S.2.2.2.2 w (List.mem_cons_of_mem _ h), hK, hN, S.2.2.1⟩
  have hS : va_S (gx_A gx_N ad) s.heap s.heap [] := va_S.rf
  have hl : lv_has ls 7 [(0, .ref (ad 224)), (1, .int tq), (2, .int (nI (xb bb)))] := hl
  have hw := ab_W_of I (by omega)
  have hn : σ 224 0 = ab_n a := hx.1
  have hn20 := hw.1
  have hv := ab_V_of I
  have hxb := xb_le bb
  refine lv_aload_n X.1 X.2.1 d_Mo_decide_0 rfl (lv_at hl 0 rfl) ?_
  refine lv_iload_n X.1 X.2.1 d_Mo_decide_1 rfl (lv_at hl 1 rfl) ?_
  refine cv_Mo_120 (rest := []) X hJ hP hS (by decide) (ec_Mo_0 _) (K_Mo_refusalAll l dC dI cx ad hJ σ a tq hw hx) rfl rfl (by decide) hl.1 (Nat.le_of_ble_eq_true rfl) ⟨Nat.le_refl _, Nat.le_refl _⟩ d_Mo_decide_2 (fun r σ' H locs hq hP hS => ?_)
  obtain ⟨hq0, hq⟩ := hq
  rw [hq0] at hP
  rcases hq with ⟨hok, rfl⟩ | ⟨hok, hha, rfl⟩ | ⟨hok, hha, rfl⟩
  · skip
    refine lv_istore_n X.1 X.2.1 d_Mo_decide_5 rfl hl (by decide) rfl (fun ls hl => ?_)
    have hl : lv_has ls 7 [(3, .int (-1)), (0, .ref (ad 224)), (1, .int tq), (2, .int (nI (xb bb)))] := hl
    refine lv_iload_n X.1 X.2.1 d_Mo_decide_6 rfl (lv_at hl 0 rfl) ?_
    refine lv_if_ge X.1 X.2.1 (tgt := 12) d_Mo_decide_7 (by decide) (fun h7 => absurd h7 (by decide)) (fun h7 => ?_)
    refine lv_iload_n X.1 X.2.1 d_Mo_decide_10 rfl (lv_at hl 0 rfl) ?_
    refine gx_iret X.1 X.2.1 hr hlk hP hS d_Mo_decide_11 ?_
    rw [ab_decide_bad hok]
    exact ⟨rfl, hx, fun n _ => rfl⟩
  · skip
    refine lv_istore_n X.1 X.2.1 d_Mo_decide_5 rfl hl (by decide) rfl (fun ls hl => ?_)
    have hl : lv_has ls 7 [(3, .int (-2)), (0, .ref (ad 224)), (1, .int tq), (2, .int (nI (xb bb)))] := hl
    refine lv_iload_n X.1 X.2.1 d_Mo_decide_6 rfl (lv_at hl 0 rfl) ?_
    refine lv_if_ge X.1 X.2.1 (tgt := 12) d_Mo_decide_7 (by decide) (fun h7 => absurd h7 (by decide)) (fun h7 => ?_)
    refine lv_iload_n X.1 X.2.1 d_Mo_decide_10 rfl (lv_at hl 0 rfl) ?_
    refine gx_iret X.1 X.2.1 hr hlk hP hS d_Mo_decide_11 ?_
    rw [ab_decide_ha hok hha]
    exact ⟨rfl, hx, fun n _ => rfl⟩
  · skip
    refine lv_istore_n X.1 X.2.1 d_Mo_decide_5 rfl hl (by decide) rfl (fun ls hl => ?_)
    have hl : lv_has ls 7 [(3, .int (nI 0)), (0, .ref (ad 224)), (1, .int tq), (2, .int (nI (xb bb)))] := hl
    refine lv_iload_n X.1 X.2.1 d_Mo_decide_6 rfl (lv_at hl 0 rfl) ?_
    refine gx_if_ge X.1 X.2.1 (tgt := 12) d_Mo_decide_7 (by decide) (by omega) ?_
    obtain ⟨⟨o1, o2⟩, o3⟩ := id hok
    obtain ⟨u, rfl, u1, u2, u3⟩ := gi_of (t := tq) (n := ab_n a) (by omega) (by omega)
    rw [u3] at o3
    have hkd2 := ab_kd_le I u
    refine lv_aload_n X.1 X.2.1 d_Mo_decide_12 rfl (lv_at hl 1 rfl) ?_
    refine gg_Mo_44 X hP d_Mo_decide_13 ?_
    refine lv_iload_n X.1 X.2.1 d_Mo_decide_16 rfl (lv_at hl 2 rfl) ?_
    refine ga_236 (by omega) X hP d_Mo_decide_17 ?_
    rw [hx.2.2.2.2.2 u (by omega)]
    refine gx_if_eq X.1 X.2.1 (tgt := 28) d_Mo_decide_18 (by decide) (by omega) (fun h18 => ?_) (fun h18 => ?_)
    · skip
      have lp : ∀ (k : Nat) (i b al : Nat), i + k = 3 → b ≤ 1 → al ≤ 1 → (b = 1 ↔ ∃ s, s < i ∧ ab_kv a u s = 2) → (al = 1 ↔ ∀ s, s < i → ab_tc a u s = true → ab_kv a u s ≠ 0) → ∀ (H : Heap) (locs : List Loc) (ls : Array Slot), cg_P dC dI cx ad σ H → va_S (gx_A gx_N ad) s.heap H locs → lv_has ls 7 [(6, .int (nI i)), (5, .int (nI b)), (4, .int (nI al)), (0, .ref (ad 224)), (1, .int (nI u)), (2, .int (nI (xb bb)))] → W p l e (rmL 6) s m ([.ref (ad 224), .int (nI u), .int (nI (xb bb))] : List Value).toArray below meth c H locs 0 0 (cg_Qi dC dI cx ad (fun r σ' => r = Int32.ofInt (ab_decide a (nI u).toInt bb).1 ∧ mr σ' (ab_decide a (nI u).toInt bb).2 ∧ ∀ n, n < 224 → σ' n = σ n) below [.ref (ad 224), .int (nI u), .int (nI (xb bb))] s) (F0 m 37 ls []) := by
        intro k
        induction k with
        | zero =>
          intro i b al hik hb1 ha1 hbb hal H locs ls hP hS hl
          refine lv_iload X.1 X.2.1 d_Mo_decide_37 (lv_at hl 0 rfl) ?_
          refine lv_iconst (v := nI 3) X.1 X.2.1 d_Mo_decide_39 (by decide) ?_
          refine gx_icmp_ge X.1 X.2.1 (tgt := 112) d_Mo_decide_40 (by decide) (by omega) (by omega) (fun h40 => ?_) (fun h40 => absurd h40 (by omega))
          refine lv_iload X.1 X.2.1 d_Mo_decide_112 (lv_at hl 1 rfl) ?_
          refine gx_if_ne X.1 X.2.1 (tgt := 124) d_Mo_decide_114 (by decide) (by omega) (fun h114 => ?_) (fun h114 => ?_)
          · skip
            have hno : ab_no a u := by
              obtain ⟨s, h1, h2⟩ := hbb.mp (by omega)
              exact ⟨s, by omega, h2⟩
            have hI2 : ab_I B (ab_log a 3 (2, u)).2 := by
              obtain ⟨s', hs', hv'⟩ := id hno
              exact ab_I_logD I ⟨ab_kv_cl I hs' (by rw [hv']; decide), (show 1 ≤ u by omega), u1, (show 2 ≤ 2 by decide), (show 2 ≠ 0 by decide)⟩ (fun q => absurd q (show ¬ ((2 : Nat) = 1) by decide))
            refine lv_aload_n X.1 X.2.1 d_Mo_decide_124 rfl (lv_at hl 3 rfl) ?_
            refine lv_iload_n X.1 X.2.1 d_Mo_decide_125 rfl (lv_at hl 4 rfl) ?_
            refine lv_iload X.1 X.2.1 d_Mo_decide_126 (lv_at hl 1 rfl) ?_
            refine gx_if_eq X.1 X.2.1 (tgt := 135) d_Mo_decide_128 (by decide) (by omega) (fun h128 => absurd h128 h114) (fun h128 => ?_)
            refine lv_iconst (v := nI 3) X.1 X.2.1 d_Mo_decide_131 (by decide) ?_
            refine lv_goto (tgt := 136) X.1 X.2.1 d_Mo_decide_132 (by decide) ?_
            refine lv_iload_n X.1 X.2.1 d_Mo_decide_136 rfl (lv_at hl 5 rfl) ?_
            refine cv_Mo_123 (rest := []) X hJ hP hS (by decide) (ec_Mo_0 _) (K_Mo_propose l dC dI cx ad hJ _ a B 2 u bb I hB hx (by omega) u1 (by decide) hI2) rfl rfl (by decide) hl.1 (Nat.le_of_ble_eq_true rfl) ⟨Nat.le_refl _, Nat.le_refl _⟩ d_Mo_decide_137 (fun r σ' H locs hq hP hS => ?_)
            obtain ⟨hqr, q1, q2⟩ := hq
            refine gx_iret X.1 X.2.1 hr hlk hP hS d_Mo_decide_140 ?_
            rw [ab_decide_no hok hha (by rw [u3]; exact h18) (by rw [u3]; exact hno), u3]
            exact ⟨hqr, q1, q2⟩
          · skip
            refine lv_iload X.1 X.2.1 d_Mo_decide_117 (lv_at hl 2 rfl) ?_
            refine gx_if_ne X.1 X.2.1 (tgt := 124) d_Mo_decide_119 (by decide) (by omega) (fun h119 => ?_) (fun h119 => ?_)
            · skip
              have hno : ¬ ab_no a u := fun ⟨s, h1, h2⟩ => by have := hbb.mpr ⟨s, by omega, h2⟩; omega
              have hall : ab_all a u := fun s hs ht => hal.mp (by omega) s (by omega) ht
              have hI2 : ab_I B (ab_log a 3 (1, u)).2 := by
                have hcl : ab_cl a u = true := by
                  cases hop : ab_op a u with
                  | nil => rw [hop] at o3; exact absurd rfl o3
                  | cons o os =>
                    have hm : o.2.1 % 3 < 3 := Nat.mod_lt _ (by decide)
                    refine ab_kv_cl I hm (hall _ hm ?_)
                    unfold ab_tc
                    rw [hop]
                    simp
                refine ab_I_logD I ⟨hcl, (show 1 ≤ u by omega), u1, (show 1 ≤ 2 by decide), (show 1 ≠ 0 by decide)⟩ ?_
                intro _ s' hs' htc
                have z1 := hall s' hs' htc
                have z2 := ab_kv_le I (t := u) hs'
                have z3 : ab_kv a u s' ≠ 2 := fun q => hno ⟨s', hs', q⟩
                show ab_kv a u s' = 1
                omega
              refine lv_aload_n X.1 X.2.1 d_Mo_decide_124 rfl (lv_at hl 3 rfl) ?_
              refine lv_iload_n X.1 X.2.1 d_Mo_decide_125 rfl (lv_at hl 4 rfl) ?_
              refine lv_iload X.1 X.2.1 d_Mo_decide_126 (lv_at hl 1 rfl) ?_
              refine gx_if_eq X.1 X.2.1 (tgt := 135) d_Mo_decide_128 (by decide) (by omega) (fun h128 => ?_) (fun h128 => absurd h114 h128)
              refine lv_iconst (v := nI 2) X.1 X.2.1 d_Mo_decide_135 (by decide) ?_
              refine lv_iload_n X.1 X.2.1 d_Mo_decide_136 rfl (lv_at hl 5 rfl) ?_
              refine cv_Mo_123 (rest := []) X hJ hP hS (by decide) (ec_Mo_0 _) (K_Mo_propose l dC dI cx ad hJ _ a B 1 u bb I hB hx (by omega) u1 (by decide) hI2) rfl rfl (by decide) hl.1 (Nat.le_of_ble_eq_true rfl) ⟨Nat.le_refl _, Nat.le_refl _⟩ d_Mo_decide_137 (fun r σ' H locs hq hP hS => ?_)
              obtain ⟨hqr, q1, q2⟩ := hq
              refine gx_iret X.1 X.2.1 hr hlk hP hS d_Mo_decide_140 ?_
              rw [ab_decide_all hok hha (by rw [u3]; exact h18) (by rw [u3]; exact hno) (by rw [u3]; exact hall), u3]
              exact ⟨hqr, q1, q2⟩
            · skip
              refine lv_iconst (v := nI 0) X.1 X.2.1 d_Mo_decide_122 (by decide) ?_
              refine gx_iret X.1 X.2.1 hr hlk hP hS d_Mo_decide_123 ?_
              rw [ab_decide_0 hok hha (by rw [u3]; exact h18) (by rw [u3]; exact fun ⟨s, h1, h2⟩ => by have := hbb.mpr ⟨s, by omega, h2⟩; omega) (by rw [u3]; exact fun z => by have := hal.mpr (fun s hs ht => z s (by omega) ht); omega)]
              exact ⟨rfl, hx, fun n _ => rfl⟩
        | succ k ih =>
          intro i b al hik hb1 ha1 hbb hal H locs ls hP hS hl
          refine lv_iload X.1 X.2.1 d_Mo_decide_37 (lv_at hl 0 rfl) ?_
          refine lv_iconst (v := nI 3) X.1 X.2.1 d_Mo_decide_39 (by decide) ?_
          refine gx_icmp_ge X.1 X.2.1 (tgt := 112) d_Mo_decide_40 (by decide) (by omega) (by omega) (fun h40 => absurd h40 (by omega)) (fun h40 => ?_)
          have ekv := hx.2.2.2.2.1 u i (by omega) (by omega)
          have kvl := ab_kv_le I (t := u) (s := i) (by omega)
          refine lv_iload X.1 X.2.1 d_Mo_decide_43 (lv_at hl 1 rfl) ?_
          refine gx_if_ne X.1 X.2.1 (tgt := 63) d_Mo_decide_45 (by decide) (by omega) (fun h45 => ?_) (fun h45 => ?_)
          · skip
            refine lv_iconst (v := nI 1) X.1 X.2.1 d_Mo_decide_63 (by decide) ?_
            refine lv_goto (tgt := 68) X.1 X.2.1 d_Mo_decide_64 (by decide) ?_
            refine lv_istore X.1 X.2.1 d_Mo_decide_68 hl (by decide) rfl (fun ls hl => ?_)
            have hl : lv_has ls 7 [(5, .int (nI 1)), (6, .int (nI i)), (4, .int (nI al)), (0, .ref (ad 224)), (1, .int (nI u)), (2, .int (nI (xb bb)))] := hl
            refine lv_iload X.1 X.2.1 d_Mo_decide_70 (lv_at hl 2 rfl) ?_
            refine gx_if_eq X.1 X.2.1 (tgt := 103) d_Mo_decide_72 (by decide) (by omega) (fun h72 => ?_) (fun h72 => ?_)
            · skip
              refine lv_iconst (v := nI 0) X.1 X.2.1 d_Mo_decide_103 (by decide) ?_
              refine lv_istore X.1 X.2.1 d_Mo_decide_104 hl (by decide) rfl (fun ls hl => ?_)
              have hl : lv_has ls 7 [(4, .int (nI 0)), (5, .int (nI 1)), (6, .int (nI i)), (0, .ref (ad 224)), (1, .int (nI u)), (2, .int (nI (xb bb)))] := hl
              refine lv_iinc (k := 2) (v := nI (i + 1)) X.1 X.2.1 d_Mo_decide_106 hl rfl (nI_add _ _) (by decide) rfl (fun ls hl => ?_)
              have hl : lv_has ls 7 [(6, .int (nI (i + 1))), (4, .int (nI 0)), (5, .int (nI 1)), (0, .ref (ad 224)), (1, .int (nI u)), (2, .int (nI (xb bb)))] := hl
              refine lv_goto (tgt := 37) X.1 X.2.1 d_Mo_decide_109 (by decide) ?_
              refine ih (i + 1) _ _ (by omega) (by decide) (by decide) ?_ ?_ H locs ls hP hS (lv_sub hl [0, 2, 1, 3, 4, 5] rfl)
              · exact ⟨fun _ => by obtain ⟨s, h1, h2⟩ := hbb.mp (by omega); exact ⟨s, by omega, h2⟩, fun _ => rfl⟩
              · refine ⟨fun q => absurd q (by decide), fun q => ?_⟩
                have := hal.mpr (fun s hs => q s (by omega)); omega
            · skip
              refine lv_aload_n X.1 X.2.1 d_Mo_decide_75 rfl (lv_at hl 3 rfl) ?_
              refine gg_Mo_41 X hP d_Mo_decide_76 ?_
              refine lv_iconst (v := nI 3) X.1 X.2.1 d_Mo_decide_79 (by decide) ?_
              refine lv_iload_n X.1 X.2.1 d_Mo_decide_80 rfl (lv_at hl 4 rfl) ?_
              refine gx_imul X.1 X.2.1 d_Mo_decide_81 ?_
              refine lv_iload X.1 X.2.1 d_Mo_decide_82 (lv_at hl 1 rfl) ?_
              refine gx_iadd X.1 X.2.1 d_Mo_decide_84 ?_
              refine ga_235 (by omega) X hP d_Mo_decide_85 ?_
              rw [ekv]
              refine gx_if_ne X.1 X.2.1 (tgt := 99) d_Mo_decide_86 (by decide) (by omega) (fun h86 => ?_) (fun h86 => ?_)
              · skip
                refine lv_iconst (v := nI 1) X.1 X.2.1 d_Mo_decide_99 (by decide) ?_
                refine lv_goto (tgt := 104) X.1 X.2.1 d_Mo_decide_100 (by decide) ?_
                refine lv_istore X.1 X.2.1 d_Mo_decide_104 hl (by decide) rfl (fun ls hl => ?_)
                have hl : lv_has ls 7 [(4, .int (nI 1)), (5, .int (nI 1)), (6, .int (nI i)), (0, .ref (ad 224)), (1, .int (nI u)), (2, .int (nI (xb bb)))] := hl
                refine lv_iinc (k := 2) (v := nI (i + 1)) X.1 X.2.1 d_Mo_decide_106 hl rfl (nI_add _ _) (by decide) rfl (fun ls hl => ?_)
                have hl : lv_has ls 7 [(6, .int (nI (i + 1))), (4, .int (nI 1)), (5, .int (nI 1)), (0, .ref (ad 224)), (1, .int (nI u)), (2, .int (nI (xb bb)))] := hl
                refine lv_goto (tgt := 37) X.1 X.2.1 d_Mo_decide_109 (by decide) ?_
                refine ih (i + 1) _ _ (by omega) (by decide) (by decide) ?_ ?_ H locs ls hP hS (lv_sub hl [0, 2, 1, 3, 4, 5] rfl)
                · exact ⟨fun _ => by obtain ⟨s, h1, h2⟩ := hbb.mp (by omega); exact ⟨s, by omega, h2⟩, fun _ => rfl⟩
                · refine ⟨fun _ s hs ht => ?_, fun _ => rfl⟩
                  rcases (show s = i ∨ s < i by omega) with q | q
                  · rw [q]; exact h86
                  · exact hal.mp (by omega) s q ht
              · skip
                refine lv_aload_n X.1 X.2.1 d_Mo_decide_89 rfl (lv_at hl 3 rfl) ?_
                refine lv_iload_n X.1 X.2.1 d_Mo_decide_90 rfl (lv_at hl 4 rfl) ?_
                refine lv_iload X.1 X.2.1 d_Mo_decide_91 (lv_at hl 1 rfl) ?_
                refine cv_Mo_103 (rest := []) X hJ hP hS (by decide) (ec_Mo_0 _) (K_Mo_touches l dC dI cx ad hJ _ a u i hx hw (by omega) (by omega)) rfl rfl (by decide) hl.1 (Nat.le_of_ble_eq_true rfl) ⟨Nat.le_refl _, Nat.le_refl _⟩ d_Mo_decide_93 (fun r σ' H locs hq hP hS => ?_)
                obtain ⟨hq0, b93, rfl, hb93, hp93⟩ := hq
                rw [hq0] at hP
                refine gx_if_ne X.1 X.2.1 (tgt := 103) d_Mo_decide_96 (by decide) (by omega) (fun h96 => ?_) (fun h96 => ?_)
                · skip
                  refine lv_iconst (v := nI 0) X.1 X.2.1 d_Mo_decide_103 (by decide) ?_
                  refine lv_istore X.1 X.2.1 d_Mo_decide_104 hl (by decide) rfl (fun ls hl => ?_)
                  have hl : lv_has ls 7 [(4, .int (nI 0)), (5, .int (nI 1)), (6, .int (nI i)), (0, .ref (ad 224)), (1, .int (nI u)), (2, .int (nI (xb bb)))] := hl
                  refine lv_iinc (k := 2) (v := nI (i + 1)) X.1 X.2.1 d_Mo_decide_106 hl rfl (nI_add _ _) (by decide) rfl (fun ls hl => ?_)
                  have hl : lv_has ls 7 [(6, .int (nI (i + 1))), (4, .int (nI 0)), (5, .int (nI 1)), (0, .ref (ad 224)), (1, .int (nI u)), (2, .int (nI (xb bb)))] := hl
                  refine lv_goto (tgt := 37) X.1 X.2.1 d_Mo_decide_109 (by decide) ?_
                  refine ih (i + 1) _ _ (by omega) (by decide) (by decide) ?_ ?_ H locs ls hP hS (lv_sub hl [0, 2, 1, 3, 4, 5] rfl)
                  · exact ⟨fun _ => by obtain ⟨s, h1, h2⟩ := hbb.mp (by omega); exact ⟨s, by omega, h2⟩, fun _ => rfl⟩
                  · exact ⟨fun q => absurd q (by decide), fun q => absurd h86 (q i (by omega) (hp93.mp (by omega)))⟩
                · skip
                  refine lv_iconst (v := nI 1) X.1 X.2.1 d_Mo_decide_99 (by decide) ?_
                  refine lv_goto (tgt := 104) X.1 X.2.1 d_Mo_decide_100 (by decide) ?_
                  refine lv_istore X.1 X.2.1 d_Mo_decide_104 hl (by decide) rfl (fun ls hl => ?_)
                  have hl : lv_has ls 7 [(4, .int (nI 1)), (5, .int (nI 1)), (6, .int (nI i)), (0, .ref (ad 224)), (1, .int (nI u)), (2, .int (nI (xb bb)))] := hl
                  refine lv_iinc (k := 2) (v := nI (i + 1)) X.1 X.2.1 d_Mo_decide_106 hl rfl (nI_add _ _) (by decide) rfl (fun ls hl => ?_)
                  have hl : lv_has ls 7 [(6, .int (nI (i + 1))), (4, .int (nI 1)), (5, .int (nI 1)), (0, .ref (ad 224)), (1, .int (nI u)), (2, .int (nI (xb bb)))] := hl
                  refine lv_goto (tgt := 37) X.1 X.2.1 d_Mo_decide_109 (by decide) ?_
                  refine ih (i + 1) _ _ (by omega) (by decide) (by decide) ?_ ?_ H locs ls hP hS (lv_sub hl [0, 2, 1, 3, 4, 5] rfl)
                  · exact ⟨fun _ => by obtain ⟨s, h1, h2⟩ := hbb.mp (by omega); exact ⟨s, by omega, h2⟩, fun _ => rfl⟩
                  · refine ⟨fun _ s hs ht => ?_, fun _ => rfl⟩
                    rcases (show s = i ∨ s < i by omega) with q | q
                    · rw [q] at ht; have := hp93.mpr ht; omega
                    · exact hal.mp (by omega) s q ht
          · skip
            refine lv_aload_n X.1 X.2.1 d_Mo_decide_48 rfl (lv_at hl 3 rfl) ?_
            refine gg_Mo_41 X hP d_Mo_decide_49 ?_
            refine lv_iconst (v := nI 3) X.1 X.2.1 d_Mo_decide_52 (by decide) ?_
            refine lv_iload_n X.1 X.2.1 d_Mo_decide_53 rfl (lv_at hl 4 rfl) ?_
            refine gx_imul X.1 X.2.1 d_Mo_decide_54 ?_
            refine lv_iload X.1 X.2.1 d_Mo_decide_55 (lv_at hl 0 rfl) ?_
            refine gx_iadd X.1 X.2.1 d_Mo_decide_57 ?_
            refine ga_235 (by omega) X hP d_Mo_decide_58 ?_
            rw [ekv]
            refine lv_iconst (v := nI 2) X.1 X.2.1 d_Mo_decide_59 (by decide) ?_
            refine gx_icmp_ne X.1 X.2.1 (tgt := 67) d_Mo_decide_60 (by decide) (by omega) (by omega) (fun h60 => ?_) (fun h60 => ?_)
            · skip
              refine lv_iconst (v := nI 0) X.1 X.2.1 d_Mo_decide_67 (by decide) ?_
              refine lv_istore X.1 X.2.1 d_Mo_decide_68 hl (by decide) rfl (fun ls hl => ?_)
              have hl : lv_has ls 7 [(5, .int (nI 0)), (6, .int (nI i)), (4, .int (nI al)), (0, .ref (ad 224)), (1, .int (nI u)), (2, .int (nI (xb bb)))] := hl
              refine lv_iload X.1 X.2.1 d_Mo_decide_70 (lv_at hl 2 rfl) ?_
              refine gx_if_eq X.1 X.2.1 (tgt := 103) d_Mo_decide_72 (by decide) (by omega) (fun h72 => ?_) (fun h72 => ?_)
              · skip
                refine lv_iconst (v := nI 0) X.1 X.2.1 d_Mo_decide_103 (by decide) ?_
                refine lv_istore X.1 X.2.1 d_Mo_decide_104 hl (by decide) rfl (fun ls hl => ?_)
                have hl : lv_has ls 7 [(4, .int (nI 0)), (5, .int (nI 0)), (6, .int (nI i)), (0, .ref (ad 224)), (1, .int (nI u)), (2, .int (nI (xb bb)))] := hl
                refine lv_iinc (k := 2) (v := nI (i + 1)) X.1 X.2.1 d_Mo_decide_106 hl rfl (nI_add _ _) (by decide) rfl (fun ls hl => ?_)
                have hl : lv_has ls 7 [(6, .int (nI (i + 1))), (4, .int (nI 0)), (5, .int (nI 0)), (0, .ref (ad 224)), (1, .int (nI u)), (2, .int (nI (xb bb)))] := hl
                refine lv_goto (tgt := 37) X.1 X.2.1 d_Mo_decide_109 (by decide) ?_
                refine ih (i + 1) _ _ (by omega) (by decide) (by decide) ?_ ?_ H locs ls hP hS (lv_sub hl [0, 2, 1, 3, 4, 5] rfl)
                · refine ⟨fun q => absurd q (by decide), fun ⟨s, h1, h2⟩ => ?_⟩
                  rcases (show s = i ∨ s < i by omega) with q | q
                  · rw [q] at h2; exact absurd h2 h60
                  · have := hbb.mpr ⟨s, q, h2⟩; omega
                · refine ⟨fun q => absurd q (by decide), fun q => ?_⟩
                  have := hal.mpr (fun s hs => q s (by omega)); omega
              · skip
                refine lv_aload_n X.1 X.2.1 d_Mo_decide_75 rfl (lv_at hl 3 rfl) ?_
                refine gg_Mo_41 X hP d_Mo_decide_76 ?_
                refine lv_iconst (v := nI 3) X.1 X.2.1 d_Mo_decide_79 (by decide) ?_
                refine lv_iload_n X.1 X.2.1 d_Mo_decide_80 rfl (lv_at hl 4 rfl) ?_
                refine gx_imul X.1 X.2.1 d_Mo_decide_81 ?_
                refine lv_iload X.1 X.2.1 d_Mo_decide_82 (lv_at hl 1 rfl) ?_
                refine gx_iadd X.1 X.2.1 d_Mo_decide_84 ?_
                refine ga_235 (by omega) X hP d_Mo_decide_85 ?_
                rw [ekv]
                refine gx_if_ne X.1 X.2.1 (tgt := 99) d_Mo_decide_86 (by decide) (by omega) (fun h86 => ?_) (fun h86 => ?_)
                · skip
                  refine lv_iconst (v := nI 1) X.1 X.2.1 d_Mo_decide_99 (by decide) ?_
                  refine lv_goto (tgt := 104) X.1 X.2.1 d_Mo_decide_100 (by decide) ?_
                  refine lv_istore X.1 X.2.1 d_Mo_decide_104 hl (by decide) rfl (fun ls hl => ?_)
                  have hl : lv_has ls 7 [(4, .int (nI 1)), (5, .int (nI 0)), (6, .int (nI i)), (0, .ref (ad 224)), (1, .int (nI u)), (2, .int (nI (xb bb)))] := hl
                  refine lv_iinc (k := 2) (v := nI (i + 1)) X.1 X.2.1 d_Mo_decide_106 hl rfl (nI_add _ _) (by decide) rfl (fun ls hl => ?_)
                  have hl : lv_has ls 7 [(6, .int (nI (i + 1))), (4, .int (nI 1)), (5, .int (nI 0)), (0, .ref (ad 224)), (1, .int (nI u)), (2, .int (nI (xb bb)))] := hl
                  refine lv_goto (tgt := 37) X.1 X.2.1 d_Mo_decide_109 (by decide) ?_
                  refine ih (i + 1) _ _ (by omega) (by decide) (by decide) ?_ ?_ H locs ls hP hS (lv_sub hl [0, 2, 1, 3, 4, 5] rfl)
                  · refine ⟨fun q => absurd q (by decide), fun ⟨s, h1, h2⟩ => ?_⟩
                    rcases (show s = i ∨ s < i by omega) with q | q
                    · rw [q] at h2; exact absurd h2 h60
                    · have := hbb.mpr ⟨s, q, h2⟩; omega
                  · refine ⟨fun _ s hs ht => ?_, fun _ => rfl⟩
                    rcases (show s = i ∨ s < i by omega) with q | q
                    · rw [q]; exact h86
                    · exact hal.mp (by omega) s q ht
                · skip
                  refine lv_aload_n X.1 X.2.1 d_Mo_decide_89 rfl (lv_at hl 3 rfl) ?_
                  refine lv_iload_n X.1 X.2.1 d_Mo_decide_90 rfl (lv_at hl 4 rfl) ?_
                  refine lv_iload X.1 X.2.1 d_Mo_decide_91 (lv_at hl 1 rfl) ?_
                  refine cv_Mo_103 (rest := []) X hJ hP hS (by decide) (ec_Mo_0 _) (K_Mo_touches l dC dI cx ad hJ _ a u i hx hw (by omega) (by omega)) rfl rfl (by decide) hl.1 (Nat.le_of_ble_eq_true rfl) ⟨Nat.le_refl _, Nat.le_refl _⟩ d_Mo_decide_93 (fun r σ' H locs hq hP hS => ?_)
                  obtain ⟨hq0, b93, rfl, hb93, hp93⟩ := hq
                  rw [hq0] at hP
                  refine gx_if_ne X.1 X.2.1 (tgt := 103) d_Mo_decide_96 (by decide) (by omega) (fun h96 => ?_) (fun h96 => ?_)
                  · skip
                    refine lv_iconst (v := nI 0) X.1 X.2.1 d_Mo_decide_103 (by decide) ?_
                    refine lv_istore X.1 X.2.1 d_Mo_decide_104 hl (by decide) rfl (fun ls hl => ?_)
                    have hl : lv_has ls 7 [(4, .int (nI 0)), (5, .int (nI 0)), (6, .int (nI i)), (0, .ref (ad 224)), (1, .int (nI u)), (2, .int (nI (xb bb)))] := hl
                    refine lv_iinc (k := 2) (v := nI (i + 1)) X.1 X.2.1 d_Mo_decide_106 hl rfl (nI_add _ _) (by decide) rfl (fun ls hl => ?_)
                    have hl : lv_has ls 7 [(6, .int (nI (i + 1))), (4, .int (nI 0)), (5, .int (nI 0)), (0, .ref (ad 224)), (1, .int (nI u)), (2, .int (nI (xb bb)))] := hl
                    refine lv_goto (tgt := 37) X.1 X.2.1 d_Mo_decide_109 (by decide) ?_
                    refine ih (i + 1) _ _ (by omega) (by decide) (by decide) ?_ ?_ H locs ls hP hS (lv_sub hl [0, 2, 1, 3, 4, 5] rfl)
                    · refine ⟨fun q => absurd q (by decide), fun ⟨s, h1, h2⟩ => ?_⟩
                      rcases (show s = i ∨ s < i by omega) with q | q
                      · rw [q] at h2; exact absurd h2 h60
                      · have := hbb.mpr ⟨s, q, h2⟩; omega
                    · exact ⟨fun q => absurd q (by decide), fun q => absurd h86 (q i (by omega) (hp93.mp (by omega)))⟩
                  · skip
                    refine lv_iconst (v := nI 1) X.1 X.2.1 d_Mo_decide_99 (by decide) ?_
                    refine lv_goto (tgt := 104) X.1 X.2.1 d_Mo_decide_100 (by decide) ?_
                    refine lv_istore X.1 X.2.1 d_Mo_decide_104 hl (by decide) rfl (fun ls hl => ?_)
                    have hl : lv_has ls 7 [(4, .int (nI 1)), (5, .int (nI 0)), (6, .int (nI i)), (0, .ref (ad 224)), (1, .int (nI u)), (2, .int (nI (xb bb)))] := hl
                    refine lv_iinc (k := 2) (v := nI (i + 1)) X.1 X.2.1 d_Mo_decide_106 hl rfl (nI_add _ _) (by decide) rfl (fun ls hl => ?_)
                    have hl : lv_has ls 7 [(6, .int (nI (i + 1))), (4, .int (nI 1)), (5, .int (nI 0)), (0, .ref (ad 224)), (1, .int (nI u)), (2, .int (nI (xb bb)))] := hl
                    refine lv_goto (tgt := 37) X.1 X.2.1 d_Mo_decide_109 (by decide) ?_
                    refine ih (i + 1) _ _ (by omega) (by decide) (by decide) ?_ ?_ H locs ls hP hS (lv_sub hl [0, 2, 1, 3, 4, 5] rfl)
                    · refine ⟨fun q => absurd q (by decide), fun ⟨s, h1, h2⟩ => ?_⟩
                      rcases (show s = i ∨ s < i by omega) with q | q
                      · rw [q] at h2; exact absurd h2 h60
                      · have := hbb.mpr ⟨s, q, h2⟩; omega
                    · refine ⟨fun _ s hs ht => ?_, fun _ => rfl⟩
                      rcases (show s = i ∨ s < i by omega) with q | q
                      · rw [q] at ht; have := hp93.mpr ht; omega
                      · exact hal.mp (by omega) s q ht
            · skip
              refine lv_iconst (v := nI 1) X.1 X.2.1 d_Mo_decide_63 (by decide) ?_
              refine lv_goto (tgt := 68) X.1 X.2.1 d_Mo_decide_64 (by decide) ?_
              refine lv_istore X.1 X.2.1 d_Mo_decide_68 hl (by decide) rfl (fun ls hl => ?_)
              have hl : lv_has ls 7 [(5, .int (nI 1)), (6, .int (nI i)), (4, .int (nI al)), (0, .ref (ad 224)), (1, .int (nI u)), (2, .int (nI (xb bb)))] := hl
              refine lv_iload X.1 X.2.1 d_Mo_decide_70 (lv_at hl 2 rfl) ?_
              refine gx_if_eq X.1 X.2.1 (tgt := 103) d_Mo_decide_72 (by decide) (by omega) (fun h72 => ?_) (fun h72 => ?_)
              · skip
                refine lv_iconst (v := nI 0) X.1 X.2.1 d_Mo_decide_103 (by decide) ?_
                refine lv_istore X.1 X.2.1 d_Mo_decide_104 hl (by decide) rfl (fun ls hl => ?_)
                have hl : lv_has ls 7 [(4, .int (nI 0)), (5, .int (nI 1)), (6, .int (nI i)), (0, .ref (ad 224)), (1, .int (nI u)), (2, .int (nI (xb bb)))] := hl
                refine lv_iinc (k := 2) (v := nI (i + 1)) X.1 X.2.1 d_Mo_decide_106 hl rfl (nI_add _ _) (by decide) rfl (fun ls hl => ?_)
                have hl : lv_has ls 7 [(6, .int (nI (i + 1))), (4, .int (nI 0)), (5, .int (nI 1)), (0, .ref (ad 224)), (1, .int (nI u)), (2, .int (nI (xb bb)))] := hl
                refine lv_goto (tgt := 37) X.1 X.2.1 d_Mo_decide_109 (by decide) ?_
                refine ih (i + 1) _ _ (by omega) (by decide) (by decide) ?_ ?_ H locs ls hP hS (lv_sub hl [0, 2, 1, 3, 4, 5] rfl)
                · exact ⟨fun _ => ⟨i, by omega, h60⟩, fun _ => rfl⟩
                · refine ⟨fun q => absurd q (by decide), fun q => ?_⟩
                  have := hal.mpr (fun s hs => q s (by omega)); omega
              · skip
                refine lv_aload_n X.1 X.2.1 d_Mo_decide_75 rfl (lv_at hl 3 rfl) ?_
                refine gg_Mo_41 X hP d_Mo_decide_76 ?_
                refine lv_iconst (v := nI 3) X.1 X.2.1 d_Mo_decide_79 (by decide) ?_
                refine lv_iload_n X.1 X.2.1 d_Mo_decide_80 rfl (lv_at hl 4 rfl) ?_
                refine gx_imul X.1 X.2.1 d_Mo_decide_81 ?_
                refine lv_iload X.1 X.2.1 d_Mo_decide_82 (lv_at hl 1 rfl) ?_
                refine gx_iadd X.1 X.2.1 d_Mo_decide_84 ?_
                refine ga_235 (by omega) X hP d_Mo_decide_85 ?_
                rw [ekv]
                refine gx_if_ne X.1 X.2.1 (tgt := 99) d_Mo_decide_86 (by decide) (by omega) (fun h86 => ?_) (fun h86 => ?_)
                · skip
                  refine lv_iconst (v := nI 1) X.1 X.2.1 d_Mo_decide_99 (by decide) ?_
                  refine lv_goto (tgt := 104) X.1 X.2.1 d_Mo_decide_100 (by decide) ?_
                  refine lv_istore X.1 X.2.1 d_Mo_decide_104 hl (by decide) rfl (fun ls hl => ?_)
                  have hl : lv_has ls 7 [(4, .int (nI 1)), (5, .int (nI 1)), (6, .int (nI i)), (0, .ref (ad 224)), (1, .int (nI u)), (2, .int (nI (xb bb)))] := hl
                  refine lv_iinc (k := 2) (v := nI (i + 1)) X.1 X.2.1 d_Mo_decide_106 hl rfl (nI_add _ _) (by decide) rfl (fun ls hl => ?_)
                  have hl : lv_has ls 7 [(6, .int (nI (i + 1))), (4, .int (nI 1)), (5, .int (nI 1)), (0, .ref (ad 224)), (1, .int (nI u)), (2, .int (nI (xb bb)))] := hl
                  refine lv_goto (tgt := 37) X.1 X.2.1 d_Mo_decide_109 (by decide) ?_
                  refine ih (i + 1) _ _ (by omega) (by decide) (by decide) ?_ ?_ H locs ls hP hS (lv_sub hl [0, 2, 1, 3, 4, 5] rfl)
                  · exact ⟨fun _ => ⟨i, by omega, h60⟩, fun _ => rfl⟩
                  · refine ⟨fun _ s hs ht => ?_, fun _ => rfl⟩
                    rcases (show s = i ∨ s < i by omega) with q | q
                    · rw [q]; exact h86
                    · exact hal.mp (by omega) s q ht
                · skip
                  refine lv_aload_n X.1 X.2.1 d_Mo_decide_89 rfl (lv_at hl 3 rfl) ?_
                  refine lv_iload_n X.1 X.2.1 d_Mo_decide_90 rfl (lv_at hl 4 rfl) ?_
                  refine lv_iload X.1 X.2.1 d_Mo_decide_91 (lv_at hl 1 rfl) ?_
                  refine cv_Mo_103 (rest := []) X hJ hP hS (by decide) (ec_Mo_0 _) (K_Mo_touches l dC dI cx ad hJ _ a u i hx hw (by omega) (by omega)) rfl rfl (by decide) hl.1 (Nat.le_of_ble_eq_true rfl) ⟨Nat.le_refl _, Nat.le_refl _⟩ d_Mo_decide_93 (fun r σ' H locs hq hP hS => ?_)
                  obtain ⟨hq0, b93, rfl, hb93, hp93⟩ := hq
                  rw [hq0] at hP
                  refine gx_if_ne X.1 X.2.1 (tgt := 103) d_Mo_decide_96 (by decide) (by omega) (fun h96 => ?_) (fun h96 => ?_)
                  · skip
                    refine lv_iconst (v := nI 0) X.1 X.2.1 d_Mo_decide_103 (by decide) ?_
                    refine lv_istore X.1 X.2.1 d_Mo_decide_104 hl (by decide) rfl (fun ls hl => ?_)
                    have hl : lv_has ls 7 [(4, .int (nI 0)), (5, .int (nI 1)), (6, .int (nI i)), (0, .ref (ad 224)), (1, .int (nI u)), (2, .int (nI (xb bb)))] := hl
                    refine lv_iinc (k := 2) (v := nI (i + 1)) X.1 X.2.1 d_Mo_decide_106 hl rfl (nI_add _ _) (by decide) rfl (fun ls hl => ?_)
                    have hl : lv_has ls 7 [(6, .int (nI (i + 1))), (4, .int (nI 0)), (5, .int (nI 1)), (0, .ref (ad 224)), (1, .int (nI u)), (2, .int (nI (xb bb)))] := hl
                    refine lv_goto (tgt := 37) X.1 X.2.1 d_Mo_decide_109 (by decide) ?_
                    refine ih (i + 1) _ _ (by omega) (by decide) (by decide) ?_ ?_ H locs ls hP hS (lv_sub hl [0, 2, 1, 3, 4, 5] rfl)
                    · exact ⟨fun _ => ⟨i, by omega, h60⟩, fun _ => rfl⟩
                    · exact ⟨fun q => absurd q (by decide), fun q => absurd h86 (q i (by omega) (hp93.mp (by omega)))⟩
                  · skip
                    refine lv_iconst (v := nI 1) X.1 X.2.1 d_Mo_decide_99 (by decide) ?_
                    refine lv_goto (tgt := 104) X.1 X.2.1 d_Mo_decide_100 (by decide) ?_
                    refine lv_istore X.1 X.2.1 d_Mo_decide_104 hl (by decide) rfl (fun ls hl => ?_)
                    have hl : lv_has ls 7 [(4, .int (nI 1)), (5, .int (nI 1)), (6, .int (nI i)), (0, .ref (ad 224)), (1, .int (nI u)), (2, .int (nI (xb bb)))] := hl
                    refine lv_iinc (k := 2) (v := nI (i + 1)) X.1 X.2.1 d_Mo_decide_106 hl rfl (nI_add _ _) (by decide) rfl (fun ls hl => ?_)
                    have hl : lv_has ls 7 [(6, .int (nI (i + 1))), (4, .int (nI 1)), (5, .int (nI 1)), (0, .ref (ad 224)), (1, .int (nI u)), (2, .int (nI (xb bb)))] := hl
                    refine lv_goto (tgt := 37) X.1 X.2.1 d_Mo_decide_109 (by decide) ?_
                    refine ih (i + 1) _ _ (by omega) (by decide) (by decide) ?_ ?_ H locs ls hP hS (lv_sub hl [0, 2, 1, 3, 4, 5] rfl)
                    · exact ⟨fun _ => ⟨i, by omega, h60⟩, fun _ => rfl⟩
                    · refine ⟨fun _ s hs ht => ?_, fun _ => rfl⟩
                      rcases (show s = i ∨ s < i by omega) with q | q
                      · rw [q] at ht; have := hp93.mpr ht; omega
                      · exact hal.mp (by omega) s q ht
      refine lv_iconst (v := nI 1) X.1 X.2.1 d_Mo_decide_28 (by decide) ?_
      refine lv_istore X.1 X.2.1 d_Mo_decide_29 hl (by decide) rfl (fun ls hl => ?_)
      have hl : lv_has ls 7 [(4, .int (nI 1)), (3, .int (nI 0)), (0, .ref (ad 224)), (1, .int (nI u)), (2, .int (nI (xb bb)))] := hl
      refine lv_iconst (v := nI 0) X.1 X.2.1 d_Mo_decide_31 (by decide) ?_
      refine lv_istore X.1 X.2.1 d_Mo_decide_32 hl (by decide) rfl (fun ls hl => ?_)
      have hl : lv_has ls 7 [(5, .int (nI 0)), (4, .int (nI 1)), (3, .int (nI 0)), (0, .ref (ad 224)), (1, .int (nI u)), (2, .int (nI (xb bb)))] := hl
      refine lv_iconst (v := nI 0) X.1 X.2.1 d_Mo_decide_34 (by decide) ?_
      refine lv_istore X.1 X.2.1 d_Mo_decide_35 hl (by decide) rfl (fun ls hl => ?_)
      have hl : lv_has ls 7 [(6, .int (nI 0)), (5, .int (nI 0)), (4, .int (nI 1)), (3, .int (nI 0)), (0, .ref (ad 224)), (1, .int (nI u)), (2, .int (nI (xb bb)))] := hl
      exact lp 3 0 0 1 rfl (by decide) (by decide) ⟨fun q => absurd q (by decide), fun ⟨s, h1, _⟩ => absurd h1 (Nat.not_lt_zero _)⟩ ⟨fun _ s hs => absurd hs (Nat.not_lt_zero _), fun _ => rfl⟩ _ _ ls hP hS (lv_sub hl [0, 1, 2, 4, 5, 6] rfl)
    · skip
      refine lv_aload_n X.1 X.2.1 d_Mo_decide_21 rfl (lv_at hl 1 rfl) ?_
      refine gg_Mo_44 X hP d_Mo_decide_22 ?_
      refine lv_iload_n X.1 X.2.1 d_Mo_decide_25 rfl (lv_at hl 2 rfl) ?_
      refine ga_236 (by omega) X hP d_Mo_decide_26 ?_
      rw [hx.2.2.2.2.2 u (by omega)]
      refine gx_iret X.1 X.2.1 hr hlk hP hS d_Mo_decide_27 ?_
      rw [ab_decide_kd hok hha (by rw [u3]; exact h18), u3]
      exact ⟨rfl, hx, fun n _ => rfl⟩
set_option maxRecDepth 100000 in
set_option maxHeartbeats 4000000 in
theorem K_Mo_timeout (l : Launch) (dC : Nat → ClassId) (dI : Nat → Nat → Nat) (cx : Nat → ClassId) (ad : Nat → Nat) (hJ : gx_J gx_N ad (gx_A gx_N ad)) (σ : gx_M) (a : ab_S) (B : Nat) (tq : Int32) (bb : Bool) (I : ab_I B a) (hB : B + 3 < 2 ^ 30) (hx : mr σ a) : cg_Mi l dC dI cx ad y_Mo_timeout w_Mo_timeout 6 [.ref (ad 224), .int tq, .int (nI (xb bb))] σ (fun r σ' => r = Int32.ofInt (ab_timeout a tq.toInt bb).1 ∧ mr σ' (ab_timeout a tq.toInt bb).2 ∧ ∀ n, n < 224 → σ' n = σ n) := by
  refine gx_ofW (cc := c_Mo_timeout) (maxL := 4) (ret := (Option.some Jvm.ClassFile.FieldType.int)) (by decide) rfl (Nat.le_of_ble_eq_true rfl) ?_
  intro p e s m below meth c ls S hr hlk hK hN hl hP
  have X : cg_X c_Mo_timeout "CommitGroupsModel" 4 dC dI cx p m c s _ := ⟨S.1, S.2.1, S.2.2.2.1, fun w h => S.2.2.2.2 w (List.mem_cons_of_mem _ h), hK, hN, S.2.2.1⟩
  have hS : va_S (gx_A gx_N ad) s.heap s.heap [] := va_S.rf
  have hl : lv_has ls 4 [(0, .ref (ad 224)), (1, .int tq), (2, .int (nI (xb bb)))] := hl
  have hw := ab_W_of I (by omega)
  have hn : σ 224 0 = ab_n a := hx.1
  have hn20 := hw.1
  have hv := ab_V_of I
  have hxb := xb_le bb
  refine lv_aload_n X.1 X.2.1 d_Mo_timeout_0 rfl (lv_at hl 0 rfl) ?_
  refine lv_iload_n X.1 X.2.1 d_Mo_timeout_1 rfl (lv_at hl 1 rfl) ?_
  refine cv_Mo_120 (rest := []) X hJ hP hS (by decide) (ec_Mo_0 _) (K_Mo_refusalAll l dC dI cx ad hJ σ a tq hw hx) rfl rfl (by decide) hl.1 (Nat.le_of_ble_eq_true rfl) ⟨Nat.le_refl _, Nat.le_refl _⟩ d_Mo_timeout_2 (fun r σ' H locs hq hP hS => ?_)
  obtain ⟨hq0, hq⟩ := hq
  rw [hq0] at hP
  rcases hq with ⟨hok, rfl⟩ | ⟨hok, hha, rfl⟩ | ⟨hok, hha, rfl⟩
  · skip
    refine lv_istore_n X.1 X.2.1 d_Mo_timeout_5 rfl hl (by decide) rfl (fun ls hl => ?_)
    have hl : lv_has ls 4 [(3, .int (-1)), (0, .ref (ad 224)), (1, .int tq), (2, .int (nI (xb bb)))] := hl
    refine lv_iload_n X.1 X.2.1 d_Mo_timeout_6 rfl (lv_at hl 0 rfl) ?_
    refine lv_if_ge X.1 X.2.1 (tgt := 12) d_Mo_timeout_7 (by decide) (fun h7 => absurd h7 (by decide)) (fun h7 => ?_)
    refine lv_iload_n X.1 X.2.1 d_Mo_timeout_10 rfl (lv_at hl 0 rfl) ?_
    refine gx_iret X.1 X.2.1 hr hlk hP hS d_Mo_timeout_11 ?_
    rw [ab_timeout_bad hok]
    exact ⟨rfl, hx, fun n _ => rfl⟩
  · skip
    refine lv_istore_n X.1 X.2.1 d_Mo_timeout_5 rfl hl (by decide) rfl (fun ls hl => ?_)
    have hl : lv_has ls 4 [(3, .int (-2)), (0, .ref (ad 224)), (1, .int tq), (2, .int (nI (xb bb)))] := hl
    refine lv_iload_n X.1 X.2.1 d_Mo_timeout_6 rfl (lv_at hl 0 rfl) ?_
    refine lv_if_ge X.1 X.2.1 (tgt := 12) d_Mo_timeout_7 (by decide) (fun h7 => absurd h7 (by decide)) (fun h7 => ?_)
    refine lv_iload_n X.1 X.2.1 d_Mo_timeout_10 rfl (lv_at hl 0 rfl) ?_
    refine gx_iret X.1 X.2.1 hr hlk hP hS d_Mo_timeout_11 ?_
    rw [ab_timeout_ha hok hha]
    exact ⟨rfl, hx, fun n _ => rfl⟩
  · skip
    refine lv_istore_n X.1 X.2.1 d_Mo_timeout_5 rfl hl (by decide) rfl (fun ls hl => ?_)
    have hl : lv_has ls 4 [(3, .int (nI 0)), (0, .ref (ad 224)), (1, .int tq), (2, .int (nI (xb bb)))] := hl
    refine lv_iload_n X.1 X.2.1 d_Mo_timeout_6 rfl (lv_at hl 0 rfl) ?_
    refine gx_if_ge X.1 X.2.1 (tgt := 12) d_Mo_timeout_7 (by decide) (by omega) ?_
    obtain ⟨⟨o1, o2⟩, o3⟩ := id hok
    obtain ⟨u, rfl, u1, u2, u3⟩ := gi_of (t := tq) (n := ab_n a) (by omega) (by omega)
    rw [u3] at o3
    have hkd2 := ab_kd_le I u
    have hxc := mr_close hx (t := u)
    have Ic := ab_I_close I u
    have ekd : gx_w σ 226 u 1 236 u = ab_kd a u := hxc.2.2.2.2.2 u (by omega)
    refine lv_aload_n X.1 X.2.1 d_Mo_timeout_12 rfl (lv_at hl 1 rfl) ?_
    refine gg_Mo_13 X hP d_Mo_timeout_13 ?_
    refine lv_iload_n X.1 X.2.1 d_Mo_timeout_16 rfl (lv_at hl 2 rfl) ?_
    refine lv_iconst (v := nI 1) X.1 X.2.1 d_Mo_timeout_17 (by decide) ?_
    refine gs_226 (by omega) (by omega) X hJ hP hS d_Mo_timeout_18 (fun H locs hP hS => ?_)
    refine lv_aload_n X.1 X.2.1 d_Mo_timeout_19 rfl (lv_at hl 1 rfl) ?_
    refine gg_Mo_44 X hP d_Mo_timeout_20 ?_
    refine lv_iload_n X.1 X.2.1 d_Mo_timeout_23 rfl (lv_at hl 2 rfl) ?_
    refine ga_236 (by omega) X hP d_Mo_timeout_24 ?_
    rw [ekd]
    refine gx_if_eq X.1 X.2.1 (tgt := 37) d_Mo_timeout_25 (by decide) (by omega) (fun h25 => ?_) (fun h25 => ?_)
    · skip
      have hI2 : ab_I B (ab_log (ab_close a u) 3 (2, u)).2 := ab_I_logD Ic ⟨pu_up_self _ _ _, (show 1 ≤ u by omega), u1, (show 2 ≤ 2 by decide), (show 2 ≠ 0 by decide)⟩ (fun q => absurd q (show ¬ ((2 : Nat) = 1) by decide))
      refine lv_aload_n X.1 X.2.1 d_Mo_timeout_37 rfl (lv_at hl 1 rfl) ?_
      refine lv_iload_n X.1 X.2.1 d_Mo_timeout_38 rfl (lv_at hl 2 rfl) ?_
      refine lv_iconst (v := nI 3) X.1 X.2.1 d_Mo_timeout_39 (by decide) ?_
      refine lv_iload_n X.1 X.2.1 d_Mo_timeout_40 rfl (lv_at hl 3 rfl) ?_
      refine cv_Mo_123 (rest := []) X hJ hP hS (by decide) (ec_Mo_0 _) (K_Mo_propose l dC dI cx ad hJ _ (ab_close a u) B 2 u bb Ic hB hxc (by omega) u1 (by decide) hI2) rfl rfl (by decide) hl.1 (Nat.le_of_ble_eq_true rfl) ⟨Nat.le_refl _, Nat.le_refl _⟩ d_Mo_timeout_41 (fun r σ' H locs hq hP hS => ?_)
      obtain ⟨hqr, q1, q2⟩ := hq
      refine gx_iret X.1 X.2.1 hr hlk hP hS d_Mo_timeout_44 ?_
      rw [ab_timeout_go hok hha (by rw [u3]; exact h25), u3]
      exact ⟨hqr, q1, fun n hn => by rw [q2 n hn, gx_w_row _ _ _ (by omega)]⟩
    · skip
      refine lv_aload_n X.1 X.2.1 d_Mo_timeout_28 rfl (lv_at hl 1 rfl) ?_
      refine gg_Mo_44 X hP d_Mo_timeout_29 ?_
      refine lv_iload_n X.1 X.2.1 d_Mo_timeout_32 rfl (lv_at hl 2 rfl) ?_
      refine ga_236 (by omega) X hP d_Mo_timeout_33 ?_
      rw [ekd]
      refine lv_goto (tgt := 44) X.1 X.2.1 d_Mo_timeout_34 (by decide) ?_
      refine gx_iret X.1 X.2.1 hr hlk hP hS d_Mo_timeout_44 ?_
      rw [ab_timeout_kd hok hha (by rw [u3]; exact h25), u3]
      exact ⟨rfl, hxc, fun n hn => gx_w_row _ _ _ (by omega)⟩
set_option maxRecDepth 100000 in
set_option maxHeartbeats 4000000 in
theorem K_Mo_finish (l : Launch) (dC : Nat → ClassId) (dI : Nat → Nat → Nat) (cx : Nat → ClassId) (ad : Nat → Nat) (hJ : gx_J gx_N ad (gx_A gx_N ad)) (σ : gx_M) (a : ab_S) (B : Nat) (tq sq : Int32) (I : ab_I B a) (hB : B + 3 < 2 ^ 30) (hx : mr σ a) : cg_Mi l dC dI cx ad y_Mo_finish w_Mo_finish 5 [.ref (ad 224), .int tq, .int sq] σ (fun r σ' => r = Int32.ofInt (ab_finish a tq.toInt sq.toInt).1 ∧ mr σ' (ab_finish a tq.toInt sq.toInt).2 ∧ ∀ n, n < 224 → σ' n = σ n) := by
  refine gx_ofW (cc := c_Mo_finish) (maxL := 6) (ret := (Option.some Jvm.ClassFile.FieldType.int)) (by decide) rfl (Nat.le_of_ble_eq_true rfl) ?_
  intro p e s m below meth c ls S hr hlk hK hN hl hP
  have X : cg_X c_Mo_finish "CommitGroupsModel" 6 dC dI cx p m c s _ := ⟨S.1, S.2.1, S.2.2.2.1, fun w h => S.2.2.2.2 w (List.mem_cons_of_mem _ h), hK, hN, S.2.2.1⟩
  have hS : va_S (gx_A gx_N ad) s.heap s.heap [] := va_S.rf
  have hl : lv_has ls 6 [(0, .ref (ad 224)), (1, .int tq), (2, .int sq)] := hl
  have hw := ab_W_of I (by omega)
  have hn : σ 224 0 = ab_n a := hx.1
  have hn20 := hw.1
  have hv := ab_V_of I
  refine lv_aload_n X.1 X.2.1 d_Mo_finish_0 rfl (lv_at hl 0 rfl) ?_
  refine lv_iload_n X.1 X.2.1 d_Mo_finish_1 rfl (lv_at hl 1 rfl) ?_
  refine lv_iload_n X.1 X.2.1 d_Mo_finish_2 rfl (lv_at hl 2 rfl) ?_
  refine cv_Mo_110 (rest := []) X hJ hP hS (by decide) (ec_Mo_0 _) (K_Mo_refusal l dC dI cx ad hJ σ a tq sq hw hx) rfl rfl (by decide) hl.1 (Nat.le_of_ble_eq_true rfl) ⟨Nat.le_refl _, Nat.le_refl _⟩ d_Mo_finish_3 (fun r σ' H locs hq hP hS => ?_)
  obtain ⟨hq0, hq⟩ := hq
  rw [hq0] at hP
  rcases hq with ⟨hok, rfl⟩ | ⟨hok, hha, rfl⟩ | ⟨hok, hha, rfl⟩
  · skip
    refine lv_istore_n X.1 X.2.1 d_Mo_finish_6 rfl hl (by decide) rfl (fun ls hl => ?_)
    have hl : lv_has ls 6 [(3, .int (-1)), (0, .ref (ad 224)), (1, .int tq), (2, .int sq)] := hl
    refine lv_iload_n X.1 X.2.1 d_Mo_finish_7 rfl (lv_at hl 0 rfl) ?_
    refine lv_if_ge X.1 X.2.1 (tgt := 13) d_Mo_finish_8 (by decide) (fun h8 => absurd h8 (by decide)) (fun h8 => ?_)
    refine lv_iload_n X.1 X.2.1 d_Mo_finish_11 rfl (lv_at hl 0 rfl) ?_
    refine gx_iret X.1 X.2.1 hr hlk hP hS d_Mo_finish_12 ?_
    rw [ab_finish_bad hok]
    exact ⟨rfl, hx, fun n _ => rfl⟩
  · skip
    refine lv_istore_n X.1 X.2.1 d_Mo_finish_6 rfl hl (by decide) rfl (fun ls hl => ?_)
    have hl : lv_has ls 6 [(3, .int (-2)), (0, .ref (ad 224)), (1, .int tq), (2, .int sq)] := hl
    refine lv_iload_n X.1 X.2.1 d_Mo_finish_7 rfl (lv_at hl 0 rfl) ?_
    refine lv_if_ge X.1 X.2.1 (tgt := 13) d_Mo_finish_8 (by decide) (fun h8 => absurd h8 (by decide)) (fun h8 => ?_)
    refine lv_iload_n X.1 X.2.1 d_Mo_finish_11 rfl (lv_at hl 0 rfl) ?_
    refine gx_iret X.1 X.2.1 hr hlk hP hS d_Mo_finish_12 ?_
    rw [ab_finish_ha hok hha]
    exact ⟨rfl, hx, fun n _ => rfl⟩
  · skip
    refine lv_istore_n X.1 X.2.1 d_Mo_finish_6 rfl hl (by decide) rfl (fun ls hl => ?_)
    have hl : lv_has ls 6 [(3, .int (nI 0)), (0, .ref (ad 224)), (1, .int tq), (2, .int sq)] := hl
    refine lv_iload_n X.1 X.2.1 d_Mo_finish_7 rfl (lv_at hl 0 rfl) ?_
    refine gx_if_ge X.1 X.2.1 (tgt := 13) d_Mo_finish_8 (by decide) (by omega) ?_
    obtain ⟨⟨o1, o2⟩, o3, o4, o5⟩ := id hok
    obtain ⟨u, rfl, u1, u2, u3⟩ := gi_of (t := tq) (n := ab_n a) (by omega) (by omega)
    obtain ⟨x, rfl, x1, x2, x3⟩ := gi_of (t := sq) (n := 2) (by omega) (by omega)
    rw [u3, x3] at o5
    have hkd2 := ab_kd_le I u
    refine lv_aload_n X.1 X.2.1 d_Mo_finish_13 rfl (lv_at hl 1 rfl) ?_
    refine gg_Mo_44 X hP d_Mo_finish_14 ?_
    refine lv_iload_n X.1 X.2.1 d_Mo_finish_17 rfl (lv_at hl 2 rfl) ?_
    refine ga_236 (by omega) X hP d_Mo_finish_18 ?_
    rw [hx.2.2.2.2.2 u (by omega)]
    refine gx_if_ne X.1 X.2.1 (tgt := 24) d_Mo_finish_19 (by decide) (by omega) (fun h19 => ?_) (fun h19 => ?_)
    · skip
      refine lv_aload_n X.1 X.2.1 d_Mo_finish_24 rfl (lv_at hl 1 rfl) ?_
      refine lv_iload_n X.1 X.2.1 d_Mo_finish_25 rfl (lv_at hl 3 rfl) ?_
      refine cv_Mo_97 (rest := []) X hJ hP hS (by decide) (ec_Mo_0 _) (K_Mo_leader l dC dI cx ad hJ _ a (nI x) hx hw) rfl rfl (by decide) hl.1 (Nat.le_of_ble_eq_true rfl) ⟨Nat.le_refl _, Nat.le_refl _⟩ d_Mo_finish_26 (fun r σ' H locs hq hP hS => ?_)
      obtain ⟨hq0, rfl⟩ := hq
      rw [hq0] at hP
      rcases ab_leader_c a (g := x) (by omega) with ⟨hld, hqr⟩ | ⟨hld, hlt, hup, hqr⟩ <;> rw [hqr]
      · skip
        refine lv_istore X.1 X.2.1 d_Mo_finish_29 hl (by decide) rfl (fun ls hl => ?_)
        have hl : lv_has ls 6 [(4, .int (-1)), (3, .int (nI 0)), (0, .ref (ad 224)), (1, .int (nI u)), (2, .int (nI x))] := hl
        refine lv_iload X.1 X.2.1 d_Mo_finish_31 (lv_at hl 0 rfl) ?_
        refine lv_if_ge X.1 X.2.1 (tgt := 39) d_Mo_finish_33 (by decide) (fun h33 => absurd h33 (by decide)) (fun h33 => ?_)
        refine lv_bipush (v := -3) X.1 X.2.1 d_Mo_finish_36 (by decide) ?_
        refine gx_iret X.1 X.2.1 hr hlk hP hS d_Mo_finish_38 ?_
        rw [ab_finish_nl hok hha (by rw [u3]; exact h19) (by rw [x3]; exact hld)]
        exact ⟨rfl, hx, fun n _ => rfl⟩
      · skip
        have hl3 : ab_ld a x ≠ 3 := by omega
        have hxb := xb_le ((ab_ex a x (ab_ld a x)).2.1 u)
        refine lv_istore X.1 X.2.1 d_Mo_finish_29 hl (by decide) rfl (fun ls hl => ?_)
        have hl : lv_has ls 6 [(4, .int (nI (ab_ld a x))), (3, .int (nI 0)), (0, .ref (ad 224)), (1, .int (nI u)), (2, .int (nI x))] := hl
        refine lv_iload X.1 X.2.1 d_Mo_finish_31 (lv_at hl 0 rfl) ?_
        refine gx_if_ge X.1 X.2.1 (tgt := 39) d_Mo_finish_33 (by decide) (by omega) ?_
        refine lv_aload_n X.1 X.2.1 d_Mo_finish_39 rfl (lv_at hl 2 rfl) ?_
        refine lv_iload_n X.1 X.2.1 d_Mo_finish_40 rfl (lv_at hl 4 rfl) ?_
        refine lv_iload X.1 X.2.1 d_Mo_finish_41 (lv_at hl 0 rfl) ?_
        refine cv_Mo_113 (rest := []) X hJ hP hS (by decide) (ec_Mo_0 _) (K_Mo_work_s l dC dI cx ad hJ _ a x (ab_ld a x) hx hw hv (by omega) hld) rfl rfl (by decide) hl.1 (Nat.le_of_ble_eq_true rfl) ⟨Nat.le_refl _, Nat.le_refl _⟩ d_Mo_finish_43 (fun σ' H locs hq hP hS => ?_)
        obtain ⟨w1, w2⟩ := hq
        have ekd : σ' 236 u = ab_kd a u := (mr_mC hx w2).2.2.2.2.2 u (by omega)
        refine lv_aload_n X.1 X.2.1 d_Mo_finish_46 rfl (lv_at hl 2 rfl) ?_
        refine gg_Mo_50 X hP d_Mo_finish_47 ?_
        refine lv_iload_n X.1 X.2.1 d_Mo_finish_50 rfl (lv_at hl 3 rfl) ?_
        refine ga_238 (by omega) X hP d_Mo_finish_51 ?_
        rw [(w1.1 u (by omega)).2]
        refine gx_if_eq X.1 X.2.1 (tgt := 57) d_Mo_finish_52 (by decide) (by omega) (fun h52 => ?_) (fun h52 => ?_)
        · skip
          refine lv_aload_n X.1 X.2.1 d_Mo_finish_57 rfl (lv_at hl 2 rfl) ?_
          refine lv_iload_n X.1 X.2.1 d_Mo_finish_58 rfl (lv_at hl 4 rfl) ?_
          refine lv_aload_n X.1 X.2.1 d_Mo_finish_59 rfl (lv_at hl 2 rfl) ?_
          refine gg_Mo_44 X hP d_Mo_finish_60 ?_
          refine lv_iload_n X.1 X.2.1 d_Mo_finish_63 rfl (lv_at hl 3 rfl) ?_
          refine ga_236 (by omega) X hP d_Mo_finish_64 ?_
          rw [ekd]
          refine lv_iconst (v := nI 1) X.1 X.2.1 d_Mo_finish_65 (by decide) ?_
          refine gx_icmp_ne X.1 X.2.1 (tgt := 73) d_Mo_finish_66 (by decide) (by omega) (by omega) (fun h66 => ?_) (fun h66 => ?_)
          · skip
            have hk2 : ab_kd a u = 2 := by omega
            refine lv_iconst (v := nI 3) X.1 X.2.1 d_Mo_finish_73 (by decide) ?_
            refine lv_iload_n X.1 X.2.1 d_Mo_finish_74 rfl (lv_at hl 3 rfl) ?_
            refine cv_Mo_116 (rest := []) X hJ hP hS (by decide) (ec_Mo_0 _) (K_Mo_append l dC dI cx ad hJ σ' a x 2 u (mr_mC hx w2) hw (by omega) (by omega) (by omega) (by decide)) rfl rfl (by decide) hl.1 (Nat.le_of_ble_eq_true rfl) ⟨Nat.le_refl _, Nat.le_refl _⟩ d_Mo_finish_75 (fun r υ H locs hq hP hS => ?_)
            obtain ⟨hqr, q1, q2⟩ := hq
            refine lv_istore X.1 X.2.1 d_Mo_finish_78 hl (by decide) rfl (fun ls hl => ?_)
            have hl : lv_has ls 6 [(5, .int r), (4, .int (nI (ab_ld a x))), (3, .int (nI 0)), (0, .ref (ad 224)), (1, .int (nI u)), (2, .int (nI x))] := hl
            refine lv_iload X.1 X.2.1 d_Mo_finish_80 (lv_at hl 0 rfl) ?_
            refine lv_if_ge X.1 X.2.1 (tgt := 90) d_Mo_finish_82 (by decide) (fun h82 => ?_) (fun h82 => ?_)
            · skip
              have hz0 : (ab_log a x (2, u)).1 = 0 := ab_log_ge.mp (by rw [← hqr]; exact h82)
              refine lv_iconst (v := nI 1) X.1 X.2.1 d_Mo_finish_90 (by decide) ?_
              refine gx_iret X.1 X.2.1 hr hlk hP hS d_Mo_finish_91 ?_
              have hgo := ab_finish_go hok hha (by rw [u3]; exact h19) (by rw [x3]; exact hl3) (by rw [u3, x3]; exact xb_zero.mp h52)
              rw [u3, x3, hk2] at hgo
              rw [hgo, if_neg (fun z => z hz0)]
              exact ⟨rfl, q1, fun n hn => by rw [q2 n (by omega), mC_lo w2 n hn]⟩
            · skip
              have hz0 : (ab_log a x (2, u)).1 ≠ 0 := fun z => h82 (by rw [hqr]; exact ab_log_ge.mpr z)
              refine lv_iload X.1 X.2.1 d_Mo_finish_85 (lv_at hl 0 rfl) ?_
              refine lv_goto (tgt := 91) X.1 X.2.1 d_Mo_finish_87 (by decide) ?_
              refine gx_iret X.1 X.2.1 hr hlk hP hS d_Mo_finish_91 ?_
              have hgo := ab_finish_go hok hha (by rw [u3]; exact h19) (by rw [x3]; exact hl3) (by rw [u3, x3]; exact xb_zero.mp h52)
              rw [u3, x3, hk2] at hgo
              rw [hgo, if_pos hz0]
              exact ⟨hqr, q1, fun n hn => by rw [q2 n (by omega), mC_lo w2 n hn]⟩
          · skip
            have hk1 : ab_kd a u = 1 := h66
            refine lv_iconst (v := nI 2) X.1 X.2.1 d_Mo_finish_69 (by decide) ?_
            refine lv_goto (tgt := 74) X.1 X.2.1 d_Mo_finish_70 (by decide) ?_
            refine lv_iload_n X.1 X.2.1 d_Mo_finish_74 rfl (lv_at hl 3 rfl) ?_
            refine cv_Mo_116 (rest := []) X hJ hP hS (by decide) (ec_Mo_0 _) (K_Mo_append l dC dI cx ad hJ σ' a x 1 u (mr_mC hx w2) hw (by omega) (by omega) (by omega) (by decide)) rfl rfl (by decide) hl.1 (Nat.le_of_ble_eq_true rfl) ⟨Nat.le_refl _, Nat.le_refl _⟩ d_Mo_finish_75 (fun r υ H locs hq hP hS => ?_)
            obtain ⟨hqr, q1, q2⟩ := hq
            refine lv_istore X.1 X.2.1 d_Mo_finish_78 hl (by decide) rfl (fun ls hl => ?_)
            have hl : lv_has ls 6 [(5, .int r), (4, .int (nI (ab_ld a x))), (3, .int (nI 0)), (0, .ref (ad 224)), (1, .int (nI u)), (2, .int (nI x))] := hl
            refine lv_iload X.1 X.2.1 d_Mo_finish_80 (lv_at hl 0 rfl) ?_
            refine lv_if_ge X.1 X.2.1 (tgt := 90) d_Mo_finish_82 (by decide) (fun h82 => ?_) (fun h82 => ?_)
            · skip
              have hz0 : (ab_log a x (1, u)).1 = 0 := ab_log_ge.mp (by rw [← hqr]; exact h82)
              refine lv_iconst (v := nI 1) X.1 X.2.1 d_Mo_finish_90 (by decide) ?_
              refine gx_iret X.1 X.2.1 hr hlk hP hS d_Mo_finish_91 ?_
              have hgo := ab_finish_go hok hha (by rw [u3]; exact h19) (by rw [x3]; exact hl3) (by rw [u3, x3]; exact xb_zero.mp h52)
              rw [u3, x3, hk1] at hgo
              rw [hgo, if_neg (fun z => z hz0)]
              exact ⟨rfl, q1, fun n hn => by rw [q2 n (by omega), mC_lo w2 n hn]⟩
            · skip
              have hz0 : (ab_log a x (1, u)).1 ≠ 0 := fun z => h82 (by rw [hqr]; exact ab_log_ge.mpr z)
              refine lv_iload X.1 X.2.1 d_Mo_finish_85 (lv_at hl 0 rfl) ?_
              refine lv_goto (tgt := 91) X.1 X.2.1 d_Mo_finish_87 (by decide) ?_
              refine gx_iret X.1 X.2.1 hr hlk hP hS d_Mo_finish_91 ?_
              have hgo := ab_finish_go hok hha (by rw [u3]; exact h19) (by rw [x3]; exact hl3) (by rw [u3, x3]; exact xb_zero.mp h52)
              rw [u3, x3, hk1] at hgo
              rw [hgo, if_pos hz0]
              exact ⟨hqr, q1, fun n hn => by rw [q2 n (by omega), mC_lo w2 n hn]⟩
        · skip
          refine lv_iconst (v := nI 1) X.1 X.2.1 d_Mo_finish_55 (by decide) ?_
          refine gx_iret X.1 X.2.1 hr hlk hP hS d_Mo_finish_56 ?_
          rw [ab_finish_done hok hha (by rw [u3]; exact h19) (by rw [x3]; exact hl3) (by rw [u3, x3]; exact xb_one.mp (by omega))]
          exact ⟨rfl, mr_mC hx w2, fun n hn => mC_lo w2 n hn⟩
    · skip
      refine lv_iconst (v := nI 0) X.1 X.2.1 d_Mo_finish_22 (by decide) ?_
      refine gx_iret X.1 X.2.1 hr hlk hP hS d_Mo_finish_23 ?_
      rw [ab_finish_0 hok hha (by rw [u3]; exact h19)]
      exact ⟨rfl, hx, fun n _ => rfl⟩
