/-! contracts: the face of the system, three: prepare, decide, timeout, finish -/
set_option maxRecDepth 100000 in
set_option maxHeartbeats 4000000 in
theorem K_CG_propose (l : Launch) (dC : Nat → ClassId) (dI : Nat → Nat → Nat) (cx : Nat → ClassId) (ad : Nat → Nat) (hJ : gx_J gx_N ad (gx_A gx_N ad)) (σ : gx_M) (a : ab_S) (B : Nat) (k u : Nat) (bb : Bool) (I : ab_I B a) (hB : B + 3 < 2 ^ 30) (hx : xr σ a) (hu1 : 1 ≤ u) (hu2 : u ≤ ab_n a) (hk : k ≤ 2) (hI2 : ab_I B (ab_log a 3 (k, u)).2) : cg_Mi l dC dI cx ad y_CG_propose w_CG_propose 6 [.ref (ad 0), .int (nI k), .int (nI u), .int (nI (xb bb))] σ (fun r σ' => r = Int32.ofInt (ab_propose a k u bb).1 ∧ xr σ' (ab_propose a k u bb).2 ∧ ∀ n, 224 ≤ n → σ' n = σ n) := by
  refine gx_ofW (cc := c_CG_propose) (maxL := 8) (ret := (Option.some Jvm.ClassFile.FieldType.int)) (by decide) rfl (Nat.le_of_ble_eq_true rfl) ?_
  intro p e s m below meth c ls S hr hlk hK hN hl hP
  have X : cg_X c_CG_propose "CommitGroups" 8 dC dI cx p m c s _ := ⟨S.1, S.2.1, S.2.2.2.1, fun w h => S.2.2.2.2 w (List.mem_cons_of_mem _ h), hK, hN, S.2.2.1⟩
  have hS : va_S (gx_A gx_N ad) s.heap s.heap [] := va_S.rf
  have hl : lv_has ls 8 [(0, .ref (ad 0)), (1, .int (nI k)), (2, .int (nI u)), (3, .int (nI (xb bb)))] := hl
  have hw := ab_W_of I (by omega)
  have hn : σ 0 5 = ab_n a := hx.1
  have hn20 := hw.1
  have hxb := xb_le bb
  have hw2 := ab_W_of hI2 (by omega)
  refine lv_aload_n X.1 X.2.1 d_CG_propose_0 rfl (lv_at hl 0 rfl) ?_
  refine gg_CG_18 X hP d_CG_propose_1 ?_
  refine lv_iconst (v := nI 3) X.1 X.2.1 d_CG_propose_4 (by decide) ?_
  refine gr_gs (by omega) X hP d_CG_propose_5 ?_
  refine lv_astore X.1 X.2.1 d_CG_propose_6 hl (by decide) rfl (fun ls hl => ?_)
  have hl : lv_has ls 8 [(4, .ref (ad (nGr 3))), (0, .ref (ad 0)), (1, .int (nI k)), (2, .int (nI u)), (3, .int (nI (xb bb)))] := hl
  refine lv_aload X.1 X.2.1 d_CG_propose_8 (lv_at hl 0 rfl) ?_
  refine cv_CG_76 (rest := []) X hJ hP hS (nGr_lt (by omega)) (ec_nGr (by omega) _) (K_Gr_findLeader l dC dI cx ad hJ _ a 3 (by decide) hx hw) rfl rfl (by decide) hl.1 (Nat.le_of_ble_eq_true rfl) ⟨Nat.le_refl _, Nat.le_refl _⟩ d_CG_propose_10 (fun r σ' H locs hq hP hS => ?_)
  obtain ⟨hq0, hq⟩ := hq
  rw [hq0] at hP
  rcases hq with ⟨hld, rfl⟩ | ⟨hld, hlt, hup, rfl⟩
  · skip
    refine lv_istore X.1 X.2.1 d_CG_propose_13 hl (by decide) rfl (fun ls hl => ?_)
    have hl : lv_has ls 8 [(5, .int (-1)), (4, .ref (ad (nGr 3))), (0, .ref (ad 0)), (1, .int (nI k)), (2, .int (nI u)), (3, .int (nI (xb bb)))] := hl
    refine lv_iload X.1 X.2.1 d_CG_propose_15 (lv_at hl 0 rfl) ?_
    refine lv_if_ge X.1 X.2.1 (tgt := 23) d_CG_propose_17 (by decide) (fun h17 => absurd h17 (by decide)) (fun h17 => ?_)
    refine lv_bipush (v := -3) X.1 X.2.1 d_CG_propose_20 (by decide) ?_
    refine gx_iret X.1 X.2.1 hr hlk hP hS d_CG_propose_22 ?_
    rw [ab_propose_nl hld]
    exact ⟨rfl, hx, fun n _ => rfl⟩
  · skip
    have hl3 : ab_ld a 3 ≠ 3 := by omega
    have evd : σ (nDd (ab_ld a 3)) u = ab_ds a (ab_ld a 3) u := hx.2.2.2.2.1 _ hld u (by omega)
    have hd2 := ab_ds_le hw hld u (ab_dn a 3 (ab_ld a 3))
    rw [ab_setdn_id] at hd2
    refine lv_istore X.1 X.2.1 d_CG_propose_13 hl (by decide) rfl (fun ls hl => ?_)
    have hl : lv_has ls 8 [(5, .int (nI (ab_ld a 3))), (4, .ref (ad (nGr 3))), (0, .ref (ad 0)), (1, .int (nI k)), (2, .int (nI u)), (3, .int (nI (xb bb)))] := hl
    refine lv_iload X.1 X.2.1 d_CG_propose_15 (lv_at hl 0 rfl) ?_
    refine gx_if_ge X.1 X.2.1 (tgt := 23) d_CG_propose_17 (by decide) (by omega) ?_
    refine lv_aload_n X.1 X.2.1 d_CG_propose_23 rfl (lv_at hl 2 rfl) ?_
    refine gg_CG_30 X hP d_CG_propose_24 ?_
    refine lv_iload X.1 X.2.1 d_CG_propose_27 (lv_at hl 0 rfl) ?_
    refine gr_dd (by omega) X hP d_CG_propose_29 ?_
    refine lv_astore X.1 X.2.1 d_CG_propose_30 hl (by decide) rfl (fun ls hl => ?_)
    have hl : lv_has ls 8 [(6, .ref (ad (nSt 3 (ab_ld a 3)))), (5, .int (nI (ab_ld a 3))), (4, .ref (ad (nGr 3))), (0, .ref (ad 0)), (1, .int (nI k)), (2, .int (nI u)), (3, .int (nI (xb bb)))] := hl
    refine lv_aload X.1 X.2.1 d_CG_propose_32 (lv_at hl 0 rfl) ?_
    refine gg_CG_176 (by omega) X hP d_CG_propose_34 ?_
    refine lv_iload_n X.1 X.2.1 d_CG_propose_37 rfl (lv_at hl 5 rfl) ?_
    refine ga_nDd (by omega) (by omega) X hP d_CG_propose_38 ?_
    rw [evd]
    refine gx_if_ne X.1 X.2.1 (tgt := 62) d_CG_propose_39 (by decide) (by omega) (fun h39 => ?_) (fun h39 => ?_)
    · skip
      refine lv_iload_n X.1 X.2.1 d_CG_propose_62 rfl (lv_at hl 6 rfl) ?_
      refine gx_if_ne X.1 X.2.1 (tgt := 68) d_CG_propose_63 (by decide) (by omega) (fun h63 => ?_) (fun h63 => ?_)
      · skip
        have hbt : bb = true := xb_one.mp (by omega)
        have hxk := xr_setkd hx (t := u) (d := ab_ds a (ab_ld a 3) u) (by omega)
        refine lv_aload_n X.1 X.2.1 d_CG_propose_68 rfl (lv_at hl 3 rfl) ?_
        refine gg_CG_37 X hP d_CG_propose_69 ?_
        refine gg_CG_98 X hP d_CG_propose_72 ?_
        refine lv_iload_n X.1 X.2.1 d_CG_propose_75 rfl (lv_at hl 5 rfl) ?_
        refine lv_aload X.1 X.2.1 d_CG_propose_76 (lv_at hl 0 rfl) ?_
        refine gg_CG_176 (by omega) X hP d_CG_propose_78 ?_
        refine lv_iload_n X.1 X.2.1 d_CG_propose_81 rfl (lv_at hl 5 rfl) ?_
        refine ga_nDd (by omega) (by omega) X hP d_CG_propose_82 ?_
        rw [evd]
        refine gs_112 (by omega) X hJ hP hS d_CG_propose_83 (fun H locs hP hS => ?_)
        refine lv_aload X.1 X.2.1 d_CG_propose_84 (lv_at hl 0 rfl) ?_
        refine gg_CG_176 (by omega) X hP d_CG_propose_86 ?_
        refine lv_iload_n X.1 X.2.1 d_CG_propose_89 rfl (lv_at hl 5 rfl) ?_
        refine ga_nDd (by omega) (by omega) X hP d_CG_propose_90 ?_
        rw [gx_w_row _ _ _ (by unfold nDd; omega), evd]
        refine gx_iret X.1 X.2.1 hr hlk hP hS d_CG_propose_91 ?_
        rw [ab_propose_go hl3 _ rfl, if_neg h39]
        dsimp only
        rw [if_neg (show ¬ ((0 : Int) ≠ 0) by decide), if_neg (by rw [hbt]; decide)]
        exact ⟨rfl, hxk, fun n hn => gx_w_row _ _ _ (by omega)⟩
      · skip
        refine lv_iconst (v := nI 3) X.1 X.2.1 d_CG_propose_66 (by decide) ?_
        refine gx_iret X.1 X.2.1 hr hlk hP hS d_CG_propose_67 ?_
        rw [ab_propose_go hl3 _ rfl, if_neg h39]
        dsimp only
        rw [if_neg (show ¬ ((0 : Int) ≠ 0) by decide), if_pos (xb_zero.mp h63)]
        exact ⟨rfl, hx, fun n _ => rfl⟩
    · skip
      refine lv_aload X.1 X.2.1 d_CG_propose_42 (lv_at hl 2 rfl) ?_
      refine lv_iload_n X.1 X.2.1 d_CG_propose_44 rfl (lv_at hl 4 rfl) ?_
      refine lv_iload_n X.1 X.2.1 d_CG_propose_45 rfl (lv_at hl 5 rfl) ?_
      refine cv_CG_84 (rest := [.ref (ad (nGr 3))]) X hJ hP hS (K_CG_entry l dC dI cx ad hJ _ k u) rfl rfl (by decide) hl.1 (Nat.le_of_ble_eq_true rfl) ⟨Nat.le_refl _, Nat.le_refl _⟩ d_CG_propose_46 (fun r σ' H locs hq hP hS => ?_)
      obtain ⟨hq0, rfl⟩ := hq
      rw [hq0] at hP
      refine cv_CG_87 (rest := []) X hJ hP hS (nGr_lt (by omega)) (ec_nGr (by omega) _) (K_Gr_log l dC dI cx ad hJ _ a 3 (k, u) (by decide) hx hw ⟨hu1, (show u ≤ 20 by omega), hk⟩ (fun z1 z2 => ab_log_sp I (by decide) (k, u) z1 z2)) rfl rfl (by decide) hl.1 (Nat.le_of_ble_eq_true rfl) ⟨Nat.le_refl _, Nat.le_refl _⟩ d_CG_propose_49 (fun r σ' H locs hq hP hS => ?_)
      obtain ⟨hqr, q1, q2⟩ := hq
      refine lv_istore X.1 X.2.1 d_CG_propose_52 hl (by decide) rfl (fun ls hl => ?_)
      have hl : lv_has ls 8 [(7, .int r), (6, .ref (ad (nSt 3 (ab_ld a 3)))), (5, .int (nI (ab_ld a 3))), (4, .ref (ad (nGr 3))), (0, .ref (ad 0)), (1, .int (nI k)), (2, .int (nI u)), (3, .int (nI (xb bb)))] := hl
      refine lv_iload X.1 X.2.1 d_CG_propose_54 (lv_at hl 0 rfl) ?_
      refine lv_if_eq X.1 X.2.1 (tgt := 62) d_CG_propose_56 (by decide) (fun h56 => ?_) (fun h56 => ?_)
      · skip
        have hz0 : (ab_log a 3 (k, u)).1 = 0 := ab_log_zero.mp (by rw [← hqr]; exact h56)
        refine lv_iload_n X.1 X.2.1 d_CG_propose_62 rfl (lv_at hl 7 rfl) ?_
        refine gx_if_ne X.1 X.2.1 (tgt := 68) d_CG_propose_63 (by decide) (by omega) (fun h63 => ?_) (fun h63 => ?_)
        · skip
          have hbt : bb = true := xb_one.mp (by omega)
          have ev2 : σ' (nDd (ab_ld a 3)) u = ab_ds (ab_log a 3 (k, u)).2 (ab_ld a 3) u := q1.2.2.2.2.1 _ hld u (by omega)
          have hxk := xr_setkd q1 (t := u) (d := ab_ds (ab_log a 3 (k, u)).2 (ab_ld a 3) u) (by omega)
          refine lv_aload_n X.1 X.2.1 d_CG_propose_68 rfl (lv_at hl 4 rfl) ?_
          refine gg_CG_37 X hP d_CG_propose_69 ?_
          refine gg_CG_98 X hP d_CG_propose_72 ?_
          refine lv_iload_n X.1 X.2.1 d_CG_propose_75 rfl (lv_at hl 6 rfl) ?_
          refine lv_aload X.1 X.2.1 d_CG_propose_76 (lv_at hl 1 rfl) ?_
          refine gg_CG_176 (by omega) X hP d_CG_propose_78 ?_
          refine lv_iload_n X.1 X.2.1 d_CG_propose_81 rfl (lv_at hl 6 rfl) ?_
          refine ga_nDd (by omega) (by omega) X hP d_CG_propose_82 ?_
          rw [ev2]
          refine gs_112 (by omega) X hJ hP hS d_CG_propose_83 (fun H locs hP hS => ?_)
          refine lv_aload X.1 X.2.1 d_CG_propose_84 (lv_at hl 1 rfl) ?_
          refine gg_CG_176 (by omega) X hP d_CG_propose_86 ?_
          refine lv_iload_n X.1 X.2.1 d_CG_propose_89 rfl (lv_at hl 6 rfl) ?_
          refine ga_nDd (by omega) (by omega) X hP d_CG_propose_90 ?_
          rw [gx_w_row _ _ _ (by unfold nDd; omega), ev2]
          refine gx_iret X.1 X.2.1 hr hlk hP hS d_CG_propose_91 ?_
          rw [ab_propose_go hl3 _ rfl, if_pos h39, if_neg (fun z => z hz0), if_neg (by rw [hbt]; decide)]
          exact ⟨rfl, hxk, fun n hn => by rw [gx_w_row _ _ _ (by omega)]; exact q2 n hn⟩
        · skip
          refine lv_iconst (v := nI 3) X.1 X.2.1 d_CG_propose_66 (by decide) ?_
          refine gx_iret X.1 X.2.1 hr hlk hP hS d_CG_propose_67 ?_
          rw [ab_propose_go hl3 _ rfl, if_pos h39, if_neg (fun z => z hz0), if_pos (xb_zero.mp h63)]
          exact ⟨rfl, q1, q2⟩
      · skip
        have hz0 : (ab_log a 3 (k, u)).1 ≠ 0 := fun z => h56 (by rw [hqr, z]; rfl)
        refine lv_iload X.1 X.2.1 d_CG_propose_59 (lv_at hl 0 rfl) ?_
        refine gx_iret X.1 X.2.1 hr hlk hP hS d_CG_propose_61 ?_
        rw [ab_propose_go hl3 _ rfl, if_pos h39, if_pos hz0]
        exact ⟨hqr, q1, q2⟩
set_option maxRecDepth 100000 in
set_option maxHeartbeats 4000000 in
theorem K_CG_prepare (l : Launch) (dC : Nat → ClassId) (dI : Nat → Nat → Nat) (cx : Nat → ClassId) (ad : Nat → Nat) (hJ : gx_J gx_N ad (gx_A gx_N ad)) (σ : gx_M) (a : ab_S) (B : Nat) (tq sq : Int32) (bb : Bool) (I : ab_I B a) (hB : B + 3 < 2 ^ 30) (hx : xr σ a) : cg_Mi l dC dI cx ad y_CG_prepare w_CG_prepare 6 [.ref (ad 0), .int tq, .int sq, .int (nI (xb bb))] σ (fun r σ' => r = Int32.ofInt (ab_prepare a tq.toInt sq.toInt bb).1 ∧ xr σ' (ab_prepare a tq.toInt sq.toInt bb).2 ∧ ∀ n, 224 ≤ n → σ' n = σ n) := by
  refine gx_ofW (cc := c_CG_prepare) (maxL := 9) (ret := (Option.some Jvm.ClassFile.FieldType.int)) (by decide) rfl (Nat.le_of_ble_eq_true rfl) ?_
  intro p e s m below meth c ls S hr hlk hK hN hl hP
  have X : cg_X c_CG_prepare "CommitGroups" 9 dC dI cx p m c s _ := ⟨S.1, S.2.1, S.2.2.2.1, fun w h => S.2.2.2.2 w (List.mem_cons_of_mem _ h), hK, hN, S.2.2.1⟩
  have hS : va_S (gx_A gx_N ad) s.heap s.heap [] := va_S.rf
  have hl : lv_has ls 9 [(0, .ref (ad 0)), (1, .int tq), (2, .int sq), (3, .int (nI (xb bb)))] := hl
  have hw := ab_W_of I (by omega)
  have hn : σ 0 5 = ab_n a := hx.1
  have hn20 := hw.1
  have hxb := xb_le bb
  refine lv_aload_n X.1 X.2.1 d_CG_prepare_0 rfl (lv_at hl 0 rfl) ?_
  refine lv_iload_n X.1 X.2.1 d_CG_prepare_1 rfl (lv_at hl 1 rfl) ?_
  refine lv_iload_n X.1 X.2.1 d_CG_prepare_2 rfl (lv_at hl 2 rfl) ?_
  refine cv_CG_68 (rest := []) X hJ hP hS (by decide) (ec_CG _) (K_CG_refusalAtShard l dC dI cx ad hJ σ a tq sq hw hx) rfl rfl (by decide) hl.1 (Nat.le_of_ble_eq_true rfl) ⟨Nat.le_refl _, Nat.le_refl _⟩ d_CG_prepare_3 (fun r σ' H locs hq hP hS => ?_)
  obtain ⟨hq0, hq⟩ := hq
  rw [hq0] at hP
  rcases hq with ⟨hok, rfl⟩ | ⟨hok, hha, rfl⟩ | ⟨hok, hha, rfl⟩
  · skip
    refine lv_istore X.1 X.2.1 d_CG_prepare_6 hl (by decide) rfl (fun ls hl => ?_)
    have hl : lv_has ls 9 [(4, .int (-1)), (0, .ref (ad 0)), (1, .int tq), (2, .int sq), (3, .int (nI (xb bb)))] := hl
    refine lv_iload X.1 X.2.1 d_CG_prepare_8 (lv_at hl 0 rfl) ?_
    refine lv_if_eq X.1 X.2.1 (tgt := 16) d_CG_prepare_10 (by decide) (fun h10 => absurd h10 (by decide)) (fun h10 => ?_)
    refine lv_iload X.1 X.2.1 d_CG_prepare_13 (lv_at hl 0 rfl) ?_
    refine gx_iret X.1 X.2.1 hr hlk hP hS d_CG_prepare_15 ?_
    rw [ab_prepare_bad hok]
    exact ⟨rfl, hx, fun n _ => rfl⟩
  · skip
    refine lv_istore X.1 X.2.1 d_CG_prepare_6 hl (by decide) rfl (fun ls hl => ?_)
    have hl : lv_has ls 9 [(4, .int (-2)), (0, .ref (ad 0)), (1, .int tq), (2, .int sq), (3, .int (nI (xb bb)))] := hl
    refine lv_iload X.1 X.2.1 d_CG_prepare_8 (lv_at hl 0 rfl) ?_
    refine lv_if_eq X.1 X.2.1 (tgt := 16) d_CG_prepare_10 (by decide) (fun h10 => absurd h10 (by decide)) (fun h10 => ?_)
    refine lv_iload X.1 X.2.1 d_CG_prepare_13 (lv_at hl 0 rfl) ?_
    refine gx_iret X.1 X.2.1 hr hlk hP hS d_CG_prepare_15 ?_
    rw [ab_prepare_ha hok hha]
    exact ⟨rfl, hx, fun n _ => rfl⟩
  · skip
    refine lv_istore X.1 X.2.1 d_CG_prepare_6 hl (by decide) rfl (fun ls hl => ?_)
    have hl : lv_has ls 9 [(4, .int (nI 0)), (0, .ref (ad 0)), (1, .int tq), (2, .int sq), (3, .int (nI (xb bb)))] := hl
    refine lv_iload X.1 X.2.1 d_CG_prepare_8 (lv_at hl 0 rfl) ?_
    refine gx_if_eq X.1 X.2.1 (tgt := 16) d_CG_prepare_10 (by decide) (by omega) (fun h10 => ?_) (fun h10 => absurd h10 (by decide))
    obtain ⟨⟨o1, o2⟩, o3, o4, o5⟩ := id hok
    obtain ⟨u, rfl, u1, u2, u3⟩ := gi_of (t := tq) (n := ab_n a) (by omega) (by omega)
    obtain ⟨x, rfl, x1, x2, x3⟩ := gi_of (t := sq) (n := 2) (by omega) (by omega)
    rw [u3, x3] at o5
    have hxc := xr_close hx (t := u) (by omega)
    have Ic := ab_I_close I u
    have hwc := ab_W_of Ic (by omega)
    refine lv_aload_n X.1 X.2.1 d_CG_prepare_16 rfl (lv_at hl 1 rfl) ?_
    refine gg_CG_12 X hP d_CG_prepare_17 ?_
    refine lv_iload_n X.1 X.2.1 d_CG_prepare_20 rfl (lv_at hl 2 rfl) ?_
    refine gr_bk (by omega) X hP d_CG_prepare_21 ?_
    refine lv_astore X.1 X.2.1 d_CG_prepare_22 hl (by decide) rfl (fun ls hl => ?_)
    have hl : lv_has ls 9 [(5, .ref (ad (nTx u))), (4, .int (nI 0)), (0, .ref (ad 0)), (1, .int (nI u)), (2, .int (nI x)), (3, .int (nI (xb bb)))] := hl
    refine lv_aload X.1 X.2.1 d_CG_prepare_24 (lv_at hl 0 rfl) ?_
    refine lv_iconst (v := nI 1) X.1 X.2.1 d_CG_prepare_26 (by decide) ?_
    refine gp_CG_72 (by omega) (by omega) X hJ hP hS d_CG_prepare_27 (fun H locs hP hS => ?_)
    refine lv_aload_n X.1 X.2.1 d_CG_prepare_30 rfl (lv_at hl 2 rfl) ?_
    refine gg_CG_18 X hP d_CG_prepare_31 ?_
    refine lv_iload_n X.1 X.2.1 d_CG_prepare_34 rfl (lv_at hl 4 rfl) ?_
    refine gr_gs (by omega) X hP d_CG_prepare_35 ?_
    refine cv_CG_76 (rest := []) X hJ hP hS (nGr_lt (by omega)) (ec_nGr (by omega) _) (K_Gr_findLeader l dC dI cx ad hJ _ (ab_close a u) x (by omega) hxc hwc) rfl rfl (by decide) hl.1 (Nat.le_of_ble_eq_true rfl) ⟨Nat.le_refl _, Nat.le_refl _⟩ d_CG_prepare_36 (fun r σ' H locs hq hP hS => ?_)
    obtain ⟨hq0, hq⟩ := hq
    rw [hq0] at hP
    rcases hq with ⟨hld, rfl⟩ | ⟨hld, hlt, hup, rfl⟩
    · skip
      refine lv_istore X.1 X.2.1 d_CG_prepare_39 hl (by decide) rfl (fun ls hl => ?_)
      have hl : lv_has ls 9 [(6, .int (-1)), (5, .ref (ad (nTx u))), (4, .int (nI 0)), (0, .ref (ad 0)), (1, .int (nI u)), (2, .int (nI x)), (3, .int (nI (xb bb)))] := hl
      refine lv_iload X.1 X.2.1 d_CG_prepare_41 (lv_at hl 0 rfl) ?_
      refine lv_if_ge X.1 X.2.1 (tgt := 49) d_CG_prepare_43 (by decide) (fun h43 => absurd h43 (by decide)) (fun h43 => ?_)
      refine lv_bipush (v := -3) X.1 X.2.1 d_CG_prepare_46 (by decide) ?_
      refine gx_iret X.1 X.2.1 hr hlk hP hS d_CG_prepare_48 ?_
      rw [ab_prepare_nl hok hha (by rw [x3]; exact hld), u3]
      exact ⟨rfl, hxc, fun n hn => gx_w_row _ _ _ (by unfold nTx; omega)⟩
    · skip
      have hl3 : ab_ld a x ≠ 3 := by
        have z : ab_ld (ab_close a u) x < 3 := hld
        have z2 : ab_ld (ab_close a u) x = ab_ld a x := rfl
        omega
      have hld : ab_ld a x < 3 := hld
      obtain ⟨hs0, ppp⟩ := hxc.2.2.2.1 x (ab_ld a x) (by omega) hld
      have evo : gx_w σ (nTx u) 5 1 (nSo x (ab_ld a x)) u = (ab_ex (ab_close a u) x (ab_ld a x)).1 u := ppp.2.1 u (by omega)
      have hv2 : (ab_ex (ab_close a u) x (ab_ld a x)).1 u ≤ 2 := pu_ex_vo_le _ _ _ _
      have ed : (x * 3 + ab_ld a x) / 3 = x := by omega
      have em : (x * 3 + ab_ld a x) % 3 = ab_ld a x := by omega
      show W _ _ _ _ _ _ _ _ _ _ _ _ _ _ _ (F0 m _ _ (.int (nI (ab_ld a x)) :: _))
      refine lv_istore X.1 X.2.1 d_CG_prepare_39 hl (by decide) rfl (fun ls hl => ?_)
      have hl : lv_has ls 9 [(6, .int (nI (ab_ld a x))), (5, .ref (ad (nTx u))), (4, .int (nI 0)), (0, .ref (ad 0)), (1, .int (nI u)), (2, .int (nI x)), (3, .int (nI (xb bb)))] := hl
      refine lv_iload X.1 X.2.1 d_CG_prepare_41 (lv_at hl 0 rfl) ?_
      refine gx_if_ge X.1 X.2.1 (tgt := 49) d_CG_prepare_43 (by decide) (by omega) ?_
      refine lv_aload_n X.1 X.2.1 d_CG_prepare_49 rfl (lv_at hl 3 rfl) ?_
      refine gg_CG_24 X hP d_CG_prepare_50 ?_
      refine lv_iload_n X.1 X.2.1 d_CG_prepare_53 rfl (lv_at hl 5 rfl) ?_
      refine lv_iconst (v := nI 3) X.1 X.2.1 d_CG_prepare_54 (by decide) ?_
      refine gx_imul X.1 X.2.1 d_CG_prepare_55 ?_
      refine lv_iload X.1 X.2.1 d_CG_prepare_56 (lv_at hl 0 rfl) ?_
      refine gx_iadd X.1 X.2.1 d_CG_prepare_58 ?_
      refine gr_ss (by omega) X hP d_CG_prepare_59 ?_
      rw [ed, em]
      refine lv_astore X.1 X.2.1 d_CG_prepare_60 hl (by decide) rfl (fun ls hl => ?_)
      have hl : lv_has ls 9 [(7, .ref (ad (nSt x (ab_ld a x)))), (6, .int (nI (ab_ld a x))), (5, .ref (ad (nTx u))), (4, .int (nI 0)), (0, .ref (ad 0)), (1, .int (nI u)), (2, .int (nI x)), (3, .int (nI (xb bb)))] := hl
      refine lv_aload X.1 X.2.1 d_CG_prepare_62 (lv_at hl 0 rfl) ?_
      refine gg_CG_80 (by omega) (by omega) X hP d_CG_prepare_64 ?_
      refine lv_iload_n X.1 X.2.1 d_CG_prepare_67 rfl (lv_at hl 5 rfl) ?_
      refine ga_nSo (by omega) (by omega) (by omega) X hP d_CG_prepare_68 ?_
      rw [evo]
      refine gx_if_ne X.1 X.2.1 (tgt := 96) d_CG_prepare_69 (by decide) (by omega) (fun h69 => ?_) (fun h69 => ?_)
      · skip
        refine lv_iload_n X.1 X.2.1 d_CG_prepare_96 rfl (lv_at hl 7 rfl) ?_
        refine gx_if_ne X.1 X.2.1 (tgt := 102) d_CG_prepare_97 (by decide) (by omega) (fun h97 => ?_) (fun h97 => ?_)
        · skip
          have hbt : bb = true := xb_one.mp (by omega)
          refine lv_aload_n X.1 X.2.1 d_CG_prepare_102 rfl (lv_at hl 4 rfl) ?_
          refine gg_CG_37 X hP d_CG_prepare_103 ?_
          refine lv_iload_n X.1 X.2.1 d_CG_prepare_106 rfl (lv_at hl 5 rfl) ?_
          refine lv_aload X.1 X.2.1 d_CG_prepare_107 (lv_at hl 2 rfl) ?_
          refine lv_aload X.1 X.2.1 d_CG_prepare_109 (lv_at hl 0 rfl) ?_
          refine cv_CG_91 (rest := []) X hJ hP hS (by decide) (ec_Co _) (K_Co_learnVote l dC dI cx ad hJ _ (ab_close a u) u x (ab_ld a x) (by omega) (by omega) hld hxc hwc) rfl rfl (by decide) hl.1 (Nat.le_of_ble_eq_true rfl) ⟨Nat.le_refl _, Nat.le_refl _⟩ d_CG_prepare_111 (fun υ H locs hq hP hS => ?_)
          obtain ⟨w1, w2⟩ := hq
          refine lv_aload X.1 X.2.1 d_CG_prepare_114 (lv_at hl 0 rfl) ?_
          refine gg_CG_80 (by omega) (by omega) X hP d_CG_prepare_116 ?_
          refine lv_iload_n X.1 X.2.1 d_CG_prepare_119 rfl (lv_at hl 5 rfl) ?_
          refine ga_nSo (by omega) (by omega) (by omega) X hP d_CG_prepare_120 ?_
          rw [show υ (nSo x (ab_ld a x)) u = (ab_ex (ab_close a u) x (ab_ld a x)).1 u from (w1.2.2.2.1 x (ab_ld a x) (by omega) hld).2.2.1 u (by omega)]
          refine gx_iret X.1 X.2.1 hr hlk hP hS d_CG_prepare_121 ?_
          have hgo := ab_prepare_go (b := bb) hok hha (by rw [x3]; exact hl3) _ rfl
          rw [u3, x3] at hgo
          rw [if_neg h69] at hgo
          rw [hgo]
          dsimp only
          rw [if_neg (show ¬ ((0 : Int) ≠ 0) by decide), if_neg (by rw [hbt]; decide)]
          exact ⟨rfl, w1, fun n hn => by rw [w2 n hn, gx_w_row _ _ _ (by unfold nTx; omega)]⟩
        · skip
          refine lv_iconst (v := nI 3) X.1 X.2.1 d_CG_prepare_100 (by decide) ?_
          refine gx_iret X.1 X.2.1 hr hlk hP hS d_CG_prepare_101 ?_
          have hgo := ab_prepare_go (b := bb) hok hha (by rw [x3]; exact hl3) _ rfl
          rw [u3, x3] at hgo
          rw [if_neg h69] at hgo
          rw [hgo]
          dsimp only
          rw [if_neg (show ¬ ((0 : Int) ≠ 0) by decide), if_pos (xb_zero.mp h97)]
          exact ⟨rfl, hxc, fun n hn => gx_w_row _ _ _ (by unfold nTx; omega)⟩
      · skip
        refine lv_aload_n X.1 X.2.1 d_CG_prepare_72 rfl (lv_at hl 4 rfl) ?_
        refine gg_CG_18 X hP d_CG_prepare_73 ?_
        refine lv_iload_n X.1 X.2.1 d_CG_prepare_76 rfl (lv_at hl 6 rfl) ?_
        refine gr_gs (by omega) X hP d_CG_prepare_77 ?_
        refine lv_iconst (v := nI 0) X.1 X.2.1 d_CG_prepare_78 (by decide) ?_
        refine lv_iload_n X.1 X.2.1 d_CG_prepare_79 rfl (lv_at hl 5 rfl) ?_
        refine cv_CG_84 (rest := [.ref (ad (nGr x))]) X hJ hP hS (K_CG_entry l dC dI cx ad hJ _ 0 u) rfl rfl (by decide) hl.1 (Nat.le_of_ble_eq_true rfl) ⟨Nat.le_refl _, Nat.le_refl _⟩ d_CG_prepare_80 (fun r σ' H locs hq hP hS => ?_)
        obtain ⟨hq0, rfl⟩ := hq
        rw [hq0] at hP
        refine cv_CG_87 (rest := []) X hJ hP hS (nGr_lt (by omega)) (ec_nGr (by omega) _) (K_Gr_log l dC dI cx ad hJ _ (ab_close a u) x (0, u) (by omega) hxc hwc ⟨(show 1 ≤ u by omega), (show u ≤ 20 by omega), (show 0 ≤ 2 by decide)⟩ (fun z1 z2 => ab_log_sp Ic (by omega) (0, u) z1 z2)) rfl rfl (by decide) hl.1 (Nat.le_of_ble_eq_true rfl) ⟨Nat.le_refl _, Nat.le_refl _⟩ d_CG_prepare_83 (fun r σ' H locs hq hP hS => ?_)
        obtain ⟨hqr, q1, q2⟩ := hq
        have hI2 : ab_I B (ab_log (ab_close a u) x (0, u)).2 := ab_I_logS Ic (by omega) ⟨pu_up_self _ _ _, (show 1 ≤ u by omega), u1, Nat.zero_le 2⟩ (fun q => absurd rfl q) o5
        have hw2 := ab_W_of hI2 (by omega)
        refine lv_istore X.1 X.2.1 d_CG_prepare_86 hl (by decide) rfl (fun ls hl => ?_)
        have hl : lv_has ls 9 [(8, .int r), (7, .ref (ad (nSt x (ab_ld a x)))), (6, .int (nI (ab_ld a x))), (5, .ref (ad (nTx u))), (4, .int (nI 0)), (0, .ref (ad 0)), (1, .int (nI u)), (2, .int (nI x)), (3, .int (nI (xb bb)))] := hl
        refine lv_iload X.1 X.2.1 d_CG_prepare_88 (lv_at hl 0 rfl) ?_
        refine lv_if_eq X.1 X.2.1 (tgt := 96) d_CG_prepare_90 (by decide) (fun h90 => ?_) (fun h90 => ?_)
        · skip
          have hz0 : (ab_log (ab_close a u) x (0, u)).1 = 0 := ab_log_zero.mp (by rw [← hqr]; exact h90)
          refine lv_iload_n X.1 X.2.1 d_CG_prepare_96 rfl (lv_at hl 8 rfl) ?_
          refine gx_if_ne X.1 X.2.1 (tgt := 102) d_CG_prepare_97 (by decide) (by omega) (fun h97 => ?_) (fun h97 => ?_)
          · skip
            have hbt : bb = true := xb_one.mp (by omega)
            refine lv_aload_n X.1 X.2.1 d_CG_prepare_102 rfl (lv_at hl 5 rfl) ?_
            refine gg_CG_37 X hP d_CG_prepare_103 ?_
            refine lv_iload_n X.1 X.2.1 d_CG_prepare_106 rfl (lv_at hl 6 rfl) ?_
            refine lv_aload X.1 X.2.1 d_CG_prepare_107 (lv_at hl 3 rfl) ?_
            refine lv_aload X.1 X.2.1 d_CG_prepare_109 (lv_at hl 1 rfl) ?_
            refine cv_CG_91 (rest := []) X hJ hP hS (by decide) (ec_Co _) (K_Co_learnVote l dC dI cx ad hJ _ (ab_log (ab_close a u) x (0, u)).2 u x (ab_ld a x) (by omega) (by omega) hld q1 hw2) rfl rfl (by decide) hl.1 (Nat.le_of_ble_eq_true rfl) ⟨Nat.le_refl _, Nat.le_refl _⟩ d_CG_prepare_111 (fun υ H locs hq hP hS => ?_)
            obtain ⟨w1, w2⟩ := hq
            refine lv_aload X.1 X.2.1 d_CG_prepare_114 (lv_at hl 1 rfl) ?_
            refine gg_CG_80 (by omega) (by omega) X hP d_CG_prepare_116 ?_
            refine lv_iload_n X.1 X.2.1 d_CG_prepare_119 rfl (lv_at hl 6 rfl) ?_
            refine ga_nSo (by omega) (by omega) (by omega) X hP d_CG_prepare_120 ?_
            rw [show υ (nSo x (ab_ld a x)) u = (ab_ex (ab_log (ab_close a u) x (0, u)).2 x (ab_ld a x)).1 u from (w1.2.2.2.1 x (ab_ld a x) (by omega) hld).2.2.1 u (by omega)]
            refine gx_iret X.1 X.2.1 hr hlk hP hS d_CG_prepare_121 ?_
            have hgo := ab_prepare_go (b := bb) hok hha (by rw [x3]; exact hl3) _ rfl
            rw [u3, x3] at hgo
            rw [if_pos h69] at hgo
            rw [hgo, if_neg (fun z => z hz0), if_neg (by rw [hbt]; decide)]
            exact ⟨rfl, w1, fun n hn => by rw [w2 n hn, q2 n hn, gx_w_row _ _ _ (by unfold nTx; omega)]⟩
          · skip
            refine lv_iconst (v := nI 3) X.1 X.2.1 d_CG_prepare_100 (by decide) ?_
            refine gx_iret X.1 X.2.1 hr hlk hP hS d_CG_prepare_101 ?_
            have hgo := ab_prepare_go (b := bb) hok hha (by rw [x3]; exact hl3) _ rfl
            rw [u3, x3] at hgo
            rw [if_pos h69] at hgo
            rw [hgo, if_neg (fun z => z hz0), if_pos (xb_zero.mp h97)]
            exact ⟨rfl, q1, fun n hn => by rw [q2 n hn, gx_w_row _ _ _ (by unfold nTx; omega)]⟩
        · skip
          have hz0 : (ab_log (ab_close a u) x (0, u)).1 ≠ 0 := fun z => h90 (by rw [hqr, z]; rfl)
          refine lv_iload X.1 X.2.1 d_CG_prepare_93 (lv_at hl 0 rfl) ?_
          refine gx_iret X.1 X.2.1 hr hlk hP hS d_CG_prepare_95 ?_
          have hgo := ab_prepare_go (b := bb) hok hha (by rw [x3]; exact hl3) _ rfl
          rw [u3, x3, if_pos h69, if_pos hz0] at hgo
          rw [hgo]
          exact ⟨hqr, q1, fun n hn => by rw [q2 n hn, gx_w_row _ _ _ (by unfold nTx; omega)]⟩
set_option maxRecDepth 100000 in
set_option maxHeartbeats 4000000 in
theorem K_CG_decide (l : Launch) (dC : Nat → ClassId) (dI : Nat → Nat → Nat) (cx : Nat → ClassId) (ad : Nat → Nat) (hJ : gx_J gx_N ad (gx_A gx_N ad)) (σ : gx_M) (a : ab_S) (B : Nat) (tq : Int32) (bb : Bool) (I : ab_I B a) (hB : B + 3 < 2 ^ 30) (hx : xr σ a) : cg_Mi l dC dI cx ad y_CG_decide w_CG_decide 7 [.ref (ad 0), .int tq, .int (nI (xb bb))] σ (fun r σ' => r = Int32.ofInt (ab_decide a tq.toInt bb).1 ∧ xr σ' (ab_decide a tq.toInt bb).2 ∧ ∀ n, 224 ≤ n → σ' n = σ n) := by
  refine gx_ofW (cc := c_CG_decide) (maxL := 4) (ret := (Option.some Jvm.ClassFile.FieldType.int)) (by decide) rfl (Nat.le_of_ble_eq_true rfl) ?_
  intro p e s m below meth c ls S hr hlk hK hN hl hP
  have X : cg_X c_CG_decide "CommitGroups" 4 dC dI cx p m c s _ := ⟨S.1, S.2.1, S.2.2.2.1, fun w h => S.2.2.2.2 w (List.mem_cons_of_mem _ h), hK, hN, S.2.2.1⟩
  have hS : va_S (gx_A gx_N ad) s.heap s.heap [] := va_S.rf
  have hl : lv_has ls 4 [(0, .ref (ad 0)), (1, .int tq), (2, .int (nI (xb bb)))] := hl
  have hw := ab_W_of I (by omega)
  have hn : σ 0 5 = ab_n a := hx.1
  have hn20 := hw.1
  have hxb := xb_le bb
  refine lv_aload_n X.1 X.2.1 d_CG_decide_0 rfl (lv_at hl 0 rfl) ?_
  refine lv_iload_n X.1 X.2.1 d_CG_decide_1 rfl (lv_at hl 1 rfl) ?_
  refine cv_CG_95 (rest := []) X hJ hP hS (by decide) (ec_CG _) (K_CG_refusalOfDecision l dC dI cx ad hJ σ a tq hw hx) rfl rfl (by decide) hl.1 (Nat.le_of_ble_eq_true rfl) ⟨Nat.le_refl _, Nat.le_refl _⟩ d_CG_decide_2 (fun r σ' H locs hq hP hS => ?_)
  obtain ⟨hq0, hq⟩ := hq
  rw [hq0] at hP
  rcases hq with ⟨hok, rfl⟩ | ⟨hok, hha, rfl⟩ | ⟨hok, hha, rfl⟩
  · skip
    refine lv_istore_n X.1 X.2.1 d_CG_decide_5 rfl hl (by decide) rfl (fun ls hl => ?_)
    have hl : lv_has ls 4 [(3, .int (-1)), (0, .ref (ad 0)), (1, .int tq), (2, .int (nI (xb bb)))] := hl
    refine lv_iload_n X.1 X.2.1 d_CG_decide_6 rfl (lv_at hl 0 rfl) ?_
    refine lv_if_eq X.1 X.2.1 (tgt := 12) d_CG_decide_7 (by decide) (fun h7 => absurd h7 (by decide)) (fun h7 => ?_)
    refine lv_iload_n X.1 X.2.1 d_CG_decide_10 rfl (lv_at hl 0 rfl) ?_
    refine gx_iret X.1 X.2.1 hr hlk hP hS d_CG_decide_11 ?_
    rw [ab_decide_bad hok]
    exact ⟨rfl, hx, fun n _ => rfl⟩
  · skip
    refine lv_istore_n X.1 X.2.1 d_CG_decide_5 rfl hl (by decide) rfl (fun ls hl => ?_)
    have hl : lv_has ls 4 [(3, .int (-2)), (0, .ref (ad 0)), (1, .int tq), (2, .int (nI (xb bb)))] := hl
    refine lv_iload_n X.1 X.2.1 d_CG_decide_6 rfl (lv_at hl 0 rfl) ?_
    refine lv_if_eq X.1 X.2.1 (tgt := 12) d_CG_decide_7 (by decide) (fun h7 => absurd h7 (by decide)) (fun h7 => ?_)
    refine lv_iload_n X.1 X.2.1 d_CG_decide_10 rfl (lv_at hl 0 rfl) ?_
    refine gx_iret X.1 X.2.1 hr hlk hP hS d_CG_decide_11 ?_
    rw [ab_decide_ha hok hha]
    exact ⟨rfl, hx, fun n _ => rfl⟩
  · skip
    refine lv_istore_n X.1 X.2.1 d_CG_decide_5 rfl hl (by decide) rfl (fun ls hl => ?_)
    have hl : lv_has ls 4 [(3, .int (nI 0)), (0, .ref (ad 0)), (1, .int tq), (2, .int (nI (xb bb)))] := hl
    refine lv_iload_n X.1 X.2.1 d_CG_decide_6 rfl (lv_at hl 0 rfl) ?_
    refine gx_if_eq X.1 X.2.1 (tgt := 12) d_CG_decide_7 (by decide) (by omega) (fun h7 => ?_) (fun h7 => absurd h7 (by decide))
    obtain ⟨⟨o1, o2⟩, o3⟩ := id hok
    obtain ⟨u, rfl, u1, u2, u3⟩ := gi_of (t := tq) (n := ab_n a) (by omega) (by omega)
    rw [u3] at o3
    have hkd2 := ab_kd_le I u
    refine lv_aload_n X.1 X.2.1 d_CG_decide_12 rfl (lv_at hl 1 rfl) ?_
    refine gg_CG_37 X hP d_CG_decide_13 ?_
    refine gg_CG_98 X hP d_CG_decide_16 ?_
    refine lv_iload_n X.1 X.2.1 d_CG_decide_19 rfl (lv_at hl 2 rfl) ?_
    refine ga_112 (by omega) X hP d_CG_decide_20 ?_
    rw [hx.2.2.2.2.2.2.2.1 u (by omega)]
    refine gx_if_eq X.1 X.2.1 (tgt := 34) d_CG_decide_21 (by decide) (by omega) (fun h21 => ?_) (fun h21 => ?_)
    · skip
      refine lv_aload_n X.1 X.2.1 d_CG_decide_34 rfl (lv_at hl 1 rfl) ?_
      refine gg_CG_37 X hP d_CG_decide_35 ?_
      refine lv_iload_n X.1 X.2.1 d_CG_decide_38 rfl (lv_at hl 2 rfl) ?_
      refine cv_CG_101 (rest := []) X hJ hP hS (by decide) (ec_Co _) (K_Co_knowsNo l dC dI cx ad hJ _ a u (by omega) hx (fun s hs => ab_kv_le I hs)) rfl rfl (by decide) hl.1 (Nat.le_of_ble_eq_true rfl) ⟨Nat.le_refl _, Nat.le_refl _⟩ d_CG_decide_39 (fun r σ' H locs hq hP hS => ?_)
      obtain ⟨hq0, b39, rfl, hb39, hp39⟩ := hq
      rw [hq0] at hP
      refine gx_if_eq X.1 X.2.1 (tgt := 53) d_CG_decide_42 (by decide) (by omega) (fun h42 => ?_) (fun h42 => ?_)
      · skip
        have hno : ¬ ab_no a u := fun z => by have := hp39.mpr z; omega
        refine lv_aload_n X.1 X.2.1 d_CG_decide_53 rfl (lv_at hl 1 rfl) ?_
        refine gg_CG_37 X hP d_CG_decide_54 ?_
        refine lv_iload_n X.1 X.2.1 d_CG_decide_57 rfl (lv_at hl 2 rfl) ?_
        refine lv_aload_n X.1 X.2.1 d_CG_decide_58 rfl (lv_at hl 1 rfl) ?_
        refine gg_CG_12 X hP d_CG_decide_59 ?_
        refine lv_iload_n X.1 X.2.1 d_CG_decide_62 rfl (lv_at hl 2 rfl) ?_
        refine gr_bk (by omega) X hP d_CG_decide_63 ?_
        refine cv_CG_108 (rest := []) X hJ hP hS (by decide) (ec_Co _) (K_Co_knowsAllVotes l dC dI cx ad hJ _ a u (by omega) hx hw (fun s hs => ab_kv_le I hs)) rfl rfl (by decide) hl.1 (Nat.le_of_ble_eq_true rfl) ⟨Nat.le_refl _, Nat.le_refl _⟩ d_CG_decide_64 (fun r σ' H locs hq hP hS => ?_)
        obtain ⟨hq0, b64, rfl, hb64, hp64⟩ := hq
        rw [hq0] at hP
        refine gx_if_eq X.1 X.2.1 (tgt := 78) d_CG_decide_67 (by decide) (by omega) (fun h67 => ?_) (fun h67 => ?_)
        · skip
          refine lv_iconst (v := nI 0) X.1 X.2.1 d_CG_decide_78 (by decide) ?_
          refine gx_iret X.1 X.2.1 hr hlk hP hS d_CG_decide_79 ?_
          rw [ab_decide_0 hok hha (by rw [u3]; exact h21) (by rw [u3]; exact hno) (by rw [u3]; exact fun z => by have := hp64.mpr z; omega)]
          exact ⟨rfl, hx, fun n _ => rfl⟩
        · skip
          have hall := hp64.mp (by omega)
          have hI2 : ab_I B (ab_log a 3 (1, u)).2 := by
            have hcl : ab_cl a u = true := by
              cases hop : ab_op a u with
              | nil => rw [hop] at o3; exact absurd rfl o3
              | cons o os =>
                have hm : o.2.1 % 3 < 3 := Nat.mod_lt _ (by decide)
                refine ab_kv_cl I hm (hall _ hm ?_)
                unfold ab_tc
                rw [hop]
                simp
            refine ab_I_logD I ⟨hcl, (show 1 ≤ u by omega), u1, (show 1 ≤ 2 by decide), (show 1 ≠ 0 by decide)⟩ ?_
            intro _ s' hs' htc
            have z1 := hall s' hs' htc
            have z2 := ab_kv_le I (t := u) hs'
            have z3 : ab_kv a u s' ≠ 2 := fun q => hno ⟨s', hs', q⟩
            show ab_kv a u s' = 1
            omega
          refine lv_aload_n X.1 X.2.1 d_CG_decide_70 rfl (lv_at hl 1 rfl) ?_
          refine lv_iconst (v := nI 1) X.1 X.2.1 d_CG_decide_71 (by decide) ?_
          refine lv_iload_n X.1 X.2.1 d_CG_decide_72 rfl (lv_at hl 2 rfl) ?_
          refine lv_iload_n X.1 X.2.1 d_CG_decide_73 rfl (lv_at hl 3 rfl) ?_
          refine cv_CG_104 (rest := []) X hJ hP hS (by decide) (ec_CG _) (K_CG_propose l dC dI cx ad hJ _ a B 1 u bb I hB hx (by omega) u1 (by decide) hI2) rfl rfl (by decide) hl.1 (Nat.le_of_ble_eq_true rfl) ⟨Nat.le_refl _, Nat.le_refl _⟩ d_CG_decide_74 (fun r σ' H locs hq hP hS => ?_)
          obtain ⟨hqr, q1, q2⟩ := hq
          refine gx_iret X.1 X.2.1 hr hlk hP hS d_CG_decide_77 ?_
          rw [ab_decide_all hok hha (by rw [u3]; exact h21) (by rw [u3]; exact hno) (by rw [u3]; exact hall), u3]
          exact ⟨hqr, q1, q2⟩
      · skip
        have hno := hp39.mp (by omega)
        have hI2 : ab_I B (ab_log a 3 (2, u)).2 := by
          obtain ⟨s', hs', hv'⟩ := id hno
          exact ab_I_logD I ⟨ab_kv_cl I hs' (by rw [hv']; decide), (show 1 ≤ u by omega), u1, (show 2 ≤ 2 by decide), (show 2 ≠ 0 by decide)⟩ (fun q => absurd q (show ¬ ((2 : Nat) = 1) by decide))
        refine lv_aload_n X.1 X.2.1 d_CG_decide_45 rfl (lv_at hl 1 rfl) ?_
        refine lv_iconst (v := nI 2) X.1 X.2.1 d_CG_decide_46 (by decide) ?_
        refine lv_iload_n X.1 X.2.1 d_CG_decide_47 rfl (lv_at hl 2 rfl) ?_
        refine lv_iload_n X.1 X.2.1 d_CG_decide_48 rfl (lv_at hl 3 rfl) ?_
        refine cv_CG_104 (rest := []) X hJ hP hS (by decide) (ec_CG _) (K_CG_propose l dC dI cx ad hJ _ a B 2 u bb I hB hx (by omega) u1 (by decide) hI2) rfl rfl (by decide) hl.1 (Nat.le_of_ble_eq_true rfl) ⟨Nat.le_refl _, Nat.le_refl _⟩ d_CG_decide_49 (fun r σ' H locs hq hP hS => ?_)
        obtain ⟨hqr, q1, q2⟩ := hq
        refine gx_iret X.1 X.2.1 hr hlk hP hS d_CG_decide_52 ?_
        rw [ab_decide_no hok hha (by rw [u3]; exact h21) (by rw [u3]; exact hno), u3]
        exact ⟨hqr, q1, q2⟩
    · skip
      refine lv_aload_n X.1 X.2.1 d_CG_decide_24 rfl (lv_at hl 1 rfl) ?_
      refine gg_CG_37 X hP d_CG_decide_25 ?_
      refine gg_CG_98 X hP d_CG_decide_28 ?_
      refine lv_iload_n X.1 X.2.1 d_CG_decide_31 rfl (lv_at hl 2 rfl) ?_
      refine ga_112 (by omega) X hP d_CG_decide_32 ?_
      rw [hx.2.2.2.2.2.2.2.1 u (by omega)]
      refine gx_iret X.1 X.2.1 hr hlk hP hS d_CG_decide_33 ?_
      rw [ab_decide_kd hok hha (by rw [u3]; exact h21), u3]
      exact ⟨rfl, hx, fun n _ => rfl⟩
set_option maxRecDepth 100000 in
set_option maxHeartbeats 4000000 in
theorem K_CG_timeout (l : Launch) (dC : Nat → ClassId) (dI : Nat → Nat → Nat) (cx : Nat → ClassId) (ad : Nat → Nat) (hJ : gx_J gx_N ad (gx_A gx_N ad)) (σ : gx_M) (a : ab_S) (B : Nat) (tq : Int32) (bb : Bool) (I : ab_I B a) (hB : B + 3 < 2 ^ 30) (hx : xr σ a) : cg_Mi l dC dI cx ad y_CG_timeout w_CG_timeout 7 [.ref (ad 0), .int tq, .int (nI (xb bb))] σ (fun r σ' => r = Int32.ofInt (ab_timeout a tq.toInt bb).1 ∧ xr σ' (ab_timeout a tq.toInt bb).2 ∧ ∀ n, 224 ≤ n → σ' n = σ n) := by
  refine gx_ofW (cc := c_CG_timeout) (maxL := 4) (ret := (Option.some Jvm.ClassFile.FieldType.int)) (by decide) rfl (Nat.le_of_ble_eq_true rfl) ?_
  intro p e s m below meth c ls S hr hlk hK hN hl hP
  have X : cg_X c_CG_timeout "CommitGroups" 4 dC dI cx p m c s _ := ⟨S.1, S.2.1, S.2.2.2.1, fun w h => S.2.2.2.2 w (List.mem_cons_of_mem _ h), hK, hN, S.2.2.1⟩
  have hS : va_S (gx_A gx_N ad) s.heap s.heap [] := va_S.rf
  have hl : lv_has ls 4 [(0, .ref (ad 0)), (1, .int tq), (2, .int (nI (xb bb)))] := hl
  have hw := ab_W_of I (by omega)
  have hn : σ 0 5 = ab_n a := hx.1
  have hn20 := hw.1
  have hxb := xb_le bb
  refine lv_aload_n X.1 X.2.1 d_CG_timeout_0 rfl (lv_at hl 0 rfl) ?_
  refine lv_iload_n X.1 X.2.1 d_CG_timeout_1 rfl (lv_at hl 1 rfl) ?_
  refine cv_CG_95 (rest := []) X hJ hP hS (by decide) (ec_CG _) (K_CG_refusalOfDecision l dC dI cx ad hJ σ a tq hw hx) rfl rfl (by decide) hl.1 (Nat.le_of_ble_eq_true rfl) ⟨Nat.le_refl _, Nat.le_refl _⟩ d_CG_timeout_2 (fun r σ' H locs hq hP hS => ?_)
  obtain ⟨hq0, hq⟩ := hq
  rw [hq0] at hP
  rcases hq with ⟨hok, rfl⟩ | ⟨hok, hha, rfl⟩ | ⟨hok, hha, rfl⟩
  · skip
    refine lv_istore_n X.1 X.2.1 d_CG_timeout_5 rfl hl (by decide) rfl (fun ls hl => ?_)
    have hl : lv_has ls 4 [(3, .int (-1)), (0, .ref (ad 0)), (1, .int tq), (2, .int (nI (xb bb)))] := hl
    refine lv_iload_n X.1 X.2.1 d_CG_timeout_6 rfl (lv_at hl 0 rfl) ?_
    refine lv_if_eq X.1 X.2.1 (tgt := 12) d_CG_timeout_7 (by decide) (fun h7 => absurd h7 (by decide)) (fun h7 => ?_)
    refine lv_iload_n X.1 X.2.1 d_CG_timeout_10 rfl (lv_at hl 0 rfl) ?_
    refine gx_iret X.1 X.2.1 hr hlk hP hS d_CG_timeout_11 ?_
    rw [ab_timeout_bad hok]
    exact ⟨rfl, hx, fun n _ => rfl⟩
  · skip
    refine lv_istore_n X.1 X.2.1 d_CG_timeout_5 rfl hl (by decide) rfl (fun ls hl => ?_)
    have hl : lv_has ls 4 [(3, .int (-2)), (0, .ref (ad 0)), (1, .int tq), (2, .int (nI (xb bb)))] := hl
    refine lv_iload_n X.1 X.2.1 d_CG_timeout_6 rfl (lv_at hl 0 rfl) ?_
    refine lv_if_eq X.1 X.2.1 (tgt := 12) d_CG_timeout_7 (by decide) (fun h7 => absurd h7 (by decide)) (fun h7 => ?_)
    refine lv_iload_n X.1 X.2.1 d_CG_timeout_10 rfl (lv_at hl 0 rfl) ?_
    refine gx_iret X.1 X.2.1 hr hlk hP hS d_CG_timeout_11 ?_
    rw [ab_timeout_ha hok hha]
    exact ⟨rfl, hx, fun n _ => rfl⟩
  · skip
    refine lv_istore_n X.1 X.2.1 d_CG_timeout_5 rfl hl (by decide) rfl (fun ls hl => ?_)
    have hl : lv_has ls 4 [(3, .int (nI 0)), (0, .ref (ad 0)), (1, .int tq), (2, .int (nI (xb bb)))] := hl
    refine lv_iload_n X.1 X.2.1 d_CG_timeout_6 rfl (lv_at hl 0 rfl) ?_
    refine gx_if_eq X.1 X.2.1 (tgt := 12) d_CG_timeout_7 (by decide) (by omega) (fun h7 => ?_) (fun h7 => absurd h7 (by decide))
    obtain ⟨⟨o1, o2⟩, o3⟩ := id hok
    obtain ⟨u, rfl, u1, u2, u3⟩ := gi_of (t := tq) (n := ab_n a) (by omega) (by omega)
    rw [u3] at o3
    have hkd2 := ab_kd_le I u
    have hxc := xr_close hx (t := u) (by omega)
    have Ic := ab_I_close I u
    refine lv_aload_n X.1 X.2.1 d_CG_timeout_12 rfl (lv_at hl 1 rfl) ?_
    refine gg_CG_12 X hP d_CG_timeout_13 ?_
    refine lv_iload_n X.1 X.2.1 d_CG_timeout_16 rfl (lv_at hl 2 rfl) ?_
    refine gr_bk (by omega) X hP d_CG_timeout_17 ?_
    refine lv_iconst (v := nI 1) X.1 X.2.1 d_CG_timeout_18 (by decide) ?_
    refine gp_CG_72 (by omega) (by omega) X hJ hP hS d_CG_timeout_19 (fun H locs hP hS => ?_)
    refine lv_aload_n X.1 X.2.1 d_CG_timeout_22 rfl (lv_at hl 1 rfl) ?_
    refine gg_CG_37 X hP d_CG_timeout_23 ?_
    refine gg_CG_98 X hP d_CG_timeout_26 ?_
    refine lv_iload_n X.1 X.2.1 d_CG_timeout_29 rfl (lv_at hl 2 rfl) ?_
    refine ga_112 (by omega) X hP d_CG_timeout_30 ?_
    rw [show gx_w σ (nTx u) 5 1 112 u = ab_kd a u from hxc.2.2.2.2.2.2.2.1 u (by omega)]
    refine gx_if_eq X.1 X.2.1 (tgt := 44) d_CG_timeout_31 (by decide) (by omega) (fun h31 => ?_) (fun h31 => ?_)
    · skip
      have hI2 : ab_I B (ab_log (ab_close a u) 3 (2, u)).2 := ab_I_logD Ic ⟨pu_up_self _ _ _, (show 1 ≤ u by omega), u1, (show 2 ≤ 2 by decide), (show 2 ≠ 0 by decide)⟩ (fun q => absurd q (show ¬ ((2 : Nat) = 1) by decide))
      refine lv_aload_n X.1 X.2.1 d_CG_timeout_44 rfl (lv_at hl 1 rfl) ?_
      refine lv_iconst (v := nI 2) X.1 X.2.1 d_CG_timeout_45 (by decide) ?_
      refine lv_iload_n X.1 X.2.1 d_CG_timeout_46 rfl (lv_at hl 2 rfl) ?_
      refine lv_iload_n X.1 X.2.1 d_CG_timeout_47 rfl (lv_at hl 3 rfl) ?_
      refine cv_CG_104 (rest := []) X hJ hP hS (by decide) (ec_CG _) (K_CG_propose l dC dI cx ad hJ _ (ab_close a u) B 2 u bb Ic hB hxc (by omega) u1 (by decide) hI2) rfl rfl (by decide) hl.1 (Nat.le_of_ble_eq_true rfl) ⟨Nat.le_refl _, Nat.le_refl _⟩ d_CG_timeout_48 (fun r σ' H locs hq hP hS => ?_)
      obtain ⟨hqr, q1, q2⟩ := hq
      refine gx_iret X.1 X.2.1 hr hlk hP hS d_CG_timeout_51 ?_
      rw [ab_timeout_go hok hha (by rw [u3]; exact h31), u3]
      exact ⟨hqr, q1, fun n hn => by rw [q2 n hn, gx_w_row _ _ _ (by unfold nTx; omega)]⟩
    · skip
      refine lv_aload_n X.1 X.2.1 d_CG_timeout_34 rfl (lv_at hl 1 rfl) ?_
      refine gg_CG_37 X hP d_CG_timeout_35 ?_
      refine gg_CG_98 X hP d_CG_timeout_38 ?_
      refine lv_iload_n X.1 X.2.1 d_CG_timeout_41 rfl (lv_at hl 2 rfl) ?_
      refine ga_112 (by omega) X hP d_CG_timeout_42 ?_
      rw [show gx_w σ (nTx u) 5 1 112 u = ab_kd a u from hxc.2.2.2.2.2.2.2.1 u (by omega)]
      refine gx_iret X.1 X.2.1 hr hlk hP hS d_CG_timeout_43 ?_
      rw [ab_timeout_kd hok hha (by rw [u3]; exact h31), u3]
      exact ⟨rfl, hxc, fun n hn => gx_w_row _ _ _ (by unfold nTx; omega)⟩
set_option maxRecDepth 100000 in
set_option maxHeartbeats 4000000 in
theorem K_CG_finish (l : Launch) (dC : Nat → ClassId) (dI : Nat → Nat → Nat) (cx : Nat → ClassId) (ad : Nat → Nat) (hJ : gx_J gx_N ad (gx_A gx_N ad)) (σ : gx_M) (a : ab_S) (B : Nat) (tq sq : Int32) (I : ab_I B a) (hB : B + 3 < 2 ^ 30) (hx : xr σ a) : cg_Mi l dC dI cx ad y_CG_finish w_CG_finish 6 [.ref (ad 0), .int tq, .int sq] σ (fun r σ' => r = Int32.ofInt (ab_finish a tq.toInt sq.toInt).1 ∧ xr σ' (ab_finish a tq.toInt sq.toInt).2 ∧ ∀ n, 224 ≤ n → σ' n = σ n) := by
  refine gx_ofW (cc := c_CG_finish) (maxL := 7) (ret := (Option.some Jvm.ClassFile.FieldType.int)) (by decide) rfl (Nat.le_of_ble_eq_true rfl) ?_
  intro p e s m below meth c ls S hr hlk hK hN hl hP
  have X : cg_X c_CG_finish "CommitGroups" 7 dC dI cx p m c s _ := ⟨S.1, S.2.1, S.2.2.2.1, fun w h => S.2.2.2.2 w (List.mem_cons_of_mem _ h), hK, hN, S.2.2.1⟩
  have hS : va_S (gx_A gx_N ad) s.heap s.heap [] := va_S.rf
  have hl : lv_has ls 7 [(0, .ref (ad 0)), (1, .int tq), (2, .int sq)] := hl
  have hw := ab_W_of I (by omega)
  have hn : σ 0 5 = ab_n a := hx.1
  have hn20 := hw.1
  refine lv_aload_n X.1 X.2.1 d_CG_finish_0 rfl (lv_at hl 0 rfl) ?_
  refine lv_iload_n X.1 X.2.1 d_CG_finish_1 rfl (lv_at hl 1 rfl) ?_
  refine lv_iload_n X.1 X.2.1 d_CG_finish_2 rfl (lv_at hl 2 rfl) ?_
  refine cv_CG_68 (rest := []) X hJ hP hS (by decide) (ec_CG _) (K_CG_refusalAtShard l dC dI cx ad hJ σ a tq sq hw hx) rfl rfl (by decide) hl.1 (Nat.le_of_ble_eq_true rfl) ⟨Nat.le_refl _, Nat.le_refl _⟩ d_CG_finish_3 (fun r σ' H locs hq hP hS => ?_)
  obtain ⟨hq0, hq⟩ := hq
  rw [hq0] at hP
  rcases hq with ⟨hok, rfl⟩ | ⟨hok, hha, rfl⟩ | ⟨hok, hha, rfl⟩
  · skip
    refine lv_istore_n X.1 X.2.1 d_CG_finish_6 rfl hl (by decide) rfl (fun ls hl => ?_)
    have hl : lv_has ls 7 [(3, .int (-1)), (0, .ref (ad 0)), (1, .int tq), (2, .int sq)] := hl
    refine lv_iload_n X.1 X.2.1 d_CG_finish_7 rfl (lv_at hl 0 rfl) ?_
    refine lv_if_eq X.1 X.2.1 (tgt := 13) d_CG_finish_8 (by decide) (fun h8 => absurd h8 (by decide)) (fun h8 => ?_)
    refine lv_iload_n X.1 X.2.1 d_CG_finish_11 rfl (lv_at hl 0 rfl) ?_
    refine gx_iret X.1 X.2.1 hr hlk hP hS d_CG_finish_12 ?_
    rw [ab_finish_bad hok]
    exact ⟨rfl, hx, fun n _ => rfl⟩
  · skip
    refine lv_istore_n X.1 X.2.1 d_CG_finish_6 rfl hl (by decide) rfl (fun ls hl => ?_)
    have hl : lv_has ls 7 [(3, .int (-2)), (0, .ref (ad 0)), (1, .int tq), (2, .int sq)] := hl
    refine lv_iload_n X.1 X.2.1 d_CG_finish_7 rfl (lv_at hl 0 rfl) ?_
    refine lv_if_eq X.1 X.2.1 (tgt := 13) d_CG_finish_8 (by decide) (fun h8 => absurd h8 (by decide)) (fun h8 => ?_)
    refine lv_iload_n X.1 X.2.1 d_CG_finish_11 rfl (lv_at hl 0 rfl) ?_
    refine gx_iret X.1 X.2.1 hr hlk hP hS d_CG_finish_12 ?_
    rw [ab_finish_ha hok hha]
    exact ⟨rfl, hx, fun n _ => rfl⟩
  · skip
    refine lv_istore_n X.1 X.2.1 d_CG_finish_6 rfl hl (by decide) rfl (fun ls hl => ?_)
    have hl : lv_has ls 7 [(3, .int (nI 0)), (0, .ref (ad 0)), (1, .int tq), (2, .int sq)] := hl
    refine lv_iload_n X.1 X.2.1 d_CG_finish_7 rfl (lv_at hl 0 rfl) ?_
    refine gx_if_eq X.1 X.2.1 (tgt := 13) d_CG_finish_8 (by decide) (by omega) (fun h8 => ?_) (fun h8 => absurd h8 (by decide))
    obtain ⟨⟨o1, o2⟩, o3, o4, o5⟩ := id hok
    obtain ⟨u, rfl, u1, u2, u3⟩ := gi_of (t := tq) (n := ab_n a) (by omega) (by omega)
    obtain ⟨x, rfl, x1, x2, x3⟩ := gi_of (t := sq) (n := 2) (by omega) (by omega)
    rw [u3, x3] at o5
    have hkd2 := ab_kd_le I u
    refine lv_aload_n X.1 X.2.1 d_CG_finish_13 rfl (lv_at hl 1 rfl) ?_
    refine gg_CG_37 X hP d_CG_finish_14 ?_
    refine gg_CG_98 X hP d_CG_finish_17 ?_
    refine lv_iload_n X.1 X.2.1 d_CG_finish_20 rfl (lv_at hl 2 rfl) ?_
    refine ga_112 (by omega) X hP d_CG_finish_21 ?_
    rw [hx.2.2.2.2.2.2.2.1 u (by omega)]
    refine lv_istore X.1 X.2.1 d_CG_finish_22 hl (by decide) rfl (fun ls hl => ?_)
    have hl : lv_has ls 7 [(4, .int (nI (ab_kd a u))), (3, .int (nI 0)), (0, .ref (ad 0)), (1, .int (nI u)), (2, .int (nI x))] := hl
    refine lv_iload X.1 X.2.1 d_CG_finish_24 (lv_at hl 0 rfl) ?_
    refine gx_if_ne X.1 X.2.1 (tgt := 31) d_CG_finish_26 (by decide) (by omega) (fun h26 => ?_) (fun h26 => ?_)
    · skip
      refine lv_aload_n X.1 X.2.1 d_CG_finish_31 rfl (lv_at hl 2 rfl) ?_
      refine gg_CG_18 X hP d_CG_finish_32 ?_
      refine lv_iload_n X.1 X.2.1 d_CG_finish_35 rfl (lv_at hl 4 rfl) ?_
      refine gr_gs (by omega) X hP d_CG_finish_36 ?_
      refine cv_CG_76 (rest := []) X hJ hP hS (nGr_lt (by omega)) (ec_nGr (by omega) _) (K_Gr_findLeader l dC dI cx ad hJ _ a x (by omega) hx hw) rfl rfl (by decide) hl.1 (Nat.le_of_ble_eq_true rfl) ⟨Nat.le_refl _, Nat.le_refl _⟩ d_CG_finish_37 (fun r σ' H locs hq hP hS => ?_)
      obtain ⟨hq0, hq⟩ := hq
      rw [hq0] at hP
      rcases hq with ⟨hld, rfl⟩ | ⟨hld, hlt, hup, rfl⟩
      · skip
        refine lv_istore X.1 X.2.1 d_CG_finish_40 hl (by decide) rfl (fun ls hl => ?_)
        have hl : lv_has ls 7 [(5, .int (-1)), (4, .int (nI (ab_kd a u))), (3, .int (nI 0)), (0, .ref (ad 0)), (1, .int (nI u)), (2, .int (nI x))] := hl
        refine lv_iload X.1 X.2.1 d_CG_finish_42 (lv_at hl 0 rfl) ?_
        refine lv_if_ge X.1 X.2.1 (tgt := 50) d_CG_finish_44 (by decide) (fun h44 => absurd h44 (by decide)) (fun h44 => ?_)
        refine lv_bipush (v := -3) X.1 X.2.1 d_CG_finish_47 (by decide) ?_
        refine gx_iret X.1 X.2.1 hr hlk hP hS d_CG_finish_49 ?_
        rw [ab_finish_nl hok hha (by rw [u3]; exact h26) (by rw [x3]; exact hld)]
        exact ⟨rfl, hx, fun n _ => rfl⟩
      · skip
        have hl3 : ab_ld a x ≠ 3 := by omega
        obtain ⟨hs0, ppp⟩ := hx.2.2.2.1 x (ab_ld a x) (by omega) hld
        have efi : σ (nSf x (ab_ld a x)) u = xb ((ab_ex a x (ab_ld a x)).2.1 u) := ppp.2.2.1 u (by omega)
        have hxb := xb_le ((ab_ex a x (ab_ld a x)).2.1 u)
        have ed : (x * 3 + ab_ld a x) / 3 = x := by omega
        have em : (x * 3 + ab_ld a x) % 3 = ab_ld a x := by omega
        refine lv_istore X.1 X.2.1 d_CG_finish_40 hl (by decide) rfl (fun ls hl => ?_)
        have hl : lv_has ls 7 [(5, .int (nI (ab_ld a x))), (4, .int (nI (ab_kd a u))), (3, .int (nI 0)), (0, .ref (ad 0)), (1, .int (nI u)), (2, .int (nI x))] := hl
        refine lv_iload X.1 X.2.1 d_CG_finish_42 (lv_at hl 0 rfl) ?_
        refine gx_if_ge X.1 X.2.1 (tgt := 50) d_CG_finish_44 (by decide) (by omega) ?_
        refine lv_aload_n X.1 X.2.1 d_CG_finish_50 rfl (lv_at hl 3 rfl) ?_
        refine gg_CG_24 X hP d_CG_finish_51 ?_
        refine lv_iload_n X.1 X.2.1 d_CG_finish_54 rfl (lv_at hl 5 rfl) ?_
        refine lv_iconst (v := nI 3) X.1 X.2.1 d_CG_finish_55 (by decide) ?_
        refine gx_imul X.1 X.2.1 d_CG_finish_56 ?_
        refine lv_iload X.1 X.2.1 d_CG_finish_57 (lv_at hl 0 rfl) ?_
        refine gx_iadd X.1 X.2.1 d_CG_finish_59 ?_
        refine gr_ss (by omega) X hP d_CG_finish_60 ?_
        rw [ed, em]
        refine gg_CG_112 (by omega) (by omega) X hP d_CG_finish_61 ?_
        refine lv_iload_n X.1 X.2.1 d_CG_finish_64 rfl (lv_at hl 4 rfl) ?_
        refine ga_nSf (by omega) (by omega) (by omega) X hP d_CG_finish_65 ?_
        rw [efi]
        refine gx_if_eq X.1 X.2.1 (tgt := 71) d_CG_finish_66 (by decide) (by omega) (fun h66 => ?_) (fun h66 => ?_)
        · skip
          refine lv_aload_n X.1 X.2.1 d_CG_finish_71 rfl (lv_at hl 3 rfl) ?_
          refine gg_CG_18 X hP d_CG_finish_72 ?_
          refine lv_iload_n X.1 X.2.1 d_CG_finish_75 rfl (lv_at hl 5 rfl) ?_
          refine gr_gs (by omega) X hP d_CG_finish_76 ?_
          refine lv_iload X.1 X.2.1 d_CG_finish_77 (lv_at hl 1 rfl) ?_
          refine lv_iload_n X.1 X.2.1 d_CG_finish_79 rfl (lv_at hl 4 rfl) ?_
          refine cv_CG_84 (rest := [.ref (ad (nGr x))]) X hJ hP hS (K_CG_entry l dC dI cx ad hJ _ (ab_kd a u) u) rfl rfl (by decide) hl.1 (Nat.le_of_ble_eq_true rfl) ⟨Nat.le_refl _, Nat.le_refl _⟩ d_CG_finish_80 (fun r σ' H locs hq hP hS => ?_)
          obtain ⟨hq0, rfl⟩ := hq
          rw [hq0] at hP
          refine cv_CG_87 (rest := []) X hJ hP hS (nGr_lt (by omega)) (ec_nGr (by omega) _) (K_Gr_log l dC dI cx ad hJ _ a x (ab_kd a u, u) (by omega) hx hw ⟨(show 1 ≤ u by omega), (show u ≤ 20 by omega), hkd2⟩ (fun z1 z2 => ab_log_sp I (by omega) (ab_kd a u, u) z1 z2)) rfl rfl (by decide) hl.1 (Nat.le_of_ble_eq_true rfl) ⟨Nat.le_refl _, Nat.le_refl _⟩ d_CG_finish_83 (fun r σ' H locs hq hP hS => ?_)
          obtain ⟨hqr, q1, q2⟩ := hq
          refine lv_istore X.1 X.2.1 d_CG_finish_86 hl (by decide) rfl (fun ls hl => ?_)
          have hl : lv_has ls 7 [(6, .int r), (5, .int (nI (ab_ld a x))), (4, .int (nI (ab_kd a u))), (3, .int (nI 0)), (0, .ref (ad 0)), (1, .int (nI u)), (2, .int (nI x))] := hl
          refine lv_iload X.1 X.2.1 d_CG_finish_88 (lv_at hl 0 rfl) ?_
          refine lv_if_ne X.1 X.2.1 (tgt := 97) d_CG_finish_90 (by decide) (fun h90 => ?_) (fun h90 => ?_)
          · skip
            have hz0 : (ab_log a x (ab_kd a u, u)).1 ≠ 0 := fun z => h90 (by rw [hqr, z]; rfl)
            refine lv_iload X.1 X.2.1 d_CG_finish_97 (lv_at hl 0 rfl) ?_
            refine gx_iret X.1 X.2.1 hr hlk hP hS d_CG_finish_99 ?_
            have hgo := ab_finish_go hok hha (by rw [u3]; exact h26) (by rw [x3]; exact hl3) (by rw [u3, x3]; exact xb_zero.mp h66)
            rw [u3, x3] at hgo
            rw [hgo, if_pos hz0]
            exact ⟨hqr, q1, q2⟩
          · skip
            have hz0 : (ab_log a x (ab_kd a u, u)).1 = 0 := ab_log_zero.mp (by rw [← hqr]; exact h90)
            refine lv_iconst (v := nI 1) X.1 X.2.1 d_CG_finish_93 (by decide) ?_
            refine lv_goto (tgt := 99) X.1 X.2.1 d_CG_finish_94 (by decide) ?_
            refine gx_iret X.1 X.2.1 hr hlk hP hS d_CG_finish_99 ?_
            have hgo := ab_finish_go hok hha (by rw [u3]; exact h26) (by rw [x3]; exact hl3) (by rw [u3, x3]; exact xb_zero.mp h66)
            rw [u3, x3] at hgo
            rw [hgo, if_neg (fun z => z hz0)]
            exact ⟨rfl, q1, q2⟩
        · skip
          refine lv_iconst (v := nI 1) X.1 X.2.1 d_CG_finish_69 (by decide) ?_
          refine gx_iret X.1 X.2.1 hr hlk hP hS d_CG_finish_70 ?_
          rw [ab_finish_done hok hha (by rw [u3]; exact h26) (by rw [x3]; exact hl3) (by rw [u3, x3]; exact xb_one.mp (by omega))]
          exact ⟨rfl, hx, fun n _ => rfl⟩
    · skip
      refine lv_iconst (v := nI 0) X.1 X.2.1 d_CG_finish_29 (by decide) ?_
      refine gx_iret X.1 X.2.1 hr hlk hP hS d_CG_finish_30 ?_
      rw [ab_finish_0 hok hha (by rw [u3]; exact h26)]
      exact ⟨rfl, hx, fun n _ => rfl⟩
