/-! contracts: the reference: holds, serial, result -/
set_option maxRecDepth 100000 in
set_option maxHeartbeats 4000000 in
theorem K_Mo_holds (l : Launch) (dC : Nat → ClassId) (dI : Nat → Nat → Nat) (cx : Nat → ClassId) (ad : Nat → Nat) (hJ : gx_J gx_N ad (gx_A gx_N ad)) (σ : gx_M) (a : ab_S) (yq rq : Int32) (hx : mr σ a) (hw : ab_W a) (hv : ab_V a) : cg_Mi l dC dI cx ad y_Mo_holds w_Mo_holds 5 [.ref (ad 224), .int yq, .int rq] σ (fun r σ' => mC σ σ' ∧ ((¬ ((0 ≤ yq.toInt ∧ yq.toInt ≤ 11) ∧ 0 ≤ rq.toInt ∧ rq.toInt ≤ 2) ∧ r = nI 0) ∨ ∃ y r' : Nat, yq = nI y ∧ rq = nI r' ∧ y ≤ 11 ∧ r' ≤ 2 ∧ hcQ (ab_op a) (ab_ex a (y % 3) r') y r)) := by
  refine gx_ofW (cc := c_Mo_holds) (maxL := 6) (ret := (Option.some Jvm.ClassFile.FieldType.int)) (by decide) rfl (Nat.le_of_ble_eq_true rfl) ?_
  intro p e s m below meth c ls S hr hlk hK hN hl hP
  have X : cg_X c_Mo_holds "CommitGroupsModel" 6 dC dI cx p m c s _ := ⟨S.1, S.2.1, S.2.2.2.1, fun w h => S.2.2.2.2 w (List.mem_cons_of_mem _ h), hK, hN, S.2.2.1⟩
  have hS : va_S (gx_A gx_N ad) s.heap s.heap [] := va_S.rf
  have hl : lv_has ls 6 [(0, .ref (ad 224)), (1, .int yq), (2, .int rq)] := hl
  have hn : σ 224 0 = ab_n a := hx.1
  have hn20 := hw.1
  refine lv_iload_n X.1 X.2.1 d_Mo_holds_0 rfl (lv_at hl 1 rfl) ?_
  refine lv_iconst (v := nI 0) X.1 X.2.1 d_Mo_holds_1 (by decide) ?_
  refine lv_bipush (v := nI 11) X.1 X.2.1 d_Mo_holds_2 (by decide) ?_
  refine cv_Mo_63 (rest := []) X hJ hP hS (K_Mo_in l dC dI cx ad hJ _ yq 0 11 (by omega) (by omega)) rfl rfl (by decide) hl.1 (Nat.le_of_ble_eq_true rfl) ⟨Nat.le_refl _, Nat.le_refl _⟩ d_Mo_holds_4 (fun r σ' H locs hq hP hS => ?_)
  obtain ⟨hq0, b4, rfl, hb4, hp4⟩ := hq
  rw [hq0] at hP
  refine gx_if_eq X.1 X.2.1 (tgt := 19) d_Mo_holds_7 (by decide) (by omega) (fun h7 => ?_) (fun h7 => ?_)
  · skip
    refine lv_iconst (v := nI 0) X.1 X.2.1 d_Mo_holds_19 (by decide) ?_
    refine gx_iret X.1 X.2.1 hr hlk hP hS d_Mo_holds_20 ?_
    refine ⟨mC_rfl _, Or.inl ⟨fun hh => ?_, rfl⟩⟩
    have := hp4.mpr ⟨hh.1.1, hh.1.2⟩; omega
  · skip
    refine lv_iload_n X.1 X.2.1 d_Mo_holds_10 rfl (lv_at hl 2 rfl) ?_
    refine lv_iconst (v := nI 0) X.1 X.2.1 d_Mo_holds_11 (by decide) ?_
    refine lv_iconst (v := nI 2) X.1 X.2.1 d_Mo_holds_12 (by decide) ?_
    refine cv_Mo_63 (rest := []) X hJ hP hS (K_Mo_in l dC dI cx ad hJ _ rq 0 2 (by omega) (by omega)) rfl rfl (by decide) hl.1 (Nat.le_of_ble_eq_true rfl) ⟨Nat.le_refl _, Nat.le_refl _⟩ d_Mo_holds_13 (fun r σ' H locs hq hP hS => ?_)
    obtain ⟨hq0, b13, rfl, hb13, hp13⟩ := hq
    rw [hq0] at hP
    refine gx_if_ne X.1 X.2.1 (tgt := 21) d_Mo_holds_16 (by decide) (by omega) (fun h16 => ?_) (fun h16 => ?_)
    · skip
      have hh4 := hp4.mp (by omega)
      have hh13 := hp13.mp (by omega)
      obtain ⟨y, rfl, y1, y2, y3⟩ := gi_of (t := yq) (n := 11) (by omega) (by omega)
      obtain ⟨r', rfl, r1, r2, r3⟩ := gi_of (t := rq) (n := 2) (by omega) (by omega)
      have hVV : ∀ v, (ab_ex a (y % 3) r').1 v = 1 → 1 ≤ v ∧ v ≤ ab_n a := by
        intro v hv1
        obtain ⟨k2, hk2⟩ := pu_ex_vo_in (ab_op a) (y % 3) v _ (by unfold ab_ex at hv1; rw [hv1]; decide)
        have z := hv (y % 3) r' (by omega) (by omega) (k2, v) (List.mem_of_mem_take hk2)
        exact ⟨z.1, z.2.1⟩
      have hV0 : hcP (ab_op a) (ab_ex a (y % 3) r') y 0 = false := by
        cases q : hcP (ab_op a) (ab_ex a (y % 3) r') y 0 with
        | false => rfl
        | true =>
          have := hVV 0 (hcP_iff.mp q).1
          omega
      refine lv_aload_n X.1 X.2.1 d_Mo_holds_21 rfl (lv_at hl 0 rfl) ?_
      refine lv_iload_n X.1 X.2.1 d_Mo_holds_22 rfl (lv_at hl 1 rfl) ?_
      refine lv_iconst (v := nI 3) X.1 X.2.1 d_Mo_holds_23 (by decide) ?_
      refine gx_irem X.1 X.2.1 d_Mo_holds_24 (by omega) (by decide) (by decide) ?_
      refine lv_iload_n X.1 X.2.1 d_Mo_holds_25 rfl (lv_at hl 2 rfl) ?_
      refine cv_Mo_113 (rest := []) X hJ hP hS (by decide) (ec_Mo_0 _) (K_Mo_work_s l dC dI cx ad hJ _ a (y % 3) r' hx hw hv (by omega) (by omega)) rfl rfl (by decide) hl.1 (Nat.le_of_ble_eq_true rfl) ⟨Nat.le_refl _, Nat.le_refl _⟩ d_Mo_holds_26 (fun σ' H locs hq hP hS => ?_)
      obtain ⟨w1, w2⟩ := hq
      have lp : ∀ (k : Nat) (v c3 : Nat), v + k = ab_n a + 1 → 1 ≤ v → c3 = hcn (hcP (ab_op a) (ab_ex a (y % 3) r') y) v → (∀ t, 1 ≤ t → t < v → (ab_ex a (y % 3) r').1 t = 1 → (ab_ex a (y % 3) r').2.1 t = false → pu_need (ab_op a t) y ≠ 2) → ∀ (H : Heap) (locs : List Loc) (ls : Array Slot), cg_P dC dI cx ad σ' H → va_S (gx_A gx_N ad) s.heap H locs → lv_has ls 6 [(4, .int (nI v)), (3, .int (nI c3)), (0, .ref (ad 224)), (1, .int (nI y)), (2, .int (nI r'))] → W p l e (rmL 5) s m ([.ref (ad 224), .int (nI y), .int (nI r')] : List Value).toArray below meth c H locs 0 0 (cg_Qi dC dI cx ad (fun r σ' => mC σ σ' ∧ ((¬ ((0 ≤ (nI y).toInt ∧ (nI y).toInt ≤ 11) ∧ 0 ≤ (nI r').toInt ∧ (nI r').toInt ≤ 2) ∧ r = nI 0) ∨ ∃ y' r'' : Nat, nI y = nI y' ∧ nI r' = nI r'' ∧ y' ≤ 11 ∧ r'' ≤ 2 ∧ hcQ (ab_op a) (ab_ex a (y' % 3) r'') y' r)) below [.ref (ad 224), .int (nI y), .int (nI r')] s) (F0 m 34 ls []) := by
        intro k
        induction k with
        | zero =>
          intro v c3 hik hv1 hc3 hno H locs ls hP hS hl
          refine lv_iload X.1 X.2.1 d_Mo_holds_34 (lv_at hl 0 rfl) ?_
          refine lv_aload_n X.1 X.2.1 d_Mo_holds_36 rfl (lv_at hl 2 rfl) ?_
          refine gg_Mo_59 X hP d_Mo_holds_37 ?_
          rw [w2.2 0 (by decide), hn]
          refine gx_icmp_gt X.1 X.2.1 (tgt := 93) d_Mo_holds_40 (by decide) (by omega) (by omega) (fun h40 => ?_) (fun h40 => absurd h40 (by omega))
          refine lv_iload_n X.1 X.2.1 d_Mo_holds_93 rfl (lv_at hl 1 rfl) ?_
          refine lv_ineg X.1 X.2.1 d_Mo_holds_94 ?_
          refine gx_iret X.1 X.2.1 hr hlk hP hS d_Mo_holds_95 ?_
          refine ⟨w2, Or.inr ⟨y, r', rfl, rfl, y1, r1, Or.inr ⟨fun t z1 z2 => ?_, ?_⟩⟩⟩
          · obtain ⟨z3, z4⟩ := hVV t z1
            exact hno t z3 (by omega) z1 z2
          · have e : hcn (hcP (ab_op a) (ab_ex a (y % 3) r') y) 24 = hcn (hcP (ab_op a) (ab_ex a (y % 3) r') y) v := by
              have := hcn_ext (hcP (ab_op a) (ab_ex a (y % 3) r') y) (m := v) (fun t ht => by
                cases q : (hcP (ab_op a) (ab_ex a (y % 3) r') y) t with
                | false => rfl
                | true =>
                  obtain ⟨z3, z4⟩ := hVV t (hcP_iff.mp q).1
                  omega) (24 - v)
              rw [show v + (24 - v) = 24 by omega] at this
              exact this
            rw [e, ← hc3]
        | succ k ih =>
          intro v c3 hik hv1 hc3 hno H locs ls hP hS hl
          refine lv_iload X.1 X.2.1 d_Mo_holds_34 (lv_at hl 0 rfl) ?_
          refine lv_aload_n X.1 X.2.1 d_Mo_holds_36 rfl (lv_at hl 2 rfl) ?_
          refine gg_Mo_59 X hP d_Mo_holds_37 ?_
          rw [w2.2 0 (by decide), hn]
          refine gx_icmp_gt X.1 X.2.1 (tgt := 93) d_Mo_holds_40 (by decide) (by omega) (by omega) (fun h40 => absurd h40 (by omega)) (fun h40 => ?_)
          obtain ⟨e1, e2⟩ := w1.1 v (by omega)
          have b1 : (ab_ex a (y % 3) r').1 v ≤ 2 := pu_ex_vo_le _ _ _ _
          have b2 := xb_le ((ab_ex a (y % 3) r').2.1 v)
          refine lv_aload_n X.1 X.2.1 d_Mo_holds_43 rfl (lv_at hl 2 rfl) ?_
          refine gg_Mo_47 X hP d_Mo_holds_44 ?_
          refine lv_iload X.1 X.2.1 d_Mo_holds_47 (lv_at hl 0 rfl) ?_
          refine ga_237 (by omega) X hP d_Mo_holds_49 ?_
          rw [e1]
          refine lv_iconst (v := nI 1) X.1 X.2.1 d_Mo_holds_50 (by decide) ?_
          refine gx_icmp_ne X.1 X.2.1 (tgt := 87) d_Mo_holds_51 (by decide) (by omega) (by omega) (fun h51 => ?_) (fun h51 => ?_)
          · skip
            refine lv_iinc (k := 0) (v := nI (v + 1)) X.1 X.2.1 d_Mo_holds_87 hl rfl (nI_add _ _) (by decide) rfl (fun ls hl => ?_)
            have hl : lv_has ls 6 [(4, .int (nI (v + 1))), (3, .int (nI c3)), (0, .ref (ad 224)), (1, .int (nI y)), (2, .int (nI r'))] := hl
            refine lv_goto (tgt := 34) X.1 X.2.1 d_Mo_holds_90 (by decide) ?_
            refine ih (v + 1) _ (by omega) (by omega) ?_ ?_ H locs ls hP hS (lv_sub hl [0, 1, 2, 3, 4] rfl)
            · show c3 = hcn (hcP (ab_op a) (ab_ex a (y % 3) r') y) v + (if (hcP (ab_op a) (ab_ex a (y % 3) r') y) v = true then 1 else 0)
              rw [if_neg (by intro q; have := hcP_iff.mp q; exact absurd this.1 h51)]
              exact hc3
            · intro t t1 t2 t3 t4
              rcases (show t = v ∨ t < v by omega) with q | q
              · rw [q] at t3 t4
                exact absurd t3 h51
              · exact hno t t1 q t3 t4
          · skip
            refine lv_aload_n X.1 X.2.1 d_Mo_holds_54 rfl (lv_at hl 2 rfl) ?_
            refine gg_Mo_50 X hP d_Mo_holds_55 ?_
            refine lv_iload X.1 X.2.1 d_Mo_holds_58 (lv_at hl 0 rfl) ?_
            refine ga_238 (by omega) X hP d_Mo_holds_60 ?_
            rw [e2]
            refine gx_if_ne X.1 X.2.1 (tgt := 87) d_Mo_holds_61 (by decide) (by omega) (fun h61 => ?_) (fun h61 => ?_)
            · skip
              refine lv_iinc (k := 0) (v := nI (v + 1)) X.1 X.2.1 d_Mo_holds_87 hl rfl (nI_add _ _) (by decide) rfl (fun ls hl => ?_)
              have hl : lv_has ls 6 [(4, .int (nI (v + 1))), (3, .int (nI c3)), (0, .ref (ad 224)), (1, .int (nI y)), (2, .int (nI r'))] := hl
              refine lv_goto (tgt := 34) X.1 X.2.1 d_Mo_holds_90 (by decide) ?_
              refine ih (v + 1) _ (by omega) (by omega) ?_ ?_ H locs ls hP hS (lv_sub hl [0, 1, 2, 3, 4] rfl)
              · show c3 = hcn (hcP (ab_op a) (ab_ex a (y % 3) r') y) v + (if (hcP (ab_op a) (ab_ex a (y % 3) r') y) v = true then 1 else 0)
                rw [if_neg (by intro q; have := (hcP_iff.mp q).2.1; rw [this] at h61; exact absurd h61 (by decide))]
                exact hc3
              · intro t t1 t2 t3 t4
                rcases (show t = v ∨ t < v by omega) with q | q
                · rw [q] at t3 t4
                  rw [t4] at h61; exact absurd h61 (by decide)
                · exact hno t t1 q t3 t4
            · skip
              refine lv_aload_n X.1 X.2.1 d_Mo_holds_64 rfl (lv_at hl 2 rfl) ?_
              refine lv_iload X.1 X.2.1 d_Mo_holds_65 (lv_at hl 0 rfl) ?_
              refine lv_iload_n X.1 X.2.1 d_Mo_holds_67 rfl (lv_at hl 3 rfl) ?_
              refine cv_Mo_71 (rest := []) X hJ hP hS (by decide) (ec_Mo_0 _) (K_Mo_needs l dC dI cx ad hJ _ a v y (mr_mC hx w2) hw (by omega) (by omega)) rfl rfl (by decide) hl.1 (Nat.le_of_ble_eq_true rfl) ⟨Nat.le_refl _, Nat.le_refl _⟩ d_Mo_holds_68 (fun r υ H locs hq hP hS => ?_)
              obtain ⟨hq0, rfl⟩ := hq
              rw [hq0] at hP
              have hnl := pu_need_le (ab_op a v) y
              refine lv_istore X.1 X.2.1 d_Mo_holds_71 hl (by decide) rfl (fun ls hl => ?_)
              have hl : lv_has ls 6 [(5, .int (nI (pu_need (ab_op a v) y))), (4, .int (nI v)), (3, .int (nI c3)), (0, .ref (ad 224)), (1, .int (nI y)), (2, .int (nI r'))] := hl
              refine lv_iload X.1 X.2.1 d_Mo_holds_73 (lv_at hl 0 rfl) ?_
              refine lv_iconst (v := nI 2) X.1 X.2.1 d_Mo_holds_75 (by decide) ?_
              refine gx_icmp_ne X.1 X.2.1 (tgt := 82) d_Mo_holds_76 (by decide) (by omega) (by omega) (fun h76 => ?_) (fun h76 => ?_)
              · skip
                refine lv_iload_n X.1 X.2.1 d_Mo_holds_82 rfl (lv_at hl 2 rfl) ?_
                refine lv_iload X.1 X.2.1 d_Mo_holds_83 (lv_at hl 0 rfl) ?_
                refine gx_iadd X.1 X.2.1 d_Mo_holds_85 ?_
                refine lv_istore_n X.1 X.2.1 d_Mo_holds_86 rfl hl (by decide) rfl (fun ls hl => ?_)
                have hl : lv_has ls 6 [(3, .int (nI (c3 + (pu_need (ab_op a v) y)))), (5, .int (nI (pu_need (ab_op a v) y))), (4, .int (nI v)), (0, .ref (ad 224)), (1, .int (nI y)), (2, .int (nI r'))] := hl
                refine lv_iinc (k := 2) (v := nI (v + 1)) X.1 X.2.1 d_Mo_holds_87 hl rfl (nI_add _ _) (by decide) rfl (fun ls hl => ?_)
                have hl : lv_has ls 6 [(4, .int (nI (v + 1))), (3, .int (nI (c3 + (pu_need (ab_op a v) y)))), (5, .int (nI (pu_need (ab_op a v) y))), (0, .ref (ad 224)), (1, .int (nI y)), (2, .int (nI r'))] := hl
                refine lv_goto (tgt := 34) X.1 X.2.1 d_Mo_holds_90 (by decide) ?_
                refine ih (v + 1) _ (by omega) (by omega) ?_ ?_ H locs ls hP hS (lv_sub hl [0, 1, 3, 4, 5] rfl)
                · show c3 + pu_need (ab_op a v) y = hcn (hcP (ab_op a) (ab_ex a (y % 3) r') y) v + (if (hcP (ab_op a) (ab_ex a (y % 3) r') y) v = true then 1 else 0)
                  by_cases q : pu_need (ab_op a v) y = 1
                  · rw [if_pos (hcP_iff.mpr ⟨h51, xb_zero.mp h61, q⟩), q, hc3]
                  · rw [if_neg (fun z => q (hcP_iff.mp z).2.2), hc3]; omega
                · intro t t1 t2 t3 t4
                  rcases (show t = v ∨ t < v by omega) with q | q
                  · rw [q]; exact h76
                  · exact hno t t1 q t3 t4
              · skip
                refine lv_iload X.1 X.2.1 d_Mo_holds_79 (lv_at hl 1 rfl) ?_
                refine gx_iret X.1 X.2.1 hr hlk hP hS d_Mo_holds_81 ?_
                exact ⟨w2, Or.inr ⟨y, r', rfl, rfl, y1, r1, Or.inl ⟨v, by omega, by omega, h51, xb_zero.mp h61, h76, rfl⟩⟩⟩
      refine lv_iconst (v := nI 0) X.1 X.2.1 d_Mo_holds_29 (by decide) ?_
      refine lv_istore_n X.1 X.2.1 d_Mo_holds_30 rfl hl (by decide) rfl (fun ls hl => ?_)
      have hl : lv_has ls 6 [(3, .int (nI 0)), (0, .ref (ad 224)), (1, .int (nI y)), (2, .int (nI r'))] := hl
      refine lv_iconst (v := nI 1) X.1 X.2.1 d_Mo_holds_31 (by decide) ?_
      refine lv_istore X.1 X.2.1 d_Mo_holds_32 hl (by decide) rfl (fun ls hl => ?_)
      have hl : lv_has ls 6 [(4, .int (nI 1)), (3, .int (nI 0)), (0, .ref (ad 224)), (1, .int (nI y)), (2, .int (nI r'))] := hl
      exact lp (ab_n a) 1 0 (by omega) (by decide) (by show 0 = 0 + (if (hcP (ab_op a) (ab_ex a (y % 3) r') y) 0 = true then 1 else 0); rw [hV0]; rfl) (fun t t1 t2 => by omega) _ _ ls hP hS (lv_sub hl [0, 1, 2, 3, 4] rfl)
    · skip
      refine lv_iconst (v := nI 0) X.1 X.2.1 d_Mo_holds_19 (by decide) ?_
      refine gx_iret X.1 X.2.1 hr hlk hP hS d_Mo_holds_20 ?_
      refine ⟨mC_rfl _, Or.inl ⟨fun hh => ?_, rfl⟩⟩
      have := hp13.mpr ⟨hh.2.1, hh.2.2⟩; omega
set_option maxRecDepth 100000 in
set_option maxHeartbeats 4000000 in
theorem K_Mo_serial (l : Launch) (dC : Nat → ClassId) (dI : Nat → Nat → Nat) (cx : Nat → ClassId) (ad : Nat → Nat) (hJ : gx_J gx_N ad (gx_A gx_N ad)) (σ : gx_M) (a : ab_S) (t i : Nat) (hx : mr σ a) (hw : ab_W a) (hv : ab_V a) (ht : t < 21) (hi : i < (ab_op a t).length) : cg_Ml l dC dI cx ad y_Mo_serial w_Mo_serial 1 [.ref (ad 224), .int (nI t), .int (nI i)] σ (fun r σ' => mC σ σ' ∧ r = zF (pu_sr (ab_op a) ((ab_lg a 3 (ab_long a)).take (ab_dn a 3 (ab_long a)))) t i) := by
  refine gx_ofW (cc := c_Mo_serial) (maxL := 10) (ret := (Option.some Jvm.ClassFile.FieldType.long)) (by decide) rfl (Nat.le_of_ble_eq_true rfl) ?_
  intro p e s m below meth c ls S hr hlk hK hN hl hP
  have X : cg_X c_Mo_serial "CommitGroupsModel" 10 dC dI cx p m c s _ := ⟨S.1, S.2.1, S.2.2.2.1, fun w h => S.2.2.2.2 w (List.mem_cons_of_mem _ h), hK, hN, S.2.2.1⟩
  have hS : va_S (gx_A gx_N ad) s.heap s.heap [] := va_S.rf
  have hl : lv_has ls 10 [(0, .ref (ad 224)), (1, .int (nI t)), (2, .int (nI i))] := hl
  obtain ⟨b, hb⟩ : ∃ b, b = ab_long a := ⟨_, rfl⟩
  have hb3 : b < 3 := by rw [hb]; exact ab_long_lt a
  obtain ⟨y1, y2, y3, y4, y5⟩ := hx.2.2.1 3 b (by decide) hb3
  have Y4 : σ 233 (9 + b) = ab_dn a 3 b := by rw [show 9 + b = 3 * 3 + b by omega]; exact y4
  obtain ⟨v1, v2, v3, -⟩ := hw.2.2 3 b (by decide) hb3
  have hi4 := (hw.2.1 t).1
  have D0 : σ 233 9 = ab_dn a 3 0 := (hx.2.2.1 3 0 (by decide) (by decide)).2.2.2.1
  have E0 := (hw.2.2 3 0 (by decide) (by decide)).2.2.1
  have FF0 := (hw.2.2 3 0 (by decide) (by decide)).1
  have D1 : σ 233 10 = ab_dn a 3 1 := (hx.2.2.1 3 1 (by decide) (by decide)).2.2.2.1
  have E1 := (hw.2.2 3 1 (by decide) (by decide)).2.2.1
  have FF1 := (hw.2.2 3 1 (by decide) (by decide)).1
  have D2 : σ 233 11 = ab_dn a 3 2 := (hx.2.2.1 3 2 (by decide) (by decide)).2.2.2.1
  have E2 := (hw.2.2 3 2 (by decide) (by decide)).2.2.1
  have FF2 := (hw.2.2 3 2 (by decide) (by decide)).1
  have lpm : ∀ (k : Nat) (j : Nat) (τ : gx_M) (f : Int64), j + k = ab_dn a 3 b → mC σ τ → zM τ (pu_sr (ab_op a) ((ab_lg a 3 b).take j)) → f = zF (pu_sr (ab_op a) ((ab_lg a 3 b).take j)) t i → ∀ (H : Heap) (locs : List Loc) (ls : Array Slot), cg_P dC dI cx ad τ H → va_S (gx_A gx_N ad) s.heap H locs → lv_has ls 10 [(6, .int (nI j)), (4, .long f), (3, .int (nI (9 + b))), (0, .ref (ad 224)), (1, .int (nI t)), (2, .int (nI i))] → W p l e (rmL 1) s m ([.ref (ad 224), .int (nI t), .int (nI i)] : List Value).toArray below meth c H locs 0 0 (cg_Ql dC dI cx ad (fun r σ' => mC σ σ' ∧ r = zF (pu_sr (ab_op a) ((ab_lg a 3 (ab_long a)).take (ab_dn a 3 (ab_long a)))) t i) below [.ref (ad 224), .int (nI t), .int (nI i)] s) (F0 m 99 ls []) := by
    intro k
    induction k with
    | zero =>
      intro j τ f hjk hc hz hf H locs ls hP hS hl
      refine lv_iload X.1 X.2.1 d_Mo_serial_99 (lv_at hl 0 rfl) ?_
      refine lv_aload_n X.1 X.2.1 d_Mo_serial_101 rfl (lv_at hl 3 rfl) ?_
      refine gg_Mo_35 X hP d_Mo_serial_102 ?_
      refine lv_iload_n X.1 X.2.1 d_Mo_serial_105 rfl (lv_at hl 2 rfl) ?_
      refine ga_233 (by omega) X hP d_Mo_serial_106 ?_
      rw [hc.1 233 (by decide) (by decide), Y4]
      refine gx_icmp_ge X.1 X.2.1 (tgt := 264) d_Mo_serial_107 (by decide) (by omega) (by omega) (fun h107 => ?_) (fun h107 => absurd h107 (by omega))
      refine lv_lload X.1 X.2.1 d_Mo_serial_264 (lv_at hl 1 rfl) ?_
      refine gx_lret X.1 X.2.1 hr hlk hP hS d_Mo_serial_266 ?_
      obtain rfl : j = ab_dn a 3 b := by omega
      rw [← hb]
      exact ⟨hc, hf⟩
    | succ k ih =>
      intro j τ f hjk hc hz hf H locs ls hP hS hl
      refine lv_iload X.1 X.2.1 d_Mo_serial_99 (lv_at hl 0 rfl) ?_
      refine lv_aload_n X.1 X.2.1 d_Mo_serial_101 rfl (lv_at hl 3 rfl) ?_
      refine gg_Mo_35 X hP d_Mo_serial_102 ?_
      refine lv_iload_n X.1 X.2.1 d_Mo_serial_105 rfl (lv_at hl 2 rfl) ?_
      refine ga_233 (by omega) X hP d_Mo_serial_106 ?_
      rw [hc.1 233 (by decide) (by decide), Y4]
      refine gx_icmp_ge X.1 X.2.1 (tgt := 264) d_Mo_serial_107 (by decide) (by omega) (by omega) (fun h107 => absurd h107 (by omega)) (fun h107 => ?_)
      have hz3 : ∀ w, w < 21 → τ 239 w ≤ 3 := by
        intro w hw1
        rw [hz.1 w hw1]
        have : (pu_sr (ab_op a) ((ab_lg a 3 b).take j)).1 w ≤ 2 := by
          rw [pu_sr_ds]
          exact pu_ds_le (fun e he => ((hw.2.2 3 b (by decide) hb3).2.2.2 e (List.mem_of_mem_take he)).2.2) w
        split <;> omega
      have hzt := hz3 t ht
      refine lv_aload_n X.1 X.2.1 d_Mo_serial_110 rfl (lv_at hl 3 rfl) ?_
      refine gg_Mo_53 X hP d_Mo_serial_111 ?_
      refine lv_iload_n X.1 X.2.1 d_Mo_serial_114 rfl (lv_at hl 4 rfl) ?_
      refine ga_239 (by omega) X hP d_Mo_serial_115 ?_
      refine gx_if_ne X.1 X.2.1 (tgt := 264) d_Mo_serial_116 (by decide) (by omega) (fun h116 => ?_) (fun h116 => ?_)
      · skip
        have zt : (pu_sr (ab_op a) ((ab_lg a 3 b).take j)).1 t ≠ 0 := fun q => h116 (by rw [hz.1 t ht, if_pos q])
        refine lv_lload X.1 X.2.1 d_Mo_serial_264 (lv_at hl 1 rfl) ?_
        refine gx_lret X.1 X.2.1 hr hlk hP hS d_Mo_serial_266 ?_
        rw [← hb]
        refine ⟨hc, ?_⟩
        rw [hf, zF_stop (n := ab_dn a 3 b) zt (by omega)]
      · skip
        have zt : (pu_sr (ab_op a) ((ab_lg a 3 b).take j)).1 t = 0 := by
          rw [hz.1 t ht] at h116
          by_cases q : (pu_sr (ab_op a) ((ab_lg a 3 b).take j)).1 t = 0
          · exact q
          · rw [if_neg q] at h116; omega
        obtain ⟨en, he⟩ : ∃ en, (ab_lg a 3 b)[j]? = some en := ⟨(ab_lg a 3 b)[j], List.getElem?_eq_getElem (by omega)⟩
        have ev := hv 3 b (by decide) hb3 en (List.mem_of_getElem? he)
        have ew := (hw.2.2 3 b (by decide) hb3).2.2.2 en (List.mem_of_getElem? he)
        have ek := ev.2.2 rfl
        have el : τ 234 (60 * (9 + b) + j) = 32 * (en.1 + 1) + en.2 := by rw [hc.1 234 (by decide) (by decide), show 60 * (9 + b) + j = 60 * (3 * 3 + b) + j by omega]; exact y5 j en he
        obtain ⟨tu1, tu2, tu3⟩ := hx.2.1 en.2 (by omega)
        have hul := (hw.2.1 en.2).1
        have hzb := hz3 en.2 (by omega)
        refine lv_aload_n X.1 X.2.1 d_Mo_serial_119 rfl (lv_at hl 3 rfl) ?_
        refine gg_Mo_38 X hP d_Mo_serial_120 ?_
        refine lv_bipush (v := nI 60) X.1 X.2.1 d_Mo_serial_123 (by decide) ?_
        refine lv_iload_n X.1 X.2.1 d_Mo_serial_125 rfl (lv_at hl 2 rfl) ?_
        refine gx_imul X.1 X.2.1 d_Mo_serial_126 ?_
        refine lv_iload X.1 X.2.1 d_Mo_serial_127 (lv_at hl 0 rfl) ?_
        refine gx_iadd X.1 X.2.1 d_Mo_serial_129 ?_
        refine ga_234 (by omega) X hP d_Mo_serial_130 ?_
        rw [el]
        refine lv_bipush (v := nI 32) X.1 X.2.1 d_Mo_serial_131 (by decide) ?_
        refine gx_irem X.1 X.2.1 d_Mo_serial_133 (by omega) (by decide) (by decide) ?_
        rw [show (32 * (en.1 + 1) + en.2) % 32 = en.2 by omega]
        refine lv_istore X.1 X.2.1 d_Mo_serial_134 hl (by decide) rfl (fun ls hl => ?_)
        have hl : lv_has ls 10 [(7, .int (nI en.2)), (6, .int (nI j)), (4, .long f), (3, .int (nI (9 + b))), (0, .ref (ad 224)), (1, .int (nI t)), (2, .int (nI i))] := hl
        refine lv_aload_n X.1 X.2.1 d_Mo_serial_136 rfl (lv_at hl 4 rfl) ?_
        refine gg_Mo_53 X hP d_Mo_serial_137 ?_
        refine lv_iload X.1 X.2.1 d_Mo_serial_140 (lv_at hl 0 rfl) ?_
        refine ga_239 (by omega) X hP d_Mo_serial_142 ?_
        refine gx_if_ne X.1 X.2.1 (tgt := 150) d_Mo_serial_143 (by decide) (by omega) (fun h143 => ?_) (fun h143 => ?_)
        · skip
          have z143 : (pu_sr (ab_op a) ((ab_lg a 3 b).take j)).1 en.2 ≠ 0 := fun q => h143 (by rw [hz.1 en.2 (by omega), if_pos q])
          refine lv_iconst (v := nI 0) X.1 X.2.1 d_Mo_serial_150 (by decide) ?_
          refine lv_istore X.1 X.2.1 d_Mo_serial_151 hl (by decide) rfl (fun ls hl => ?_)
          have hl : lv_has ls 10 [(8, .int (nI 0)), (7, .int (nI en.2)), (6, .int (nI j)), (4, .long f), (3, .int (nI (9 + b))), (0, .ref (ad 224)), (1, .int (nI t)), (2, .int (nI i))] := hl
          refine lv_aload_n X.1 X.2.1 d_Mo_serial_153 rfl (lv_at hl 5 rfl) ?_
          refine gg_Mo_53 X hP d_Mo_serial_154 ?_
          refine lv_iload X.1 X.2.1 d_Mo_serial_157 (lv_at hl 1 rfl) ?_
          refine lv_iload X.1 X.2.1 d_Mo_serial_159 (lv_at hl 0 rfl) ?_
          refine gx_if_eq X.1 X.2.1 (tgt := 182) d_Mo_serial_161 (by decide) (by omega) (fun h161 => ?_) (fun h161 => absurd h161 (by decide))
          refine lv_aload_n X.1 X.2.1 d_Mo_serial_182 rfl (lv_at hl 5 rfl) ?_
          refine gg_Mo_53 X hP d_Mo_serial_183 ?_
          refine lv_iload X.1 X.2.1 d_Mo_serial_186 (lv_at hl 1 rfl) ?_
          refine ga_239 (by omega) X hP d_Mo_serial_188 ?_
          refine gs_239 (by omega) X hJ hP hS d_Mo_serial_189 (fun H locs hP hS => ?_)
          refine lv_iconst (v := nI 0) X.1 X.2.1 d_Mo_serial_190 (by decide) ?_
          refine lv_istore X.1 X.2.1 d_Mo_serial_191 hl (by decide) rfl (fun ls hl => ?_)
          have hl : lv_has ls 10 [(9, .int (nI 0)), (8, .int (nI 0)), (7, .int (nI en.2)), (6, .int (nI j)), (4, .long f), (3, .int (nI (9 + b))), (0, .ref (ad 224)), (1, .int (nI t)), (2, .int (nI i))] := hl
          refine lv_iload X.1 X.2.1 d_Mo_serial_193 (lv_at hl 0 rfl) ?_
          refine lv_aload_n X.1 X.2.1 d_Mo_serial_195 rfl (lv_at hl 6 rfl) ?_
          refine gg_Mo_7 X hP d_Mo_serial_196 ?_
          refine lv_iload X.1 X.2.1 d_Mo_serial_199 (lv_at hl 2 rfl) ?_
          refine ga_225 (by omega) X hP d_Mo_serial_201 ?_
          rw [gx_w_row _ _ _ (show (225 : Nat) ≠ 239 by decide), hc.1 225 (by decide) (by decide), tu1]
          refine gx_icmp_ge X.1 X.2.1 (tgt := 258) d_Mo_serial_202 (by decide) (by omega) (by omega) (fun h202 => ?_) (fun h202 => ?_)
          · skip
            refine lv_iinc (k := 3) (v := nI (j + 1)) X.1 X.2.1 d_Mo_serial_258 hl rfl (nI_add _ _) (by decide) rfl (fun ls hl => ?_)
            have hl : lv_has ls 10 [(6, .int (nI (j + 1))), (9, .int (nI 0)), (8, .int (nI 0)), (7, .int (nI en.2)), (4, .long f), (3, .int (nI (9 + b))), (0, .ref (ad 224)), (1, .int (nI t)), (2, .int (nI i))] := hl
            refine lv_goto (tgt := 99) X.1 X.2.1 d_Mo_serial_261 (by decide) ?_
            refine ih (j + 1) _ _ (by omega) (mC_trans hc (mC_w (by omega))) ?_ ?_ H locs ls hP hS (lv_sub hl [0, 4, 5, 6, 7, 8] rfl)
            · rw [pu_take_succ he, pu_sr_snoc, zs_skip z143]
              exact zM_same hz (by omega) rfl
            · rw [pu_take_succ he, pu_sr_snoc, zs_skip z143]
              exact hf
          · skip
            refine lv_iload X.1 X.2.1 d_Mo_serial_205 (lv_at hl 1 rfl) ?_
            refine gx_if_eq X.1 X.2.1 (tgt := 258) d_Mo_serial_207 (by decide) (by omega) (fun h207 => ?_) (fun h207 => absurd h207 (by decide))
            refine lv_iinc (k := 3) (v := nI (j + 1)) X.1 X.2.1 d_Mo_serial_258 hl rfl (nI_add _ _) (by decide) rfl (fun ls hl => ?_)
            have hl : lv_has ls 10 [(6, .int (nI (j + 1))), (9, .int (nI 0)), (8, .int (nI 0)), (7, .int (nI en.2)), (4, .long f), (3, .int (nI (9 + b))), (0, .ref (ad 224)), (1, .int (nI t)), (2, .int (nI i))] := hl
            refine lv_goto (tgt := 99) X.1 X.2.1 d_Mo_serial_261 (by decide) ?_
            refine ih (j + 1) _ _ (by omega) (mC_trans hc (mC_w (by omega))) ?_ ?_ H locs ls hP hS (lv_sub hl [0, 4, 5, 6, 7, 8] rfl)
            · rw [pu_take_succ he, pu_sr_snoc, zs_skip z143]
              exact zM_same hz (by omega) rfl
            · rw [pu_take_succ he, pu_sr_snoc, zs_skip z143]
              exact hf
        · skip
          have z143 : (pu_sr (ab_op a) ((ab_lg a 3 b).take j)).1 en.2 = 0 := by
            rw [hz.1 en.2 (by omega)] at h143
            by_cases q : (pu_sr (ab_op a) ((ab_lg a 3 b).take j)).1 en.2 = 0
            · exact q
            · rw [if_neg q] at h143; omega
          have hf0 : f = 1099511627776 := by rw [hf]; unfold zF; rw [zt, if_neg (by decide)]
          have lpi : ∀ (k : Nat) (j2 : Nat) (υ : gx_M) (f2 : Int64), j2 + k = (ab_op a en.2).length → en.1 = 1 → mC σ υ → (∀ w, w < 21 → υ 239 w = if pu_up (pu_sr (ab_op a) ((ab_lg a 3 b).take j)).1 en.2 1 w = 0 then 0 else pu_up (pu_sr (ab_op a) ((ab_lg a 3 b).take j)).1 en.2 1 w + 1) → (∀ y, y < 12 → υ 240 y = pu_run pu_all ((ab_op a en.2).take j2) (pu_sr (ab_op a) ((ab_lg a 3 b).take j)).2.1 y) → f2 = (if en.2 = t ∧ i < j2 then (nI (pu_rs pu_all (ab_op a en.2) (pu_sr (ab_op a) ((ab_lg a 3 b).take j)).2.1 i)).toInt64 else 1099511627776) → ∀ (H : Heap) (locs : List Loc) (ls : Array Slot), cg_P dC dI cx ad υ H → va_S (gx_A gx_N ad) s.heap H locs → lv_has ls 10 [(9, .int (nI j2)), (8, .int (nI 1)), (7, .int (nI en.2)), (6, .int (nI j)), (4, .long f2), (3, .int (nI (9 + b))), (0, .ref (ad 224)), (1, .int (nI t)), (2, .int (nI i))] → W p l e (rmL 1) s m ([.ref (ad 224), .int (nI t), .int (nI i)] : List Value).toArray below meth c H locs 0 0 (cg_Ql dC dI cx ad (fun r σ' => mC σ σ' ∧ r = zF (pu_sr (ab_op a) ((ab_lg a 3 (ab_long a)).take (ab_dn a 3 (ab_long a)))) t i) below [.ref (ad 224), .int (nI t), .int (nI i)] s) (F0 m 193 ls []) := by
            intro k
            induction k with
            | zero =>
              intro j2 υ f2 hjk hk1 hc2 vf mf hf2 H locs ls hP hS hl
              refine lv_iload X.1 X.2.1 d_Mo_serial_193 (lv_at hl 0 rfl) ?_
              refine lv_aload_n X.1 X.2.1 d_Mo_serial_195 rfl (lv_at hl 6 rfl) ?_
              refine gg_Mo_7 X hP d_Mo_serial_196 ?_
              refine lv_iload X.1 X.2.1 d_Mo_serial_199 (lv_at hl 2 rfl) ?_
              refine ga_225 (by omega) X hP d_Mo_serial_201 ?_
              rw [hc2.1 225 (by decide) (by decide), tu1]
              refine gx_icmp_ge X.1 X.2.1 (tgt := 258) d_Mo_serial_202 (by decide) (by omega) (by omega) (fun h202 => ?_) (fun h202 => absurd h202 (by omega))
              refine lv_iinc (k := 3) (v := nI (j + 1)) X.1 X.2.1 d_Mo_serial_258 hl rfl (nI_add _ _) (by decide) rfl (fun ls hl => ?_)
              have hl : lv_has ls 10 [(6, .int (nI (j + 1))), (9, .int (nI j2)), (8, .int (nI 1)), (7, .int (nI en.2)), (4, .long f2), (3, .int (nI (9 + b))), (0, .ref (ad 224)), (1, .int (nI t)), (2, .int (nI i))] := hl
              refine lv_goto (tgt := 99) X.1 X.2.1 d_Mo_serial_261 (by decide) ?_
              refine ih (j + 1) _ _ (by omega) hc2 ?_ ?_ H locs ls hP hS (lv_sub hl [0, 4, 5, 6, 7, 8] rfl)
              · rw [pu_take_succ he, pu_sr_snoc, zs_com z143 hk1]
                refine ⟨vf, fun y hy => ?_⟩
                rw [mf y hy, List.take_of_length_le (by omega)]
              · rw [pu_take_succ he, pu_sr_snoc, zs_com z143 hk1, hf2]
                unfold zF
                show _ = if pu_up (pu_sr (ab_op a) ((ab_lg a 3 b).take j)).1 en.2 1 t = 1 then (nI (pu_up (pu_sr (ab_op a) ((ab_lg a 3 b).take j)).2.2 en.2 (pu_rs pu_all (ab_op a en.2) (pu_sr (ab_op a) ((ab_lg a 3 b).take j)).2.1) t i)).toInt64 else 1099511627776
                by_cases q : en.2 = t
                · rw [if_pos ⟨q, by rw [← q] at hi; omega⟩, ← q, pu_up_self, pu_up_self, if_pos rfl]
                · rw [if_neg (fun z => q z.1), pu_up_ne _ _ (fun z => q z.symm), zt, if_neg (by decide)]
            | succ k ihj =>
              intro j2 υ f2 hjk hk1 hc2 vf mf hf2 H locs ls hP hS hl
              refine lv_iload X.1 X.2.1 d_Mo_serial_193 (lv_at hl 0 rfl) ?_
              refine lv_aload_n X.1 X.2.1 d_Mo_serial_195 rfl (lv_at hl 6 rfl) ?_
              refine gg_Mo_7 X hP d_Mo_serial_196 ?_
              refine lv_iload X.1 X.2.1 d_Mo_serial_199 (lv_at hl 2 rfl) ?_
              refine ga_225 (by omega) X hP d_Mo_serial_201 ?_
              rw [hc2.1 225 (by decide) (by decide), tu1]
              refine gx_icmp_ge X.1 X.2.1 (tgt := 258) d_Mo_serial_202 (by decide) (by omega) (by omega) (fun h202 => absurd h202 (by omega)) (fun h202 => ?_)
              obtain ⟨o, ho⟩ : ∃ o, (ab_op a en.2)[j2]? = some o := ⟨(ab_op a en.2)[j2], List.getElem?_eq_getElem (by omega)⟩
              have yb := (hw.2.1 en.2).2 o (List.mem_of_getElem? ho)
              refine lv_iload X.1 X.2.1 d_Mo_serial_205 (lv_at hl 1 rfl) ?_
              refine gx_if_eq X.1 X.2.1 (tgt := 258) d_Mo_serial_207 (by decide) (by omega) (fun h207 => absurd h207 (by decide)) (fun h207 => ?_)
              refine lv_aload_n X.1 X.2.1 d_Mo_serial_210 rfl (lv_at hl 6 rfl) ?_
              refine gg_Mo_53 X hP d_Mo_serial_211 ?_
              refine lv_iload X.1 X.2.1 d_Mo_serial_214 (lv_at hl 2 rfl) ?_
              refine ga_239 (by omega) X hP d_Mo_serial_216 ?_
              rw [show υ 239 en.2 = 2 by rw [vf en.2 (by omega), pu_up_self]; rfl]
              refine lv_iconst (v := nI 2) X.1 X.2.1 d_Mo_serial_217 (by decide) ?_
              refine gx_icmp_ne X.1 X.2.1 (tgt := 258) d_Mo_serial_218 (by decide) (by omega) (by omega) (fun h218 => absurd h218 (by decide)) (fun h218 => ?_)
              refine lv_aload_n X.1 X.2.1 d_Mo_serial_221 rfl (lv_at hl 6 rfl) ?_
              refine lv_iload X.1 X.2.1 d_Mo_serial_222 (lv_at hl 2 rfl) ?_
              refine lv_iload X.1 X.2.1 d_Mo_serial_224 (lv_at hl 0 rfl) ?_
              refine cv_Mo_82 (rest := []) X hJ hP hS (by decide) (ec_Mo_0 _) (K_Mo_run l dC dI cx ad hJ υ a en.2 j2 o (mr_mC hx hc2) hw (by omega) ho) rfl rfl (by decide) hl.1 (Nat.le_of_ble_eq_true rfl) ⟨Nat.le_refl _, Nat.le_refl _⟩ d_Mo_serial_226 (fun ω H locs hq hP hS => ?_)
              obtain ⟨r1, r2, r3, r4⟩ := hq
              refine lv_iload X.1 X.2.1 d_Mo_serial_229 (lv_at hl 2 rfl) ?_
              refine lv_iload_n X.1 X.2.1 d_Mo_serial_231 rfl (lv_at hl 7 rfl) ?_
              refine gx_icmp_ne X.1 X.2.1 (tgt := 248) d_Mo_serial_232 (by decide) (by omega) (by omega) (fun h232 => ?_) (fun h232 => ?_)
              · skip
                refine lv_lload X.1 X.2.1 d_Mo_serial_248 (lv_at hl 4 rfl) ?_
                refine lv_lstore X.1 X.2.1 d_Mo_serial_250 hl (by decide) rfl (fun ls hl => ?_)
                have hl : lv_has ls 10 [(4, .long f2), (9, .int (nI j2)), (8, .int (nI 1)), (7, .int (nI en.2)), (6, .int (nI j)), (3, .int (nI (9 + b))), (0, .ref (ad 224)), (1, .int (nI t)), (2, .int (nI i))] := hl
                refine lv_iinc (k := 1) (v := nI (j2 + 1)) X.1 X.2.1 d_Mo_serial_252 hl rfl (nI_add _ _) (by decide) rfl (fun ls hl => ?_)
                have hl : lv_has ls 10 [(9, .int (nI (j2 + 1))), (4, .long f2), (8, .int (nI 1)), (7, .int (nI en.2)), (6, .int (nI j)), (3, .int (nI (9 + b))), (0, .ref (ad 224)), (1, .int (nI t)), (2, .int (nI i))] := hl
                refine lv_goto (tgt := 193) X.1 X.2.1 d_Mo_serial_255 (by decide) ?_
                refine ihj (j2 + 1) ω _ (by omega) hk1 (mC_trans hc2 ⟨fun n n1 n2 => r1 n (by omega) n1, r2⟩) (fun w hw2 => by rw [r1 239 (by decide) (by decide)]; exact vf w hw2) ?_ ?_ H locs ls hP hS (lv_sub hl [0, 2, 3, 4, 1, 5, 6, 7, 8] rfl)
                · intro y hy
                  rw [r3 y, pu_take_succ ho, pu_run_snoc, if_pos (show pu_all o.2.1 = true from rfl)]
                  exact pu_do_at (mf y hy) o
                · rw [hf2, if_neg (fun z => h232 z.1), if_neg (fun z => h232 z.1)]
              · skip
                refine lv_iload X.1 X.2.1 d_Mo_serial_235 (lv_at hl 0 rfl) ?_
                refine lv_iload_n X.1 X.2.1 d_Mo_serial_237 rfl (lv_at hl 8 rfl) ?_
                refine gx_icmp_ne X.1 X.2.1 (tgt := 248) d_Mo_serial_238 (by decide) (by omega) (by omega) (fun h238 => ?_) (fun h238 => ?_)
                · skip
                  refine lv_lload X.1 X.2.1 d_Mo_serial_248 (lv_at hl 4 rfl) ?_
                  refine lv_lstore X.1 X.2.1 d_Mo_serial_250 hl (by decide) rfl (fun ls hl => ?_)
                  have hl : lv_has ls 10 [(4, .long f2), (9, .int (nI j2)), (8, .int (nI 1)), (7, .int (nI en.2)), (6, .int (nI j)), (3, .int (nI (9 + b))), (0, .ref (ad 224)), (1, .int (nI t)), (2, .int (nI i))] := hl
                  refine lv_iinc (k := 1) (v := nI (j2 + 1)) X.1 X.2.1 d_Mo_serial_252 hl rfl (nI_add _ _) (by decide) rfl (fun ls hl => ?_)
                  have hl : lv_has ls 10 [(9, .int (nI (j2 + 1))), (4, .long f2), (8, .int (nI 1)), (7, .int (nI en.2)), (6, .int (nI j)), (3, .int (nI (9 + b))), (0, .ref (ad 224)), (1, .int (nI t)), (2, .int (nI i))] := hl
                  refine lv_goto (tgt := 193) X.1 X.2.1 d_Mo_serial_255 (by decide) ?_
                  refine ihj (j2 + 1) ω _ (by omega) hk1 (mC_trans hc2 ⟨fun n n1 n2 => r1 n (by omega) n1, r2⟩) (fun w hw2 => by rw [r1 239 (by decide) (by decide)]; exact vf w hw2) ?_ ?_ H locs ls hP hS (lv_sub hl [0, 2, 3, 4, 1, 5, 6, 7, 8] rfl)
                  · intro y hy
                    rw [r3 y, pu_take_succ ho, pu_run_snoc, if_pos (show pu_all o.2.1 = true from rfl)]
                    exact pu_do_at (mf y hy) o
                  · rw [hf2]
                    by_cases q : i < j2
                    · rw [if_pos ⟨h232, q⟩, if_pos ⟨h232, by omega⟩]
                    · rw [if_neg (fun z => q z.2), if_neg (by omega)]
                · skip
                  refine lv_aload_n X.1 X.2.1 d_Mo_serial_241 rfl (lv_at hl 6 rfl) ?_
                  refine gg_Mo_67 X hP d_Mo_serial_242 ?_
                  refine lv_goto (tgt := 250) X.1 X.2.1 d_Mo_serial_245 (by decide) ?_
                  refine lv_lstore X.1 X.2.1 d_Mo_serial_250 hl (by decide) rfl (fun ls hl => ?_)
                  have hl : lv_has ls 10 [(4, .long ((nI (ω 224 18)).toInt64)), (9, .int (nI j2)), (8, .int (nI 1)), (7, .int (nI en.2)), (6, .int (nI j)), (3, .int (nI (9 + b))), (0, .ref (ad 224)), (1, .int (nI t)), (2, .int (nI i))] := hl
                  refine lv_iinc (k := 1) (v := nI (j2 + 1)) X.1 X.2.1 d_Mo_serial_252 hl rfl (nI_add _ _) (by decide) rfl (fun ls hl => ?_)
                  have hl : lv_has ls 10 [(9, .int (nI (j2 + 1))), (4, .long ((nI (ω 224 18)).toInt64)), (8, .int (nI 1)), (7, .int (nI en.2)), (6, .int (nI j)), (3, .int (nI (9 + b))), (0, .ref (ad 224)), (1, .int (nI t)), (2, .int (nI i))] := hl
                  refine lv_goto (tgt := 193) X.1 X.2.1 d_Mo_serial_255 (by decide) ?_
                  refine ihj (j2 + 1) ω _ (by omega) hk1 (mC_trans hc2 ⟨fun n n1 n2 => r1 n (by omega) n1, r2⟩) (fun w hw2 => by rw [r1 239 (by decide) (by decide)]; exact vf w hw2) ?_ ?_ H locs ls hP hS (lv_sub hl [0, 2, 3, 4, 1, 5, 6, 7, 8] rfl)
                  · intro y hy
                    rw [r3 y, pu_take_succ ho, pu_run_snoc, if_pos (show pu_all o.2.1 = true from rfl)]
                    exact pu_do_at (mf y hy) o
                  · rw [if_pos ⟨h232, by omega⟩, r4, ← h238, pu_rs_eq pu_all (ab_op a en.2) j2 o _ ho]
                    unfold pu_res
                    rw [mf o.2.1 (by omega)]
          refine lv_iconst (v := nI 1) X.1 X.2.1 d_Mo_serial_146 (by decide) ?_
          refine lv_goto (tgt := 151) X.1 X.2.1 d_Mo_serial_147 (by decide) ?_
          refine lv_istore X.1 X.2.1 d_Mo_serial_151 hl (by decide) rfl (fun ls hl => ?_)
          have hl : lv_has ls 10 [(8, .int (nI 1)), (7, .int (nI en.2)), (6, .int (nI j)), (4, .long f), (3, .int (nI (9 + b))), (0, .ref (ad 224)), (1, .int (nI t)), (2, .int (nI i))] := hl
          refine lv_aload_n X.1 X.2.1 d_Mo_serial_153 rfl (lv_at hl 5 rfl) ?_
          refine gg_Mo_53 X hP d_Mo_serial_154 ?_
          refine lv_iload X.1 X.2.1 d_Mo_serial_157 (lv_at hl 1 rfl) ?_
          refine lv_iload X.1 X.2.1 d_Mo_serial_159 (lv_at hl 0 rfl) ?_
          refine gx_if_eq X.1 X.2.1 (tgt := 182) d_Mo_serial_161 (by decide) (by omega) (fun h161 => absurd h161 (by decide)) (fun h161 => ?_)
          refine lv_aload_n X.1 X.2.1 d_Mo_serial_164 rfl (lv_at hl 5 rfl) ?_
          refine gg_Mo_38 X hP d_Mo_serial_165 ?_
          refine lv_bipush (v := nI 60) X.1 X.2.1 d_Mo_serial_168 (by decide) ?_
          refine lv_iload_n X.1 X.2.1 d_Mo_serial_170 rfl (lv_at hl 4 rfl) ?_
          refine gx_imul X.1 X.2.1 d_Mo_serial_171 ?_
          refine lv_iload X.1 X.2.1 d_Mo_serial_172 (lv_at hl 2 rfl) ?_
          refine gx_iadd X.1 X.2.1 d_Mo_serial_174 ?_
          refine ga_234 (by omega) X hP d_Mo_serial_175 ?_
          rw [el]
          refine lv_bipush (v := nI 32) X.1 X.2.1 d_Mo_serial_176 (by decide) ?_
          refine gx_idiv X.1 X.2.1 d_Mo_serial_178 (by omega) (by decide) (by decide) ?_
          rw [show (32 * (en.1 + 1) + en.2) / 32 = en.1 + 1 by omega]
          refine lv_goto (tgt := 189) X.1 X.2.1 d_Mo_serial_179 (by decide) ?_
          refine gs_239 (by omega) X hJ hP hS d_Mo_serial_189 (fun H locs hP hS => ?_)
          refine lv_iconst (v := nI 0) X.1 X.2.1 d_Mo_serial_190 (by decide) ?_
          refine lv_istore X.1 X.2.1 d_Mo_serial_191 hl (by decide) rfl (fun ls hl => ?_)
          have hl : lv_has ls 10 [(9, .int (nI 0)), (8, .int (nI 1)), (7, .int (nI en.2)), (6, .int (nI j)), (4, .long f), (3, .int (nI (9 + b))), (0, .ref (ad 224)), (1, .int (nI t)), (2, .int (nI i))] := hl
          rcases (show en.1 = 1 ∨ en.1 ≠ 1 by omega) with hk | hk
          · refine lpi _ 0 _ _ (Nat.zero_add _) hk (mC_trans hc (mC_w (by omega))) ?_ ?_ ?_ H locs ls hP hS (lv_sub hl [0, 1, 2, 3, 4, 5, 6, 7, 8] rfl)
            · intro w hw1
              have := (zM_w hz (t := en.2) (k := 1) (by decide) (va := (pu_sr (ab_op a) ((ab_lg a 3 b).take j)).2.1) (rs := (pu_sr (ab_op a) ((ab_lg a 3 b).take j)).2.2) hz.2).1 w hw1
              rw [hk]
              exact this
            · intro y hy
              rw [gx_w_row _ _ _ (by decide)]
              exact hz.2 y hy
            · rw [hf0, if_neg (by omega)]
          · skip
            refine lv_iload X.1 X.2.1 d_Mo_serial_193 (lv_at hl 0 rfl) ?_
            refine lv_aload_n X.1 X.2.1 d_Mo_serial_195 rfl (lv_at hl 6 rfl) ?_
            refine gg_Mo_7 X hP d_Mo_serial_196 ?_
            refine lv_iload X.1 X.2.1 d_Mo_serial_199 (lv_at hl 2 rfl) ?_
            refine ga_225 (by omega) X hP d_Mo_serial_201 ?_
            rw [gx_w_row _ _ _ (show (225 : Nat) ≠ 239 by decide), hc.1 225 (by decide) (by decide), tu1]
            refine gx_icmp_ge X.1 X.2.1 (tgt := 258) d_Mo_serial_202 (by decide) (by omega) (by omega) (fun h202 => ?_) (fun h202 => ?_)
            · skip
              refine lv_iinc (k := 3) (v := nI (j + 1)) X.1 X.2.1 d_Mo_serial_258 hl rfl (nI_add _ _) (by decide) rfl (fun ls hl => ?_)
              have hl : lv_has ls 10 [(6, .int (nI (j + 1))), (9, .int (nI 0)), (8, .int (nI 1)), (7, .int (nI en.2)), (4, .long f), (3, .int (nI (9 + b))), (0, .ref (ad 224)), (1, .int (nI t)), (2, .int (nI i))] := hl
              refine lv_goto (tgt := 99) X.1 X.2.1 d_Mo_serial_261 (by decide) ?_
              refine ih (j + 1) _ _ (by omega) (mC_trans hc (mC_w (by omega))) ?_ ?_ H locs ls hP hS (lv_sub hl [0, 4, 5, 6, 7, 8] rfl)
              · rw [pu_take_succ he, pu_sr_snoc, zs_abo z143 hk]
                exact zM_w hz ek hz.2
              · rw [pu_take_succ he, pu_sr_snoc, zs_abo z143 hk, hf0]
                unfold zF
                show _ = if pu_up (pu_sr (ab_op a) ((ab_lg a 3 b).take j)).1 en.2 en.1 t = 1 then _ else _
                rw [if_neg]
                by_cases q : t = en.2
                · rw [q, pu_up_self]; exact hk
                · rw [pu_up_ne _ _ q, zt]; decide
            · skip
              refine lv_iload X.1 X.2.1 d_Mo_serial_205 (lv_at hl 1 rfl) ?_
              refine gx_if_eq X.1 X.2.1 (tgt := 258) d_Mo_serial_207 (by decide) (by omega) (fun h207 => absurd h207 (by decide)) (fun h207 => ?_)
              refine lv_aload_n X.1 X.2.1 d_Mo_serial_210 rfl (lv_at hl 6 rfl) ?_
              refine gg_Mo_53 X hP d_Mo_serial_211 ?_
              refine lv_iload X.1 X.2.1 d_Mo_serial_214 (lv_at hl 2 rfl) ?_
              refine ga_239 (by omega) X hP d_Mo_serial_216 ?_
              rw [gx_w_self]
              refine lv_iconst (v := nI 2) X.1 X.2.1 d_Mo_serial_217 (by decide) ?_
              refine gx_icmp_ne X.1 X.2.1 (tgt := 258) d_Mo_serial_218 (by decide) (by omega) (by omega) (fun h218 => ?_) (fun h218 => absurd h218 (by omega))
              refine lv_iinc (k := 3) (v := nI (j + 1)) X.1 X.2.1 d_Mo_serial_258 hl rfl (nI_add _ _) (by decide) rfl (fun ls hl => ?_)
              have hl : lv_has ls 10 [(6, .int (nI (j + 1))), (9, .int (nI 0)), (8, .int (nI 1)), (7, .int (nI en.2)), (4, .long f), (3, .int (nI (9 + b))), (0, .ref (ad 224)), (1, .int (nI t)), (2, .int (nI i))] := hl
              refine lv_goto (tgt := 99) X.1 X.2.1 d_Mo_serial_261 (by decide) ?_
              refine ih (j + 1) _ _ (by omega) (mC_trans hc (mC_w (by omega))) ?_ ?_ H locs ls hP hS (lv_sub hl [0, 4, 5, 6, 7, 8] rfl)
              · rw [pu_take_succ he, pu_sr_snoc, zs_abo z143 hk]
                exact zM_w hz ek hz.2
              · rw [pu_take_succ he, pu_sr_snoc, zs_abo z143 hk, hf0]
                unfold zF
                show _ = if pu_up (pu_sr (ab_op a) ((ab_lg a 3 b).take j)).1 en.2 en.1 t = 1 then _ else _
                rw [if_neg]
                by_cases q : t = en.2
                · rw [q, pu_up_self]; exact hk
                · rw [pu_up_ne _ _ q, zt]; decide
  have lpb : ∀ (k : Nat) (q : Nat) (τ : gx_M), q + k = 12 → mC σ τ → (∀ u, u < 21 → τ 239 u = 0) → (∀ x, x < q → τ 240 x = 0) → ∀ (H : Heap) (locs : List Loc) (ls : Array Slot), cg_P dC dI cx ad τ H → va_S (gx_A gx_N ad) s.heap H locs → lv_has ls 10 [(4, .int (nI q)), (3, .int (nI (9 + b))), (0, .ref (ad 224)), (1, .int (nI t)), (2, .int (nI i))] → W p l e (rmL 1) s m ([.ref (ad 224), .int (nI t), .int (nI i)] : List Value).toArray below meth c H locs 0 0 (cg_Ql dC dI cx ad (fun r σ' => mC σ σ' ∧ r = zF (pu_sr (ab_op a) ((ab_lg a 3 (ab_long a)).take (ab_dn a 3 (ab_long a)))) t i) below [.ref (ad 224), .int (nI t), .int (nI i)] s) (F0 m 70 ls []) := by
    intro k
    induction k with
    | zero =>
      intro q τ hqk hc g1 g2 H locs ls hP hS hl
      refine lv_iload X.1 X.2.1 d_Mo_serial_70 (lv_at hl 0 rfl) ?_
      refine lv_bipush (v := nI 12) X.1 X.2.1 d_Mo_serial_72 (by decide) ?_
      refine gx_icmp_ge X.1 X.2.1 (tgt := 91) d_Mo_serial_74 (by decide) (by omega) (by omega) (fun h74 => ?_) (fun h74 => absurd h74 (by omega))
      refine lv_ldc2 (v := 1099511627776) X.1 X.2.1 X.2.2.1 (X.2.2.2.1 _ (gU_mem (List.mem_append_right _ (List.mem_append_right _ (List.mem_append_right _ (List.mem_of_getElem? (i := 149) rfl)))) rfl)) d_Mo_serial_91 ?_
      refine lv_lstore X.1 X.2.1 d_Mo_serial_94 hl (by decide) rfl (fun ls hl => ?_)
      have hl : lv_has ls 10 [(4, .long 1099511627776), (3, .int (nI (9 + b))), (0, .ref (ad 224)), (1, .int (nI t)), (2, .int (nI i))] := hl
      refine lv_iconst (v := nI 0) X.1 X.2.1 d_Mo_serial_96 (by decide) ?_
      refine lv_istore X.1 X.2.1 d_Mo_serial_97 hl (by decide) rfl (fun ls hl => ?_)
      have hl : lv_has ls 10 [(6, .int (nI 0)), (4, .long 1099511627776), (3, .int (nI (9 + b))), (0, .ref (ad 224)), (1, .int (nI t)), (2, .int (nI i))] := hl
      exact lpm _ 0 _ _ (Nat.zero_add _) hc ⟨fun u hu => g1 u hu, fun y hy => g2 y (by omega)⟩ rfl H locs ls hP hS (lv_sub hl [0, 1, 2, 3, 4, 5] rfl)
    | succ k ih =>
      intro q τ hqk hc g1 g2 H locs ls hP hS hl
      refine lv_iload X.1 X.2.1 d_Mo_serial_70 (lv_at hl 0 rfl) ?_
      refine lv_bipush (v := nI 12) X.1 X.2.1 d_Mo_serial_72 (by decide) ?_
      refine gx_icmp_ge X.1 X.2.1 (tgt := 91) d_Mo_serial_74 (by decide) (by omega) (by omega) (fun h74 => absurd h74 (by omega)) (fun h74 => ?_)
      refine lv_aload_n X.1 X.2.1 d_Mo_serial_77 rfl (lv_at hl 2 rfl) ?_
      refine gg_Mo_56 X hP d_Mo_serial_78 ?_
      refine lv_iload X.1 X.2.1 d_Mo_serial_81 (lv_at hl 0 rfl) ?_
      refine lv_iconst (v := nI 0) X.1 X.2.1 d_Mo_serial_83 (by decide) ?_
      refine gs_240 (by omega) X hJ hP hS d_Mo_serial_84 (fun H locs hP hS => ?_)
      refine lv_iinc (k := 0) (v := nI (q + 1)) X.1 X.2.1 d_Mo_serial_85 hl rfl (nI_add _ _) (by decide) rfl (fun ls hl => ?_)
      have hl : lv_has ls 10 [(4, .int (nI (q + 1))), (3, .int (nI (9 + b))), (0, .ref (ad 224)), (1, .int (nI t)), (2, .int (nI i))] := hl
      refine lv_goto (tgt := 70) X.1 X.2.1 d_Mo_serial_88 (by decide) ?_
      refine ih (q + 1) _ (by omega) (mC_trans hc (mC_w (by omega))) (fun u hu => by rw [gx_w_row _ _ _ (by decide)]; exact g1 u hu) ?_ H locs ls hP hS (lv_sub hl [0, 1, 2, 3, 4] rfl)
      intro x hx2
      by_cases y : x = q
      · rw [y, gx_w_self]
      · rw [gx_w_col _ _ _ y]; exact g2 x (by omega)
  have lpa : ∀ (k : Nat) (q : Nat) (τ : gx_M), q + k = 21 → mC σ τ → (∀ x, x < q → τ 239 x = 0) → ∀ (H : Heap) (locs : List Loc) (ls : Array Slot), cg_P dC dI cx ad τ H → va_S (gx_A gx_N ad) s.heap H locs → lv_has ls 10 [(4, .int (nI q)), (3, .int (nI (9 + b))), (0, .ref (ad 224)), (1, .int (nI t)), (2, .int (nI i))] → W p l e (rmL 1) s m ([.ref (ad 224), .int (nI t), .int (nI i)] : List Value).toArray below meth c H locs 0 0 (cg_Ql dC dI cx ad (fun r σ' => mC σ σ' ∧ r = zF (pu_sr (ab_op a) ((ab_lg a 3 (ab_long a)).take (ab_dn a 3 (ab_long a)))) t i) below [.ref (ad 224), .int (nI t), .int (nI i)] s) (F0 m 46 ls []) := by
    intro k
    induction k with
    | zero =>
      intro q τ hqk hc g1 H locs ls hP hS hl
      refine lv_iload X.1 X.2.1 d_Mo_serial_46 (lv_at hl 0 rfl) ?_
      refine lv_bipush (v := nI 20) X.1 X.2.1 d_Mo_serial_48 (by decide) ?_
      refine gx_icmp_gt X.1 X.2.1 (tgt := 67) d_Mo_serial_50 (by decide) (by omega) (by omega) (fun h50 => ?_) (fun h50 => absurd h50 (by omega))
      refine lv_iconst (v := nI 0) X.1 X.2.1 d_Mo_serial_67 (by decide) ?_
      refine lv_istore X.1 X.2.1 d_Mo_serial_68 hl (by decide) rfl (fun ls hl => ?_)
      have hl : lv_has ls 10 [(4, .int (nI 0)), (3, .int (nI (9 + b))), (0, .ref (ad 224)), (1, .int (nI t)), (2, .int (nI i))] := hl
      exact lpb 12 0 _ rfl hc (fun u hu => g1 u (by omega)) (fun x hx2 => absurd hx2 (Nat.not_lt_zero _)) H locs ls hP hS (lv_sub hl [0, 1, 2, 3, 4] rfl)
    | succ k ih =>
      intro q τ hqk hc g1 H locs ls hP hS hl
      refine lv_iload X.1 X.2.1 d_Mo_serial_46 (lv_at hl 0 rfl) ?_
      refine lv_bipush (v := nI 20) X.1 X.2.1 d_Mo_serial_48 (by decide) ?_
      refine gx_icmp_gt X.1 X.2.1 (tgt := 67) d_Mo_serial_50 (by decide) (by omega) (by omega) (fun h50 => absurd h50 (by omega)) (fun h50 => ?_)
      refine lv_aload_n X.1 X.2.1 d_Mo_serial_53 rfl (lv_at hl 2 rfl) ?_
      refine gg_Mo_53 X hP d_Mo_serial_54 ?_
      refine lv_iload X.1 X.2.1 d_Mo_serial_57 (lv_at hl 0 rfl) ?_
      refine lv_iconst (v := nI 0) X.1 X.2.1 d_Mo_serial_59 (by decide) ?_
      refine gs_239 (by omega) X hJ hP hS d_Mo_serial_60 (fun H locs hP hS => ?_)
      refine lv_iinc (k := 0) (v := nI (q + 1)) X.1 X.2.1 d_Mo_serial_61 hl rfl (nI_add _ _) (by decide) rfl (fun ls hl => ?_)
      have hl : lv_has ls 10 [(4, .int (nI (q + 1))), (3, .int (nI (9 + b))), (0, .ref (ad 224)), (1, .int (nI t)), (2, .int (nI i))] := hl
      refine lv_goto (tgt := 46) X.1 X.2.1 d_Mo_serial_64 (by decide) ?_
      refine ih (q + 1) _ (by omega) (mC_trans hc (mC_w (by omega))) ?_ H locs ls hP hS (lv_sub hl [0, 1, 2, 3, 4] rfl)
      intro x hx2
      by_cases y : x = q
      · rw [y, gx_w_self]
      · rw [gx_w_col _ _ _ y]; exact g1 x (by omega)
  refine lv_bipush (v := nI 9) X.1 X.2.1 d_Mo_serial_0 (by decide) ?_
  refine lv_istore_n X.1 X.2.1 d_Mo_serial_2 rfl hl (by decide) rfl (fun ls hl => ?_)
  have hl : lv_has ls 10 [(3, .int (nI 9)), (0, .ref (ad 224)), (1, .int (nI t)), (2, .int (nI i))] := hl
  refine lv_bipush (v := nI 10) X.1 X.2.1 d_Mo_serial_3 (by decide) ?_
  refine lv_istore X.1 X.2.1 d_Mo_serial_5 hl (by decide) rfl (fun ls hl => ?_)
  have hl : lv_has ls 10 [(4, .int (nI 10)), (3, .int (nI 9)), (0, .ref (ad 224)), (1, .int (nI t)), (2, .int (nI i))] := hl
  refine lv_iload X.1 X.2.1 d_Mo_serial_7 (lv_at hl 0 rfl) ?_
  refine lv_bipush (v := nI 12) X.1 X.2.1 d_Mo_serial_9 (by decide) ?_
  refine gx_icmp_ge X.1 X.2.1 (tgt := 43) d_Mo_serial_11 (by decide) (by omega) (by omega) (fun h11 => absurd h11 (by decide)) (fun h11 => ?_)
  refine lv_aload_n X.1 X.2.1 d_Mo_serial_14 rfl (lv_at hl 2 rfl) ?_
  refine gg_Mo_35 X hP d_Mo_serial_15 ?_
  refine lv_iload X.1 X.2.1 d_Mo_serial_18 (lv_at hl 0 rfl) ?_
  refine ga_233 (by omega) X hP d_Mo_serial_20 ?_
  rw [D1]
  refine lv_aload_n X.1 X.2.1 d_Mo_serial_21 rfl (lv_at hl 2 rfl) ?_
  refine gg_Mo_35 X hP d_Mo_serial_22 ?_
  refine lv_iload_n X.1 X.2.1 d_Mo_serial_25 rfl (lv_at hl 1 rfl) ?_
  refine ga_233 (by omega) X hP d_Mo_serial_26 ?_
  rw [D0]
  refine gx_icmp_le X.1 X.2.1 (tgt := 35) d_Mo_serial_27 (by decide) (by omega) (by omega) (fun h27_10 => ?_) (fun h27_10 => ?_)
  · skip
    refine lv_iload_n X.1 X.2.1 d_Mo_serial_35 rfl (lv_at hl 1 rfl) ?_
    refine lv_istore_n X.1 X.2.1 d_Mo_serial_36 rfl hl (by decide) rfl (fun ls hl => ?_)
    have hl : lv_has ls 10 [(3, .int (nI 9)), (4, .int (nI 10)), (0, .ref (ad 224)), (1, .int (nI t)), (2, .int (nI i))] := hl
    refine lv_iinc (k := 1) (v := nI (11)) X.1 X.2.1 d_Mo_serial_37 hl rfl (by decide) (by decide) rfl (fun ls hl => ?_)
    have hl : lv_has ls 10 [(4, .int (nI 11)), (3, .int (nI 9)), (0, .ref (ad 224)), (1, .int (nI t)), (2, .int (nI i))] := hl
    refine lv_goto (tgt := 7) X.1 X.2.1 d_Mo_serial_40 (by decide) ?_
    refine lv_iload X.1 X.2.1 d_Mo_serial_7 (lv_at hl 0 rfl) ?_
    refine lv_bipush (v := nI 12) X.1 X.2.1 d_Mo_serial_9 (by decide) ?_
    refine gx_icmp_ge X.1 X.2.1 (tgt := 43) d_Mo_serial_11 (by decide) (by omega) (by omega) (fun h11 => absurd h11 (by decide)) (fun h11 => ?_)
    refine lv_aload_n X.1 X.2.1 d_Mo_serial_14 rfl (lv_at hl 2 rfl) ?_
    refine gg_Mo_35 X hP d_Mo_serial_15 ?_
    refine lv_iload X.1 X.2.1 d_Mo_serial_18 (lv_at hl 0 rfl) ?_
    refine ga_233 (by omega) X hP d_Mo_serial_20 ?_
    rw [D2]
    refine lv_aload_n X.1 X.2.1 d_Mo_serial_21 rfl (lv_at hl 2 rfl) ?_
    refine gg_Mo_35 X hP d_Mo_serial_22 ?_
    refine lv_iload_n X.1 X.2.1 d_Mo_serial_25 rfl (lv_at hl 1 rfl) ?_
    refine ga_233 (by omega) X hP d_Mo_serial_26 ?_
    rw [D0]
    refine gx_icmp_le X.1 X.2.1 (tgt := 35) d_Mo_serial_27 (by decide) (by omega) (by omega) (fun h27_11 => ?_) (fun h27_11 => ?_)
    · skip
      refine lv_iload_n X.1 X.2.1 d_Mo_serial_35 rfl (lv_at hl 1 rfl) ?_
      refine lv_istore_n X.1 X.2.1 d_Mo_serial_36 rfl hl (by decide) rfl (fun ls hl => ?_)
      have hl : lv_has ls 10 [(3, .int (nI 9)), (4, .int (nI 11)), (0, .ref (ad 224)), (1, .int (nI t)), (2, .int (nI i))] := hl
      refine lv_iinc (k := 1) (v := nI (12)) X.1 X.2.1 d_Mo_serial_37 hl rfl (by decide) (by decide) rfl (fun ls hl => ?_)
      have hl : lv_has ls 10 [(4, .int (nI 12)), (3, .int (nI 9)), (0, .ref (ad 224)), (1, .int (nI t)), (2, .int (nI i))] := hl
      refine lv_goto (tgt := 7) X.1 X.2.1 d_Mo_serial_40 (by decide) ?_
      refine lv_iload X.1 X.2.1 d_Mo_serial_7 (lv_at hl 0 rfl) ?_
      refine lv_bipush (v := nI 12) X.1 X.2.1 d_Mo_serial_9 (by decide) ?_
      refine gx_icmp_ge X.1 X.2.1 (tgt := 43) d_Mo_serial_11 (by decide) (by omega) (by omega) (fun h11 => ?_) (fun h11 => absurd h11 (by decide))
      refine lv_iconst (v := nI 0) X.1 X.2.1 d_Mo_serial_43 (by decide) ?_
      refine lv_istore X.1 X.2.1 d_Mo_serial_44 hl (by decide) rfl (fun ls hl => ?_)
      have hl : lv_has ls 10 [(4, .int (nI 0)), (3, .int (nI 9)), (0, .ref (ad 224)), (1, .int (nI t)), (2, .int (nI i))] := hl
      have e : b = 0 := by
        rw [hb]
        clear hP hS hl X S hr hlk hK hN lpa lpb lpm
        unfold ab_long
        grind
      subst e
      exact lpa 21 0 σ rfl (mC_rfl _) (fun x hx2 => absurd hx2 (Nat.not_lt_zero _)) _ _ ls hP hS (lv_sub hl [0, 1, 2, 3, 4] rfl)
    · skip
      refine lv_iload X.1 X.2.1 d_Mo_serial_30 (lv_at hl 0 rfl) ?_
      refine lv_goto (tgt := 36) X.1 X.2.1 d_Mo_serial_32 (by decide) ?_
      refine lv_istore_n X.1 X.2.1 d_Mo_serial_36 rfl hl (by decide) rfl (fun ls hl => ?_)
      have hl : lv_has ls 10 [(3, .int (nI 11)), (4, .int (nI 11)), (0, .ref (ad 224)), (1, .int (nI t)), (2, .int (nI i))] := hl
      refine lv_iinc (k := 1) (v := nI (12)) X.1 X.2.1 d_Mo_serial_37 hl rfl (by decide) (by decide) rfl (fun ls hl => ?_)
      have hl : lv_has ls 10 [(4, .int (nI 12)), (3, .int (nI 11)), (0, .ref (ad 224)), (1, .int (nI t)), (2, .int (nI i))] := hl
      refine lv_goto (tgt := 7) X.1 X.2.1 d_Mo_serial_40 (by decide) ?_
      refine lv_iload X.1 X.2.1 d_Mo_serial_7 (lv_at hl 0 rfl) ?_
      refine lv_bipush (v := nI 12) X.1 X.2.1 d_Mo_serial_9 (by decide) ?_
      refine gx_icmp_ge X.1 X.2.1 (tgt := 43) d_Mo_serial_11 (by decide) (by omega) (by omega) (fun h11 => ?_) (fun h11 => absurd h11 (by decide))
      refine lv_iconst (v := nI 0) X.1 X.2.1 d_Mo_serial_43 (by decide) ?_
      refine lv_istore X.1 X.2.1 d_Mo_serial_44 hl (by decide) rfl (fun ls hl => ?_)
      have hl : lv_has ls 10 [(4, .int (nI 0)), (3, .int (nI 11)), (0, .ref (ad 224)), (1, .int (nI t)), (2, .int (nI i))] := hl
      have e : b = 2 := by
        rw [hb]
        clear hP hS hl X S hr hlk hK hN lpa lpb lpm
        unfold ab_long
        grind
      subst e
      exact lpa 21 0 σ rfl (mC_rfl _) (fun x hx2 => absurd hx2 (Nat.not_lt_zero _)) _ _ ls hP hS (lv_sub hl [0, 1, 2, 3, 4] rfl)
  · skip
    refine lv_iload X.1 X.2.1 d_Mo_serial_30 (lv_at hl 0 rfl) ?_
    refine lv_goto (tgt := 36) X.1 X.2.1 d_Mo_serial_32 (by decide) ?_
    refine lv_istore_n X.1 X.2.1 d_Mo_serial_36 rfl hl (by decide) rfl (fun ls hl => ?_)
    have hl : lv_has ls 10 [(3, .int (nI 10)), (4, .int (nI 10)), (0, .ref (ad 224)), (1, .int (nI t)), (2, .int (nI i))] := hl
    refine lv_iinc (k := 1) (v := nI (11)) X.1 X.2.1 d_Mo_serial_37 hl rfl (by decide) (by decide) rfl (fun ls hl => ?_)
    have hl : lv_has ls 10 [(4, .int (nI 11)), (3, .int (nI 10)), (0, .ref (ad 224)), (1, .int (nI t)), (2, .int (nI i))] := hl
    refine lv_goto (tgt := 7) X.1 X.2.1 d_Mo_serial_40 (by decide) ?_
    refine lv_iload X.1 X.2.1 d_Mo_serial_7 (lv_at hl 0 rfl) ?_
    refine lv_bipush (v := nI 12) X.1 X.2.1 d_Mo_serial_9 (by decide) ?_
    refine gx_icmp_ge X.1 X.2.1 (tgt := 43) d_Mo_serial_11 (by decide) (by omega) (by omega) (fun h11 => absurd h11 (by decide)) (fun h11 => ?_)
    refine lv_aload_n X.1 X.2.1 d_Mo_serial_14 rfl (lv_at hl 2 rfl) ?_
    refine gg_Mo_35 X hP d_Mo_serial_15 ?_
    refine lv_iload X.1 X.2.1 d_Mo_serial_18 (lv_at hl 0 rfl) ?_
    refine ga_233 (by omega) X hP d_Mo_serial_20 ?_
    rw [D2]
    refine lv_aload_n X.1 X.2.1 d_Mo_serial_21 rfl (lv_at hl 2 rfl) ?_
    refine gg_Mo_35 X hP d_Mo_serial_22 ?_
    refine lv_iload_n X.1 X.2.1 d_Mo_serial_25 rfl (lv_at hl 1 rfl) ?_
    refine ga_233 (by omega) X hP d_Mo_serial_26 ?_
    rw [D1]
    refine gx_icmp_le X.1 X.2.1 (tgt := 35) d_Mo_serial_27 (by decide) (by omega) (by omega) (fun h27_11 => ?_) (fun h27_11 => ?_)
    · skip
      refine lv_iload_n X.1 X.2.1 d_Mo_serial_35 rfl (lv_at hl 1 rfl) ?_
      refine lv_istore_n X.1 X.2.1 d_Mo_serial_36 rfl hl (by decide) rfl (fun ls hl => ?_)
      have hl : lv_has ls 10 [(3, .int (nI 10)), (4, .int (nI 11)), (0, .ref (ad 224)), (1, .int (nI t)), (2, .int (nI i))] := hl
      refine lv_iinc (k := 1) (v := nI (12)) X.1 X.2.1 d_Mo_serial_37 hl rfl (by decide) (by decide) rfl (fun ls hl => ?_)
      have hl : lv_has ls 10 [(4, .int (nI 12)), (3, .int (nI 10)), (0, .ref (ad 224)), (1, .int (nI t)), (2, .int (nI i))] := hl
      refine lv_goto (tgt := 7) X.1 X.2.1 d_Mo_serial_40 (by decide) ?_
      refine lv_iload X.1 X.2.1 d_Mo_serial_7 (lv_at hl 0 rfl) ?_
      refine lv_bipush (v := nI 12) X.1 X.2.1 d_Mo_serial_9 (by decide) ?_
      refine gx_icmp_ge X.1 X.2.1 (tgt := 43) d_Mo_serial_11 (by decide) (by omega) (by omega) (fun h11 => ?_) (fun h11 => absurd h11 (by decide))
      refine lv_iconst (v := nI 0) X.1 X.2.1 d_Mo_serial_43 (by decide) ?_
      refine lv_istore X.1 X.2.1 d_Mo_serial_44 hl (by decide) rfl (fun ls hl => ?_)
      have hl : lv_has ls 10 [(4, .int (nI 0)), (3, .int (nI 10)), (0, .ref (ad 224)), (1, .int (nI t)), (2, .int (nI i))] := hl
      have e : b = 1 := by
        rw [hb]
        clear hP hS hl X S hr hlk hK hN lpa lpb lpm
        unfold ab_long
        grind
      subst e
      exact lpa 21 0 σ rfl (mC_rfl _) (fun x hx2 => absurd hx2 (Nat.not_lt_zero _)) _ _ ls hP hS (lv_sub hl [0, 1, 2, 3, 4] rfl)
    · skip
      refine lv_iload X.1 X.2.1 d_Mo_serial_30 (lv_at hl 0 rfl) ?_
      refine lv_goto (tgt := 36) X.1 X.2.1 d_Mo_serial_32 (by decide) ?_
      refine lv_istore_n X.1 X.2.1 d_Mo_serial_36 rfl hl (by decide) rfl (fun ls hl => ?_)
      have hl : lv_has ls 10 [(3, .int (nI 11)), (4, .int (nI 11)), (0, .ref (ad 224)), (1, .int (nI t)), (2, .int (nI i))] := hl
      refine lv_iinc (k := 1) (v := nI (12)) X.1 X.2.1 d_Mo_serial_37 hl rfl (by decide) (by decide) rfl (fun ls hl => ?_)
      have hl : lv_has ls 10 [(4, .int (nI 12)), (3, .int (nI 11)), (0, .ref (ad 224)), (1, .int (nI t)), (2, .int (nI i))] := hl
      refine lv_goto (tgt := 7) X.1 X.2.1 d_Mo_serial_40 (by decide) ?_
      refine lv_iload X.1 X.2.1 d_Mo_serial_7 (lv_at hl 0 rfl) ?_
      refine lv_bipush (v := nI 12) X.1 X.2.1 d_Mo_serial_9 (by decide) ?_
      refine gx_icmp_ge X.1 X.2.1 (tgt := 43) d_Mo_serial_11 (by decide) (by omega) (by omega) (fun h11 => ?_) (fun h11 => absurd h11 (by decide))
      refine lv_iconst (v := nI 0) X.1 X.2.1 d_Mo_serial_43 (by decide) ?_
      refine lv_istore X.1 X.2.1 d_Mo_serial_44 hl (by decide) rfl (fun ls hl => ?_)
      have hl : lv_has ls 10 [(4, .int (nI 0)), (3, .int (nI 11)), (0, .ref (ad 224)), (1, .int (nI t)), (2, .int (nI i))] := hl
      have e : b = 2 := by
        rw [hb]
        clear hP hS hl X S hr hlk hK hN lpa lpb lpm
        unfold ab_long
        grind
      subst e
      exact lpa 21 0 σ rfl (mC_rfl _) (fun x hx2 => absurd hx2 (Nat.not_lt_zero _)) _ _ ls hP hS (lv_sub hl [0, 1, 2, 3, 4] rfl)
set_option maxRecDepth 100000 in
set_option maxHeartbeats 4000000 in
theorem K_Mo_result (l : Launch) (dC : Nat → ClassId) (dI : Nat → Nat → Nat) (cx : Nat → ClassId) (ad : Nat → Nat) (hJ : gx_J gx_N ad (gx_A gx_N ad)) (σ : gx_M) (a : ab_S) (B : Nat) (tq iq : Int32) (I : ab_I B a) (hB : B + 3 < 2 ^ 30) (hx : mr σ a) : cg_Ml l dC dI cx ad y_Mo_result w_Mo_result 2 [.ref (ad 224), .int tq, .int iq] σ (fun r σ' => mC σ σ' ∧ r = ab_res a tq.toInt iq.toInt) := by
  refine gx_ofW (cc := c_Mo_result) (maxL := 4) (ret := (Option.some Jvm.ClassFile.FieldType.long)) (by decide) rfl (Nat.le_of_ble_eq_true rfl) ?_
  intro p e s m below meth c ls S hr hlk hK hN hl hP
  have X : cg_X c_Mo_result "CommitGroupsModel" 4 dC dI cx p m c s _ := ⟨S.1, S.2.1, S.2.2.2.1, fun w h => S.2.2.2.2 w (List.mem_cons_of_mem _ h), hK, hN, S.2.2.1⟩
  have hS : va_S (gx_A gx_N ad) s.heap s.heap [] := va_S.rf
  have hl : lv_has ls 4 [(0, .ref (ad 224)), (1, .int tq), (2, .int iq)] := hl
  have hw := ab_W_of I (by omega)
  have hn : σ 224 0 = ab_n a := hx.1
  have hn20 := hw.1
  have hv := ab_V_of I
  refine lv_iload_n X.1 X.2.1 d_Mo_result_0 rfl (lv_at hl 1 rfl) ?_
  refine lv_iconst (v := nI 1) X.1 X.2.1 d_Mo_result_1 (by decide) ?_
  refine lv_aload_n X.1 X.2.1 d_Mo_result_2 rfl (lv_at hl 0 rfl) ?_
  refine gg_Mo_59 X hP d_Mo_result_3 ?_
  rw [hn]
  refine cv_Mo_63 (rest := []) X hJ hP hS (K_Mo_in l dC dI cx ad hJ _ tq 1 (ab_n a) (by omega) (by omega)) rfl rfl (by decide) hl.1 (Nat.le_of_ble_eq_true rfl) ⟨Nat.le_refl _, Nat.le_refl _⟩ d_Mo_result_6 (fun r σ' H locs hq hP hS => ?_)
  obtain ⟨hq0, b6, rfl, hb6, hp6⟩ := hq
  rw [hq0] at hP
  refine gx_if_eq X.1 X.2.1 (tgt := 26) d_Mo_result_9 (by decide) (by omega) (fun h9 => ?_) (fun h9 => ?_)
  · skip
    refine lv_ldc2 (v := 1099511627776) X.1 X.2.1 X.2.2.1 (X.2.2.2.1 _ (gU_mem (List.mem_append_right _ (List.mem_append_right _ (List.mem_append_right _ (List.mem_of_getElem? (i := 149) rfl)))) rfl)) d_Mo_result_26 ?_
    refine gx_lret X.1 X.2.1 hr hlk hP hS d_Mo_result_29 ?_
    refine ⟨mC_rfl _, ?_⟩
    unfold ab_res
    rw [if_neg (fun hh => ?_)]
    have := hp6.mpr ⟨hh.1.1, hh.1.2⟩; omega
  · skip
    have hh6 := hp6.mp (by omega)
    obtain ⟨u, rfl, u1, u2, u3⟩ := gi_of (t := tq) (n := ab_n a) (by omega) (by omega)
    have hl4 := (hw.2.1 u).1
    obtain ⟨t1, t2, t3⟩ := hx.2.1 u (by omega)
    refine lv_iload_n X.1 X.2.1 d_Mo_result_12 rfl (lv_at hl 2 rfl) ?_
    refine lv_if_lt X.1 X.2.1 (tgt := 26) d_Mo_result_13 (by decide) (fun h13 => ?_) (fun h13 => ?_)
    · skip
      refine lv_ldc2 (v := 1099511627776) X.1 X.2.1 X.2.2.1 (X.2.2.2.1 _ (gU_mem (List.mem_append_right _ (List.mem_append_right _ (List.mem_append_right _ (List.mem_of_getElem? (i := 149) rfl)))) rfl)) d_Mo_result_26 ?_
      refine gx_lret X.1 X.2.1 hr hlk hP hS d_Mo_result_29 ?_
      have h13 := gi_lt0.mp h13
      refine ⟨mC_rfl _, ?_⟩
      unfold ab_res
      rw [if_neg (fun hh => ?_)]
      have := hh.2.1; omega
    · skip
      refine lv_iload_n X.1 X.2.1 d_Mo_result_16 rfl (lv_at hl 2 rfl) ?_
      refine lv_aload_n X.1 X.2.1 d_Mo_result_17 rfl (lv_at hl 0 rfl) ?_
      refine gg_Mo_7 X hP d_Mo_result_18 ?_
      refine lv_iload_n X.1 X.2.1 d_Mo_result_21 rfl (lv_at hl 1 rfl) ?_
      refine ga_225 (by omega) X hP d_Mo_result_22 ?_
      rw [t1]
      refine lv_icmp_lt X.1 X.2.1 (tgt := 30) d_Mo_result_23 (by decide) (fun h23 => ?_) (fun h23 => ?_)
      · skip
        have h13 := mt gi_lt0.mpr h13
        have h23 := (gi_ltn (by omega)).mp h23
        obtain ⟨i, rfl, i1, i2, i3⟩ := gi_of (t := iq) (n := 3) (by omega) (by omega)
        obtain ⟨o, ho⟩ : ∃ o, (ab_op a u)[i]? = some o := ⟨(ab_op a u)[i], List.getElem?_eq_getElem (by omega)⟩
        have esh : pu_sh (ab_op a u) i = o.2.1 % 3 := pd_sh ho
        have y2 := (hw.2.1 u).2 o (List.mem_of_getElem? ho)
        have k1 := ab_kd_le I u
        have k2 := ab_kv_le I (t := u) (s := o.2.1 % 3) (Nat.mod_lt _ (by decide))
        refine lv_aload_n X.1 X.2.1 d_Mo_result_30 rfl (lv_at hl 0 rfl) ?_
        refine gg_Mo_20 X hP d_Mo_result_31 ?_
        refine lv_iconst (v := nI 4) X.1 X.2.1 d_Mo_result_34 (by decide) ?_
        refine lv_iload_n X.1 X.2.1 d_Mo_result_35 rfl (lv_at hl 1 rfl) ?_
        refine gx_imul X.1 X.2.1 d_Mo_result_36 ?_
        refine lv_iload_n X.1 X.2.1 d_Mo_result_37 rfl (lv_at hl 2 rfl) ?_
        refine gx_iadd X.1 X.2.1 d_Mo_result_38 ?_
        refine ga_228 (by omega) X hP d_Mo_result_39 ?_
        rw [(t3 i o ho).2.1]
        refine lv_iconst (v := nI 3) X.1 X.2.1 d_Mo_result_40 (by decide) ?_
        refine gx_irem X.1 X.2.1 d_Mo_result_41 (by omega) (by decide) (by decide) ?_
        refine lv_istore_n X.1 X.2.1 d_Mo_result_42 rfl hl (by decide) rfl (fun ls hl => ?_)
        have hl : lv_has ls 4 [(3, .int (nI (o.2.1 % 3))), (0, .ref (ad 224)), (1, .int (nI u)), (2, .int (nI i))] := hl
        refine lv_aload_n X.1 X.2.1 d_Mo_result_43 rfl (lv_at hl 1 rfl) ?_
        refine gg_Mo_44 X hP d_Mo_result_44 ?_
        refine lv_iload_n X.1 X.2.1 d_Mo_result_47 rfl (lv_at hl 2 rfl) ?_
        refine ga_236 (by omega) X hP d_Mo_result_48 ?_
        rw [hx.2.2.2.2.2 u (by omega)]
        refine lv_iconst (v := nI 1) X.1 X.2.1 d_Mo_result_49 (by decide) ?_
        refine gx_icmp_ne X.1 X.2.1 (tgt := 76) d_Mo_result_50 (by decide) (by omega) (by omega) (fun h50 => ?_) (fun h50 => ?_)
        · skip
          refine lv_ldc2 (v := 1099511627776) X.1 X.2.1 X.2.2.1 (X.2.2.2.1 _ (gU_mem (List.mem_append_right _ (List.mem_append_right _ (List.mem_append_right _ (List.mem_of_getElem? (i := 149) rfl)))) rfl)) d_Mo_result_76 ?_
          refine gx_lret X.1 X.2.1 hr hlk hP hS d_Mo_result_79 ?_
          refine ⟨mC_rfl _, ?_⟩
          unfold ab_res
          rw [if_neg (fun hh => ?_)]
          have := hh.2.2.2.1
          rw [u3] at this; exact h50 this
        · skip
          refine lv_aload_n X.1 X.2.1 d_Mo_result_53 rfl (lv_at hl 1 rfl) ?_
          refine gg_Mo_41 X hP d_Mo_result_54 ?_
          refine lv_iconst (v := nI 3) X.1 X.2.1 d_Mo_result_57 (by decide) ?_
          refine lv_iload_n X.1 X.2.1 d_Mo_result_58 rfl (lv_at hl 2 rfl) ?_
          refine gx_imul X.1 X.2.1 d_Mo_result_59 ?_
          refine lv_iload_n X.1 X.2.1 d_Mo_result_60 rfl (lv_at hl 0 rfl) ?_
          refine gx_iadd X.1 X.2.1 d_Mo_result_61 ?_
          refine ga_235 (by omega) X hP d_Mo_result_62 ?_
          rw [hx.2.2.2.2.1 u (o.2.1 % 3) (by omega) (Nat.mod_lt _ (by decide))]
          refine lv_iconst (v := nI 1) X.1 X.2.1 d_Mo_result_63 (by decide) ?_
          refine gx_icmp_ne X.1 X.2.1 (tgt := 76) d_Mo_result_64 (by decide) (by omega) (by omega) (fun h64 => ?_) (fun h64 => ?_)
          · skip
            refine lv_ldc2 (v := 1099511627776) X.1 X.2.1 X.2.2.1 (X.2.2.2.1 _ (gU_mem (List.mem_append_right _ (List.mem_append_right _ (List.mem_append_right _ (List.mem_of_getElem? (i := 149) rfl)))) rfl)) d_Mo_result_76 ?_
            refine gx_lret X.1 X.2.1 hr hlk hP hS d_Mo_result_79 ?_
            refine ⟨mC_rfl _, ?_⟩
            unfold ab_res
            rw [if_neg (fun hh => ?_)]
            have := hh.2.2.2.2
            rw [u3, i3, esh] at this; exact h64 this
          · skip
            refine lv_aload_n X.1 X.2.1 d_Mo_result_67 rfl (lv_at hl 1 rfl) ?_
            refine lv_iload_n X.1 X.2.1 d_Mo_result_68 rfl (lv_at hl 2 rfl) ?_
            refine lv_iload_n X.1 X.2.1 d_Mo_result_69 rfl (lv_at hl 3 rfl) ?_
            refine cv_Mo_129 (rest := []) X hJ hP hS (by decide) (ec_Mo_0 _) (K_Mo_serial l dC dI cx ad hJ _ a u i hx hw hv (by omega) (by omega)) rfl rfl (by decide) hl.1 (Nat.le_of_ble_eq_true rfl) ⟨Nat.le_refl _, Nat.le_refl _⟩ d_Mo_result_70 (fun r σ' H locs hq hP hS => ?_)
            obtain ⟨hq1, hq2⟩ := hq
            refine lv_goto (tgt := 79) X.1 X.2.1 d_Mo_result_73 (by decide) ?_
            refine gx_lret X.1 X.2.1 hr hlk hP hS d_Mo_result_79 ?_
            refine ⟨hq1, ?_⟩
            rw [hq2]
            unfold ab_res zF
            rw [ab_result1 I h50, if_pos rfl, if_pos ⟨⟨by omega, by omega⟩, by omega, by rw [u3]; omega, by rw [u3]; exact h50, by rw [u3, i3, esh]; exact h64⟩, u3, i3, ab_result I (s := o.2.1 % 3) (Nat.mod_lt _ (by decide)) esh h50 h64]
      · skip
        refine lv_ldc2 (v := 1099511627776) X.1 X.2.1 X.2.2.1 (X.2.2.2.1 _ (gU_mem (List.mem_append_right _ (List.mem_append_right _ (List.mem_append_right _ (List.mem_of_getElem? (i := 149) rfl)))) rfl)) d_Mo_result_26 ?_
        refine gx_lret X.1 X.2.1 hr hlk hP hS d_Mo_result_29 ?_
        have h23 := mt (gi_ltn (by omega)).mpr h23
        refine ⟨mC_rfl _, ?_⟩
        unfold ab_res
        rw [if_neg (fun hh => ?_)]
        have := hh.2.2.1
        rw [u3] at this; omega
