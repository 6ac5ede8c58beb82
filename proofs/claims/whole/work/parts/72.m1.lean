/-! contracts: the reference, its small methods -/
set_option maxRecDepth 100000 in
set_option maxHeartbeats 4000000 in
theorem K_Mo_in (l : Launch) (dC : Nat → ClassId) (dI : Nat → Nat → Nat) (cx : Nat → ClassId) (ad : Nat → Nat) (hJ : gx_J gx_N ad (gx_A gx_N ad)) (σ : gx_M) (v : Int32) (lo hi : Nat) (h1 : lo < 2 ^ 31) (h2 : hi < 2 ^ 31) : cg_Mi l dC dI cx ad y_Mo_in w_Mo_in 0 [.int v, .int (nI lo), .int (nI hi)] σ (fun r σ' => σ' = σ ∧ gx_bo ((lo : Int) ≤ v.toInt ∧ v.toInt ≤ hi) r) := by
  refine gx_ofW (cc := c_Mo_in) (maxL := 3) (ret := (Option.some Jvm.ClassFile.FieldType.boolean)) (by decide) rfl (Nat.le_of_ble_eq_true rfl) ?_
  intro p e s m below meth c ls S hr hlk hK hN hl hP
  have X : cg_X c_Mo_in "CommitGroupsModel" 3 dC dI cx p m c s _ := ⟨S.1, S.2.1, S.2.2.2.1, fun w h => S.2.2.2.2 w (List.mem_cons_of_mem _ h), hK, hN, S.2.2.1⟩
  have hS : va_S (gx_A gx_N ad) s.heap s.heap [] := va_S.rf
  have hl : lv_has ls 3 [(0, .int v), (1, .int (nI lo)), (2, .int (nI hi))] := hl
  refine lv_iload_n X.1 X.2.1 d_Mo_in_0 rfl (lv_at hl 0 rfl) ?_
  refine lv_iload_n X.1 X.2.1 d_Mo_in_1 rfl (lv_at hl 1 rfl) ?_
  refine lv_icmp_lt X.1 X.2.1 (tgt := 14) d_Mo_in_2 (by decide) (fun g2 => ?_) (fun g2 => ?_)
  · skip
    refine lv_iconst (v := nI 0) X.1 X.2.1 d_Mo_in_14 (by decide) ?_
    refine gx_zret X.1 X.2.1 hr hlk hP hS d_Mo_in_15 (by decide) ?_
    have g2 := (gi_ltn h1).mp g2
    exact ⟨rfl, gx_bo0 (by omega)⟩
  · skip
    refine lv_iload_n X.1 X.2.1 d_Mo_in_5 rfl (lv_at hl 0 rfl) ?_
    refine lv_iload_n X.1 X.2.1 d_Mo_in_6 rfl (lv_at hl 2 rfl) ?_
    refine lv_icmp_gt X.1 X.2.1 (tgt := 14) d_Mo_in_7 (by decide) (fun g7 => ?_) (fun g7 => ?_)
    · skip
      refine lv_iconst (v := nI 0) X.1 X.2.1 d_Mo_in_14 (by decide) ?_
      refine gx_zret X.1 X.2.1 hr hlk hP hS d_Mo_in_15 (by decide) ?_
      have g7 := (gi_nlt h2).mp g7
      exact ⟨rfl, gx_bo0 (by omega)⟩
    · skip
      refine lv_iconst (v := nI 1) X.1 X.2.1 d_Mo_in_10 (by decide) ?_
      refine lv_goto (tgt := 15) X.1 X.2.1 d_Mo_in_11 (by decide) ?_
      refine gx_zret X.1 X.2.1 hr hlk hP hS d_Mo_in_15 (by decide) ?_
      have g2 := mt (gi_ltn h1).mpr g2
      have g7 := mt (gi_nlt h2).mpr g7
      exact ⟨rfl, gx_bo1 (by omega)⟩
set_option maxRecDepth 100000 in
set_option maxHeartbeats 4000000 in
theorem K_Mo_opn (l : Launch) (dC : Nat → ClassId) (dI : Nat → Nat → Nat) (cx : Nat → ClassId) (ad : Nat → Nat) (hJ : gx_J gx_N ad (gx_A gx_N ad)) (σ : gx_M) (a : ab_S) (B : Nat) (I : ab_I B a) (hB : B + 3 < 2 ^ 30) (hx : mr σ a) : cg_Mi l dC dI cx ad y_Mo_opn w_Mo_opn 0 [.ref (ad 224)] σ (fun r σ' => r = Int32.ofInt (ab_open a).1 ∧ mr σ' (ab_open a).2 ∧ ∀ n, n < 224 → σ' n = σ n) := by
  refine gx_ofW (cc := c_Mo_opn) (maxL := 1) (ret := (Option.some Jvm.ClassFile.FieldType.int)) (by decide) rfl (Nat.le_of_ble_eq_true rfl) ?_
  intro p e s m below meth c ls S hr hlk hK hN hl hP
  have X : cg_X c_Mo_opn "CommitGroupsModel" 1 dC dI cx p m c s _ := ⟨S.1, S.2.1, S.2.2.2.1, fun w h => S.2.2.2.2 w (List.mem_cons_of_mem _ h), hK, hN, S.2.2.1⟩
  have hS : va_S (gx_A gx_N ad) s.heap s.heap [] := va_S.rf
  have hl : lv_has ls 1 [(0, .ref (ad 224))] := hl
  have hw := ab_W_of I (by omega)
  have hn : σ 224 0 = ab_n a := hx.1
  have hn20 := hw.1
  refine lv_aload_n X.1 X.2.1 d_Mo_opn_0 rfl (lv_at hl 0 rfl) ?_
  refine gg_Mo_59 X hP d_Mo_opn_1 ?_
  rw [hn]
  refine lv_bipush (v := nI 20) X.1 X.2.1 d_Mo_opn_4 (by decide) ?_
  refine gx_icmp_lt X.1 X.2.1 (tgt := 11) d_Mo_opn_6 (by decide) (by omega) (by omega) (fun h6 => ?_) (fun h6 => ?_)
  · skip
    refine lv_aload_n X.1 X.2.1 d_Mo_opn_11 rfl (lv_at hl 0 rfl) ?_
    refine lv_dup X.1 X.2.1 d_Mo_opn_12 rfl ?_
    refine gg_Mo_59 X hP d_Mo_opn_13 ?_
    rw [hn]
    refine lv_iconst (v := nI 1) X.1 X.2.1 d_Mo_opn_16 (by decide) ?_
    refine gx_iadd X.1 X.2.1 d_Mo_opn_17 ?_
    refine gp_Mo_59 X hJ hP hS d_Mo_opn_18 (fun H locs hP hS => ?_)
    refine lv_aload_n X.1 X.2.1 d_Mo_opn_21 rfl (lv_at hl 0 rfl) ?_
    refine gg_Mo_59 X hP d_Mo_opn_22 ?_
    rw [gx_w_self]
    refine gx_iret X.1 X.2.1 hr hlk hP hS d_Mo_opn_25 ?_
    have e : ab_open a = (((ab_n a + 1 : Nat) : Int), ab_mk (ab_n a + 1) (ab_op a) (ab_cl a) (ab_up a) (ab_vi a) (ab_lg a) (ab_dn a) (ab_ha a) (ab_kv a) (ab_kd a) (ab_rs a)) := by unfold ab_open; exact if_neg (by omega)
    rw [e]
    exact ⟨rfl, mr_opn hx _, fun n hn => gx_w_row _ _ _ (by omega)⟩
  · skip
    refine lv_iconst (v := -1) X.1 X.2.1 d_Mo_opn_9 (by decide) ?_
    refine gx_iret X.1 X.2.1 hr hlk hP hS d_Mo_opn_10 ?_
    have e : ab_open a = (-1, a) := by unfold ab_open; exact if_pos (by omega)
    rw [e]
    exact ⟨rfl, hx, fun n _ => rfl⟩
set_option maxRecDepth 100000 in
set_option maxHeartbeats 4000000 in
theorem K_Mo_touch (l : Launch) (dC : Nat → ClassId) (dI : Nat → Nat → Nat) (cx : Nat → ClassId) (ad : Nat → Nat) (hJ : gx_J gx_N ad (gx_A gx_N ad)) (σ : gx_M) (a : ab_S) (B : Nat) (tq kq yq : Int32) (v : Nat) (I : ab_I B a) (hB : B + 3 < 2 ^ 30) (hx : mr σ a) : cg_Mi l dC dI cx ad y_Mo_touch w_Mo_touch 1 [.ref (ad 224), .int tq, .int kq, .int yq, .int (nI v)] σ (fun r σ' => r = nI (xb (ab_touch a tq.toInt kq.toInt yq.toInt v).1) ∧ mr σ' (ab_touch a tq.toInt kq.toInt yq.toInt v).2 ∧ ∀ n, n < 224 → σ' n = σ n) := by
  refine gx_ofW (cc := c_Mo_touch) (maxL := 6) (ret := (Option.some Jvm.ClassFile.FieldType.boolean)) (by decide) rfl (Nat.le_of_ble_eq_true rfl) ?_
  intro p e s m below meth c ls S hr hlk hK hN hl hP
  have X : cg_X c_Mo_touch "CommitGroupsModel" 6 dC dI cx p m c s _ := ⟨S.1, S.2.1, S.2.2.2.1, fun w h => S.2.2.2.2 w (List.mem_cons_of_mem _ h), hK, hN, S.2.2.1⟩
  have hS : va_S (gx_A gx_N ad) s.heap s.heap [] := va_S.rf
  have hl : lv_has ls 6 [(0, .ref (ad 224)), (1, .int tq), (2, .int kq), (3, .int yq), (4, .int (nI v))] := hl
  have hw := ab_W_of I (by omega)
  have hn : σ 224 0 = ab_n a := hx.1
  have hn20 := hw.1
  refine lv_iload_n X.1 X.2.1 d_Mo_touch_0 rfl (lv_at hl 1 rfl) ?_
  refine lv_iconst (v := nI 1) X.1 X.2.1 d_Mo_touch_1 (by decide) ?_
  refine lv_aload_n X.1 X.2.1 d_Mo_touch_2 rfl (lv_at hl 0 rfl) ?_
  refine gg_Mo_59 X hP d_Mo_touch_3 ?_
  rw [hn]
  refine cv_Mo_63 (rest := []) X hJ hP hS (K_Mo_in l dC dI cx ad hJ _ tq 1 (ab_n a) (by omega) (by omega)) rfl rfl (by decide) hl.1 (Nat.le_of_ble_eq_true rfl) ⟨Nat.le_refl _, Nat.le_refl _⟩ d_Mo_touch_6 (fun r σ' H locs hq hP hS => ?_)
  obtain ⟨hq0, b6, rfl, hb6, hp6⟩ := hq
  rw [hq0] at hP
  refine gx_if_eq X.1 X.2.1 (tgt := 31) d_Mo_touch_9 (by decide) (by omega) (fun h9 => ?_) (fun h9 => ?_)
  · skip
    refine lv_iconst (v := nI 0) X.1 X.2.1 d_Mo_touch_31 (by decide) ?_
    refine gx_zret X.1 X.2.1 hr hlk hP hS d_Mo_touch_32 (by decide) ?_
    rw [ab_touch_f (fun hh => by have := hp6.mpr ⟨hh.1.1, hh.1.2⟩; omega)]
    exact ⟨rfl, hx, fun n _ => rfl⟩
  · skip
    refine lv_iload_n X.1 X.2.1 d_Mo_touch_12 rfl (lv_at hl 2 rfl) ?_
    refine lv_iconst (v := nI 0) X.1 X.2.1 d_Mo_touch_13 (by decide) ?_
    refine lv_iconst (v := nI 2) X.1 X.2.1 d_Mo_touch_14 (by decide) ?_
    refine cv_Mo_63 (rest := []) X hJ hP hS (K_Mo_in l dC dI cx ad hJ _ kq 0 2 (by omega) (by omega)) rfl rfl (by decide) hl.1 (Nat.le_of_ble_eq_true rfl) ⟨Nat.le_refl _, Nat.le_refl _⟩ d_Mo_touch_15 (fun r σ' H locs hq hP hS => ?_)
    obtain ⟨hq0, b15, rfl, hb15, hp15⟩ := hq
    rw [hq0] at hP
    refine gx_if_eq X.1 X.2.1 (tgt := 31) d_Mo_touch_18 (by decide) (by omega) (fun h18 => ?_) (fun h18 => ?_)
    · skip
      refine lv_iconst (v := nI 0) X.1 X.2.1 d_Mo_touch_31 (by decide) ?_
      refine gx_zret X.1 X.2.1 hr hlk hP hS d_Mo_touch_32 (by decide) ?_
      rw [ab_touch_f (fun hh => by have := hp15.mpr ⟨hh.2.1, hh.2.2.1⟩; omega)]
      exact ⟨rfl, hx, fun n _ => rfl⟩
    · skip
      refine lv_iload_n X.1 X.2.1 d_Mo_touch_21 rfl (lv_at hl 3 rfl) ?_
      refine lv_iconst (v := nI 0) X.1 X.2.1 d_Mo_touch_22 (by decide) ?_
      refine lv_bipush (v := nI 11) X.1 X.2.1 d_Mo_touch_23 (by decide) ?_
      refine cv_Mo_63 (rest := []) X hJ hP hS (K_Mo_in l dC dI cx ad hJ _ yq 0 11 (by omega) (by omega)) rfl rfl (by decide) hl.1 (Nat.le_of_ble_eq_true rfl) ⟨Nat.le_refl _, Nat.le_refl _⟩ d_Mo_touch_25 (fun r σ' H locs hq hP hS => ?_)
      obtain ⟨hq0, b25, rfl, hb25, hp25⟩ := hq
      rw [hq0] at hP
      refine gx_if_ne X.1 X.2.1 (tgt := 33) d_Mo_touch_28 (by decide) (by omega) (fun h28 => ?_) (fun h28 => ?_)
      · skip
        have hh6 := hp6.mp (by omega)
        have hh15 := hp15.mp (by omega)
        have hh25 := hp25.mp (by omega)
        obtain ⟨u, rfl, u1, u2, u3⟩ := gi_of (t := tq) (n := ab_n a) (by omega) (by omega)
        obtain ⟨k, rfl, k1, k2, k3⟩ := gi_of (t := kq) (n := 2) (by omega) (by omega)
        obtain ⟨y, rfl, y1, y2, y3⟩ := gi_of (t := yq) (n := 11) (by omega) (by omega)
        obtain ⟨t1, t2, t3⟩ := hx.2.1 u (by omega)
        have hxb := xb_le (ab_cl a u)
        have hl4 := (hw.2.1 u).1
        refine lv_aload_n X.1 X.2.1 d_Mo_touch_33 rfl (lv_at hl 0 rfl) ?_
        refine gg_Mo_13 X hP d_Mo_touch_34 ?_
        refine lv_iload_n X.1 X.2.1 d_Mo_touch_37 rfl (lv_at hl 1 rfl) ?_
        refine ga_226 (by omega) X hP d_Mo_touch_38 ?_
        rw [t2]
        refine gx_if_ne X.1 X.2.1 (tgt := 52) d_Mo_touch_39 (by decide) (by omega) (fun h39 => ?_) (fun h39 => ?_)
        · skip
          refine lv_iconst (v := nI 0) X.1 X.2.1 d_Mo_touch_52 (by decide) ?_
          refine gx_zret X.1 X.2.1 hr hlk hP hS d_Mo_touch_53 (by decide) ?_
          rw [ab_touch_f (fun hh => by rw [u3] at hh; rw [hh.2.2.2.2.2.1] at h39; exact h39 rfl)]
          exact ⟨rfl, hx, fun n _ => rfl⟩
        · skip
          refine lv_aload_n X.1 X.2.1 d_Mo_touch_42 rfl (lv_at hl 0 rfl) ?_
          refine gg_Mo_7 X hP d_Mo_touch_43 ?_
          refine lv_iload_n X.1 X.2.1 d_Mo_touch_46 rfl (lv_at hl 1 rfl) ?_
          refine ga_225 (by omega) X hP d_Mo_touch_47 ?_
          rw [t1]
          refine lv_iconst (v := nI 4) X.1 X.2.1 d_Mo_touch_48 (by decide) ?_
          refine gx_icmp_lt X.1 X.2.1 (tgt := 54) d_Mo_touch_49 (by decide) (by omega) (by omega) (fun h49 => ?_) (fun h49 => ?_)
          · skip
            refine lv_iconst (v := nI 4) X.1 X.2.1 d_Mo_touch_54 (by decide) ?_
            refine lv_iload_n X.1 X.2.1 d_Mo_touch_55 rfl (lv_at hl 1 rfl) ?_
            refine gx_imul X.1 X.2.1 d_Mo_touch_56 ?_
            refine lv_aload_n X.1 X.2.1 d_Mo_touch_57 rfl (lv_at hl 0 rfl) ?_
            refine gg_Mo_7 X hP d_Mo_touch_58 ?_
            refine lv_iload_n X.1 X.2.1 d_Mo_touch_61 rfl (lv_at hl 1 rfl) ?_
            refine ga_225 (by omega) X hP d_Mo_touch_62 ?_
            rw [t1]
            refine gx_iadd X.1 X.2.1 d_Mo_touch_63 ?_
            refine lv_istore X.1 X.2.1 d_Mo_touch_64 hl (by decide) rfl (fun ls hl => ?_)
            have hl : lv_has ls 6 [(5, .int (nI ((4 * u) + ((ab_op a u).length)))), (0, .ref (ad 224)), (1, .int (nI u)), (2, .int (nI k)), (3, .int (nI y)), (4, .int (nI v))] := hl
            refine lv_aload_n X.1 X.2.1 d_Mo_touch_66 rfl (lv_at hl 1 rfl) ?_
            refine gg_Mo_17 X hP d_Mo_touch_67 ?_
            refine lv_iload X.1 X.2.1 d_Mo_touch_70 (lv_at hl 0 rfl) ?_
            refine lv_iload_n X.1 X.2.1 d_Mo_touch_72 rfl (lv_at hl 3 rfl) ?_
            refine gs_227 (by omega) X hJ hP hS d_Mo_touch_73 (fun H locs hP hS => ?_)
            refine lv_aload_n X.1 X.2.1 d_Mo_touch_74 rfl (lv_at hl 1 rfl) ?_
            refine gg_Mo_20 X hP d_Mo_touch_75 ?_
            refine lv_iload X.1 X.2.1 d_Mo_touch_78 (lv_at hl 0 rfl) ?_
            refine lv_iload_n X.1 X.2.1 d_Mo_touch_80 rfl (lv_at hl 4 rfl) ?_
            refine gs_228 (by omega) X hJ hP hS d_Mo_touch_81 (fun H locs hP hS => ?_)
            refine lv_aload_n X.1 X.2.1 d_Mo_touch_82 rfl (lv_at hl 1 rfl) ?_
            refine gg_Mo_23 X hP d_Mo_touch_83 ?_
            refine lv_iload X.1 X.2.1 d_Mo_touch_86 (lv_at hl 0 rfl) ?_
            refine lv_iload X.1 X.2.1 d_Mo_touch_88 (lv_at hl 5 rfl) ?_
            refine gs_229 (by omega) X hJ hP hS d_Mo_touch_90 (fun H locs hP hS => ?_)
            refine lv_aload_n X.1 X.2.1 d_Mo_touch_91 rfl (lv_at hl 1 rfl) ?_
            refine gg_Mo_7 X hP d_Mo_touch_92 ?_
            refine lv_iload_n X.1 X.2.1 d_Mo_touch_95 rfl (lv_at hl 2 rfl) ?_
            refine lv_dup2_11 X.1 X.2.1 d_Mo_touch_96 rfl rfl ?_
            refine ga_225 (by omega) X hP d_Mo_touch_97 ?_
            rw [gx_w_row _ _ _ (show (225 : Nat) ≠ 229 by decide), gx_w_row _ _ _ (show (225 : Nat) ≠ 228 by decide), gx_w_row _ _ _ (show (225 : Nat) ≠ 227 by decide), t1]
            refine lv_iconst (v := nI 1) X.1 X.2.1 d_Mo_touch_98 (by decide) ?_
            refine gx_iadd X.1 X.2.1 d_Mo_touch_99 ?_
            refine gs_225 (by omega) X hJ hP hS d_Mo_touch_100 (fun H locs hP hS => ?_)
            refine lv_iconst (v := nI 1) X.1 X.2.1 d_Mo_touch_101 (by decide) ?_
            refine gx_zret X.1 X.2.1 hr hlk hP hS d_Mo_touch_102 (by decide) ?_
            have hcl : ab_cl a u = false := xb_zero.mp h39
            have hl4 : (ab_op a u).length < 4 := h49
            rw [ab_touch_t (by rw [u3]; exact ⟨⟨by omega, by omega⟩, by omega, by omega, by omega, by omega, hcl, hl4⟩), u3, k3, y3]
            refine ⟨rfl, mr_setop hx (by omega) hl4 hw, fun n hn => ?_⟩
            rw [gx_w_row _ _ _ (by omega), gx_w_row _ _ _ (by omega), gx_w_row _ _ _ (by omega), gx_w_row _ _ _ (by omega)]
          · skip
            refine lv_iconst (v := nI 0) X.1 X.2.1 d_Mo_touch_52 (by decide) ?_
            refine gx_zret X.1 X.2.1 hr hlk hP hS d_Mo_touch_53 (by decide) ?_
            rw [ab_touch_f (fun hh => by rw [u3] at hh; have := hh.2.2.2.2.2.2; omega)]
            exact ⟨rfl, hx, fun n _ => rfl⟩
      · skip
        refine lv_iconst (v := nI 0) X.1 X.2.1 d_Mo_touch_31 (by decide) ?_
        refine gx_zret X.1 X.2.1 hr hlk hP hS d_Mo_touch_32 (by decide) ?_
        rw [ab_touch_f (fun hh => by have := hp25.mpr ⟨hh.2.2.2.1, hh.2.2.2.2.1⟩; omega)]
        exact ⟨rfl, hx, fun n _ => rfl⟩
set_option maxRecDepth 100000 in
set_option maxHeartbeats 4000000 in
theorem K_Mo_touches (l : Launch) (dC : Nat → ClassId) (dI : Nat → Nat → Nat) (cx : Nat → ClassId) (ad : Nat → Nat) (hJ : gx_J gx_N ad (gx_A gx_N ad)) (σ : gx_M) (a : ab_S) (u sh : Nat) (hx : mr σ a) (hw : ab_W a) (hu : u < 21) (hsh : sh < 3) : cg_Mi l dC dI cx ad y_Mo_touches w_Mo_touches 0 [.ref (ad 224), .int (nI u), .int (nI sh)] σ (fun r σ' => σ' = σ ∧ gx_bo (ab_tc a u sh = true) r) := by
  refine gx_ofW (cc := c_Mo_touches) (maxL := 5) (ret := (Option.some Jvm.ClassFile.FieldType.boolean)) (by decide) rfl (Nat.le_of_ble_eq_true rfl) ?_
  intro p e s m below meth c ls S hr hlk hK hN hl hP
  have X : cg_X c_Mo_touches "CommitGroupsModel" 5 dC dI cx p m c s _ := ⟨S.1, S.2.1, S.2.2.2.1, fun w h => S.2.2.2.2 w (List.mem_cons_of_mem _ h), hK, hN, S.2.2.1⟩
  have hS : va_S (gx_A gx_N ad) s.heap s.heap [] := va_S.rf
  have hl : lv_has ls 5 [(0, .ref (ad 224)), (1, .int (nI u)), (2, .int (nI sh))] := hl
  obtain ⟨t1, t2, t3⟩ := hx.2.1 u hu
  have hl4 := (hw.2.1 u).1
  have lp : ∀ (k : Nat) (i b : Nat), i + k = (ab_op a u).length → b ≤ 1 → (b = 1 ↔ (((ab_op a u).take i).any fun o => o.2.1 % 3 == sh) = true) → ∀ (H : Heap) (locs : List Loc) (ls : Array Slot), cg_P dC dI cx ad σ H → va_S (gx_A gx_N ad) s.heap H locs → lv_has ls 5 [(4, .int (nI i)), (3, .int (nI b)), (0, .ref (ad 224)), (1, .int (nI u)), (2, .int (nI sh))] → W p l e (rmL 0) s m ([.ref (ad 224), .int (nI u), .int (nI sh)] : List Value).toArray below meth c H locs 0 0 (cg_Qi dC dI cx ad (fun r σ' => σ' = σ ∧ gx_bo (ab_tc a u sh = true) r) below [.ref (ad 224), .int (nI u), .int (nI sh)] s) (F0 m 5 ls []) := by
    intro k
    induction k with
    | zero =>
      intro i b hik hb hv H locs ls hP hS hl
      refine lv_iload X.1 X.2.1 d_Mo_touches_5 (lv_at hl 0 rfl) ?_
      refine lv_aload_n X.1 X.2.1 d_Mo_touches_7 rfl (lv_at hl 2 rfl) ?_
      refine gg_Mo_7 X hP d_Mo_touches_8 ?_
      refine lv_iload_n X.1 X.2.1 d_Mo_touches_11 rfl (lv_at hl 3 rfl) ?_
      refine ga_225 (by omega) X hP d_Mo_touches_12 ?_
      rw [t1]
      refine gx_icmp_ge X.1 X.2.1 (tgt := 49) d_Mo_touches_13 (by decide) (by omega) (by omega) (fun h13 => ?_) (fun h13 => absurd h13 (by omega))
      refine lv_iload_n X.1 X.2.1 d_Mo_touches_49 rfl (lv_at hl 1 rfl) ?_
      refine gx_zret X.1 X.2.1 hr hlk hP hS d_Mo_touches_50 (by rcases (show b = 0 ∨ b = 1 by omega) with z | z <;> rw [z] <;> decide) ?_
      refine ⟨rfl, b, rfl, hb, ?_⟩
      rw [hv]
      unfold ab_tc
      rw [List.take_of_length_le (by omega)]
    | succ k ih =>
      intro i b hik hb hv H locs ls hP hS hl
      refine lv_iload X.1 X.2.1 d_Mo_touches_5 (lv_at hl 0 rfl) ?_
      refine lv_aload_n X.1 X.2.1 d_Mo_touches_7 rfl (lv_at hl 2 rfl) ?_
      refine gg_Mo_7 X hP d_Mo_touches_8 ?_
      refine lv_iload_n X.1 X.2.1 d_Mo_touches_11 rfl (lv_at hl 3 rfl) ?_
      refine ga_225 (by omega) X hP d_Mo_touches_12 ?_
      rw [t1]
      refine gx_icmp_ge X.1 X.2.1 (tgt := 49) d_Mo_touches_13 (by decide) (by omega) (by omega) (fun h13 => absurd h13 (by omega)) (fun h13 => ?_)
      obtain ⟨o, ho⟩ : ∃ o, (ab_op a u)[i]? = some o := ⟨(ab_op a u)[i], List.getElem?_eq_getElem (by omega)⟩
      obtain ⟨x1, x2, x3⟩ := t3 i o ho
      have yb := (hw.2.1 u).2 o (List.mem_of_getElem? ho)
      refine lv_iload_n X.1 X.2.1 d_Mo_touches_16 rfl (lv_at hl 1 rfl) ?_
      refine gx_if_ne X.1 X.2.1 (tgt := 37) d_Mo_touches_17 (by decide) (by omega) (fun h17 => ?_) (fun h17 => ?_)
      · skip
        refine lv_iconst (v := nI 1) X.1 X.2.1 d_Mo_touches_37 (by decide) ?_
        refine lv_goto (tgt := 42) X.1 X.2.1 d_Mo_touches_38 (by decide) ?_
        refine lv_istore_n X.1 X.2.1 d_Mo_touches_42 rfl hl (by decide) rfl (fun ls hl => ?_)
        have hl : lv_has ls 5 [(3, .int (nI 1)), (4, .int (nI i)), (0, .ref (ad 224)), (1, .int (nI u)), (2, .int (nI sh))] := hl
        refine lv_iinc (k := 1) (v := nI (i + 1)) X.1 X.2.1 d_Mo_touches_43 hl rfl (nI_add _ _) (by decide) rfl (fun ls hl => ?_)
        have hl : lv_has ls 5 [(4, .int (nI (i + 1))), (3, .int (nI 1)), (0, .ref (ad 224)), (1, .int (nI u)), (2, .int (nI sh))] := hl
        refine lv_goto (tgt := 5) X.1 X.2.1 d_Mo_touches_46 (by decide) ?_
        refine ih (i + 1) _ (by omega) (by decide) ?_ H locs ls hP hS (lv_sub hl [0, 1, 2, 3, 4] rfl)
        rw [pu_take_succ ho, List.any_append, Bool.or_eq_true, ← hv]
        exact ⟨fun _ => Or.inl (by omega), fun _ => rfl⟩
      · skip
        refine lv_aload_n X.1 X.2.1 d_Mo_touches_20 rfl (lv_at hl 2 rfl) ?_
        refine gg_Mo_20 X hP d_Mo_touches_21 ?_
        refine lv_iconst (v := nI 4) X.1 X.2.1 d_Mo_touches_24 (by decide) ?_
        refine lv_iload_n X.1 X.2.1 d_Mo_touches_25 rfl (lv_at hl 3 rfl) ?_
        refine gx_imul X.1 X.2.1 d_Mo_touches_26 ?_
        refine lv_iload X.1 X.2.1 d_Mo_touches_27 (lv_at hl 0 rfl) ?_
        refine gx_iadd X.1 X.2.1 d_Mo_touches_29 ?_
        refine ga_228 (by omega) X hP d_Mo_touches_30 ?_
        rw [x2]
        refine lv_iconst (v := nI 3) X.1 X.2.1 d_Mo_touches_31 (by decide) ?_
        refine gx_irem X.1 X.2.1 d_Mo_touches_32 (by omega) (by decide) (by decide) ?_
        refine lv_iload_n X.1 X.2.1 d_Mo_touches_33 rfl (lv_at hl 4 rfl) ?_
        refine gx_icmp_ne X.1 X.2.1 (tgt := 41) d_Mo_touches_34 (by decide) (by omega) (by omega) (fun h34 => ?_) (fun h34 => ?_)
        · skip
          refine lv_iconst (v := nI 0) X.1 X.2.1 d_Mo_touches_41 (by decide) ?_
          refine lv_istore_n X.1 X.2.1 d_Mo_touches_42 rfl hl (by decide) rfl (fun ls hl => ?_)
          have hl : lv_has ls 5 [(3, .int (nI 0)), (4, .int (nI i)), (0, .ref (ad 224)), (1, .int (nI u)), (2, .int (nI sh))] := hl
          refine lv_iinc (k := 1) (v := nI (i + 1)) X.1 X.2.1 d_Mo_touches_43 hl rfl (nI_add _ _) (by decide) rfl (fun ls hl => ?_)
          have hl : lv_has ls 5 [(4, .int (nI (i + 1))), (3, .int (nI 0)), (0, .ref (ad 224)), (1, .int (nI u)), (2, .int (nI sh))] := hl
          refine lv_goto (tgt := 5) X.1 X.2.1 d_Mo_touches_46 (by decide) ?_
          refine ih (i + 1) _ (by omega) (by decide) ?_ H locs ls hP hS (lv_sub hl [0, 1, 2, 3, 4] rfl)
          rw [pu_take_succ ho, List.any_append, Bool.or_eq_true, ← hv]
          exact ⟨fun q => absurd q (by decide), fun q => by rcases q with q | q; omega; simp at q; exact absurd q h34⟩
        · skip
          refine lv_iconst (v := nI 1) X.1 X.2.1 d_Mo_touches_37 (by decide) ?_
          refine lv_goto (tgt := 42) X.1 X.2.1 d_Mo_touches_38 (by decide) ?_
          refine lv_istore_n X.1 X.2.1 d_Mo_touches_42 rfl hl (by decide) rfl (fun ls hl => ?_)
          have hl : lv_has ls 5 [(3, .int (nI 1)), (4, .int (nI i)), (0, .ref (ad 224)), (1, .int (nI u)), (2, .int (nI sh))] := hl
          refine lv_iinc (k := 1) (v := nI (i + 1)) X.1 X.2.1 d_Mo_touches_43 hl rfl (nI_add _ _) (by decide) rfl (fun ls hl => ?_)
          have hl : lv_has ls 5 [(4, .int (nI (i + 1))), (3, .int (nI 1)), (0, .ref (ad 224)), (1, .int (nI u)), (2, .int (nI sh))] := hl
          refine lv_goto (tgt := 5) X.1 X.2.1 d_Mo_touches_46 (by decide) ?_
          refine ih (i + 1) _ (by omega) (by decide) ?_ H locs ls hP hS (lv_sub hl [0, 1, 2, 3, 4] rfl)
          rw [pu_take_succ ho, List.any_append, Bool.or_eq_true, ← hv]
          exact ⟨fun _ => Or.inr (by simp [h34]), fun _ => rfl⟩
  refine lv_iconst (v := nI 0) X.1 X.2.1 d_Mo_touches_0 (by decide) ?_
  refine lv_istore_n X.1 X.2.1 d_Mo_touches_1 rfl hl (by decide) rfl (fun ls hl => ?_)
  have hl : lv_has ls 5 [(3, .int (nI 0)), (0, .ref (ad 224)), (1, .int (nI u)), (2, .int (nI sh))] := hl
  refine lv_iconst (v := nI 0) X.1 X.2.1 d_Mo_touches_2 (by decide) ?_
  refine lv_istore X.1 X.2.1 d_Mo_touches_3 hl (by decide) rfl (fun ls hl => ?_)
  have hl : lv_has ls 5 [(4, .int (nI 0)), (3, .int (nI 0)), (0, .ref (ad 224)), (1, .int (nI u)), (2, .int (nI sh))] := hl
  exact lp _ 0 0 (Nat.zero_add _) (by decide) (by simp) _ _ ls hP hS (lv_sub hl [0, 1, 2, 3, 4] rfl)
set_option maxRecDepth 100000 in
set_option maxHeartbeats 4000000 in
theorem K_Mo_needs (l : Launch) (dC : Nat → ClassId) (dI : Nat → Nat → Nat) (cx : Nat → ClassId) (ad : Nat → Nat) (hJ : gx_J gx_N ad (gx_A gx_N ad)) (σ : gx_M) (a : ab_S) (u y : Nat) (hx : mr σ a) (hw : ab_W a) (hu : u < 21) (hy : y < 12) : cg_Mi l dC dI cx ad y_Mo_needs w_Mo_needs 0 [.ref (ad 224), .int (nI u), .int (nI y)] σ (fun r σ' => σ' = σ ∧ r = nI (pu_need (ab_op a u) y)) := by
  refine gx_ofW (cc := c_Mo_needs) (maxL := 5) (ret := (Option.some Jvm.ClassFile.FieldType.int)) (by decide) rfl (Nat.le_of_ble_eq_true rfl) ?_
  intro p e s m below meth c ls S hr hlk hK hN hl hP
  have X : cg_X c_Mo_needs "CommitGroupsModel" 5 dC dI cx p m c s _ := ⟨S.1, S.2.1, S.2.2.2.1, fun w h => S.2.2.2.2 w (List.mem_cons_of_mem _ h), hK, hN, S.2.2.1⟩
  have hS : va_S (gx_A gx_N ad) s.heap s.heap [] := va_S.rf
  have hl : lv_has ls 5 [(0, .ref (ad 224)), (1, .int (nI u)), (2, .int (nI y))] := hl
  obtain ⟨t1, t2, t3⟩ := hx.2.1 u hu
  have hl4 := (hw.2.1 u).1
  have lp : ∀ (k : Nat) (i nd : Nat), i + k = (ab_op a u).length → nd = pu_need ((ab_op a u).take i) y → ∀ (H : Heap) (locs : List Loc) (ls : Array Slot), cg_P dC dI cx ad σ H → va_S (gx_A gx_N ad) s.heap H locs → lv_has ls 5 [(4, .int (nI i)), (3, .int (nI nd)), (0, .ref (ad 224)), (1, .int (nI u)), (2, .int (nI y))] → W p l e (rmL 0) s m ([.ref (ad 224), .int (nI u), .int (nI y)] : List Value).toArray below meth c H locs 0 0 (cg_Qi dC dI cx ad (fun r σ' => σ' = σ ∧ r = nI (pu_need (ab_op a u) y)) below [.ref (ad 224), .int (nI u), .int (nI y)] s) (F0 m 5 ls []) := by
    intro k
    induction k with
    | zero =>
      intro i nd hik hv H locs ls hP hS hl
      refine lv_iload X.1 X.2.1 d_Mo_needs_5 (lv_at hl 0 rfl) ?_
      refine lv_aload_n X.1 X.2.1 d_Mo_needs_7 rfl (lv_at hl 2 rfl) ?_
      refine gg_Mo_7 X hP d_Mo_needs_8 ?_
      refine lv_iload_n X.1 X.2.1 d_Mo_needs_11 rfl (lv_at hl 3 rfl) ?_
      refine ga_225 (by omega) X hP d_Mo_needs_12 ?_
      rw [t1]
      refine gx_icmp_ge X.1 X.2.1 (tgt := 62) d_Mo_needs_13 (by decide) (by omega) (by omega) (fun h13 => ?_) (fun h13 => absurd h13 (by omega))
      refine lv_iload_n X.1 X.2.1 d_Mo_needs_62 rfl (lv_at hl 1 rfl) ?_
      refine gx_iret X.1 X.2.1 hr hlk hP hS d_Mo_needs_63 ?_
      refine ⟨rfl, ?_⟩
      rw [hv, List.take_of_length_le (by omega)]
    | succ k ih =>
      intro i nd hik hv H locs ls hP hS hl
      refine lv_iload X.1 X.2.1 d_Mo_needs_5 (lv_at hl 0 rfl) ?_
      refine lv_aload_n X.1 X.2.1 d_Mo_needs_7 rfl (lv_at hl 2 rfl) ?_
      refine gg_Mo_7 X hP d_Mo_needs_8 ?_
      refine lv_iload_n X.1 X.2.1 d_Mo_needs_11 rfl (lv_at hl 3 rfl) ?_
      refine ga_225 (by omega) X hP d_Mo_needs_12 ?_
      rw [t1]
      refine gx_icmp_ge X.1 X.2.1 (tgt := 62) d_Mo_needs_13 (by decide) (by omega) (by omega) (fun h13 => absurd h13 (by omega)) (fun h13 => ?_)
      obtain ⟨o, ho⟩ : ∃ o, (ab_op a u)[i]? = some o := ⟨(ab_op a u)[i], List.getElem?_eq_getElem (by omega)⟩
      obtain ⟨x1, x2, x3⟩ := t3 i o ho
      have yb := (hw.2.1 u).2 o (List.mem_of_getElem? ho)
      have hnd : nd ≤ 2 := by rw [hv]; exact pu_need_le _ _
      refine lv_aload_n X.1 X.2.1 d_Mo_needs_16 rfl (lv_at hl 2 rfl) ?_
      refine gg_Mo_20 X hP d_Mo_needs_17 ?_
      refine lv_iconst (v := nI 4) X.1 X.2.1 d_Mo_needs_20 (by decide) ?_
      refine lv_iload_n X.1 X.2.1 d_Mo_needs_21 rfl (lv_at hl 3 rfl) ?_
      refine gx_imul X.1 X.2.1 d_Mo_needs_22 ?_
      refine lv_iload X.1 X.2.1 d_Mo_needs_23 (lv_at hl 0 rfl) ?_
      refine gx_iadd X.1 X.2.1 d_Mo_needs_25 ?_
      refine ga_228 (by omega) X hP d_Mo_needs_26 ?_
      rw [x2]
      refine lv_iload_n X.1 X.2.1 d_Mo_needs_27 rfl (lv_at hl 4 rfl) ?_
      refine gx_icmp_ne X.1 X.2.1 (tgt := 56) d_Mo_needs_28 (by decide) (by omega) (by omega) (fun h28 => ?_) (fun h28 => ?_)
      · skip
        refine lv_iinc (k := 0) (v := nI (i + 1)) X.1 X.2.1 d_Mo_needs_56 hl rfl (nI_add _ _) (by decide) rfl (fun ls hl => ?_)
        have hl : lv_has ls 5 [(4, .int (nI (i + 1))), (3, .int (nI nd)), (0, .ref (ad 224)), (1, .int (nI u)), (2, .int (nI y))] := hl
        refine lv_goto (tgt := 5) X.1 X.2.1 d_Mo_needs_59 (by decide) ?_
        refine ih (i + 1) _ (by omega) ?_ H locs ls hP hS (lv_sub hl [0, 1, 2, 3, 4] rfl)
        rw [pu_take_succ ho, pu_need_snoc, ← hv]
        rw [if_neg h28]
      · skip
        refine lv_aload_n X.1 X.2.1 d_Mo_needs_31 rfl (lv_at hl 2 rfl) ?_
        refine gg_Mo_17 X hP d_Mo_needs_32 ?_
        refine lv_iconst (v := nI 4) X.1 X.2.1 d_Mo_needs_35 (by decide) ?_
        refine lv_iload_n X.1 X.2.1 d_Mo_needs_36 rfl (lv_at hl 3 rfl) ?_
        refine gx_imul X.1 X.2.1 d_Mo_needs_37 ?_
        refine lv_iload X.1 X.2.1 d_Mo_needs_38 (lv_at hl 0 rfl) ?_
        refine gx_iadd X.1 X.2.1 d_Mo_needs_40 ?_
        refine ga_227 (by omega) X hP d_Mo_needs_41 ?_
        rw [x1]
        refine gx_if_gt X.1 X.2.1 (tgt := 50) d_Mo_needs_42 (by decide) (by omega) (fun h42 => ?_) (fun h42 => ?_)
        · skip
          refine lv_iconst (v := nI 2) X.1 X.2.1 d_Mo_needs_50 (by decide) ?_
          refine lv_goto (tgt := 55) X.1 X.2.1 d_Mo_needs_51 (by decide) ?_
          refine lv_istore_n X.1 X.2.1 d_Mo_needs_55 rfl hl (by decide) rfl (fun ls hl => ?_)
          have hl : lv_has ls 5 [(3, .int (nI 2)), (4, .int (nI i)), (0, .ref (ad 224)), (1, .int (nI u)), (2, .int (nI y))] := hl
          refine lv_iinc (k := 1) (v := nI (i + 1)) X.1 X.2.1 d_Mo_needs_56 hl rfl (nI_add _ _) (by decide) rfl (fun ls hl => ?_)
          have hl : lv_has ls 5 [(4, .int (nI (i + 1))), (3, .int (nI 2)), (0, .ref (ad 224)), (1, .int (nI u)), (2, .int (nI y))] := hl
          refine lv_goto (tgt := 5) X.1 X.2.1 d_Mo_needs_59 (by decide) ?_
          refine ih (i + 1) _ (by omega) ?_ H locs ls hP hS (lv_sub hl [0, 1, 2, 3, 4] rfl)
          rw [pu_take_succ ho, pu_need_snoc, ← hv]
          rw [if_pos h28, if_neg (by omega)]
          omega
        · skip
          refine lv_iload_n X.1 X.2.1 d_Mo_needs_45 rfl (lv_at hl 1 rfl) ?_
          refine lv_iconst (v := nI 2) X.1 X.2.1 d_Mo_needs_46 (by decide) ?_
          refine gx_icmp_ne X.1 X.2.1 (tgt := 54) d_Mo_needs_47 (by decide) (by omega) (by omega) (fun h47 => ?_) (fun h47 => ?_)
          · skip
            refine lv_iconst (v := nI 1) X.1 X.2.1 d_Mo_needs_54 (by decide) ?_
            refine lv_istore_n X.1 X.2.1 d_Mo_needs_55 rfl hl (by decide) rfl (fun ls hl => ?_)
            have hl : lv_has ls 5 [(3, .int (nI 1)), (4, .int (nI i)), (0, .ref (ad 224)), (1, .int (nI u)), (2, .int (nI y))] := hl
            refine lv_iinc (k := 1) (v := nI (i + 1)) X.1 X.2.1 d_Mo_needs_56 hl rfl (nI_add _ _) (by decide) rfl (fun ls hl => ?_)
            have hl : lv_has ls 5 [(4, .int (nI (i + 1))), (3, .int (nI 1)), (0, .ref (ad 224)), (1, .int (nI u)), (2, .int (nI y))] := hl
            refine lv_goto (tgt := 5) X.1 X.2.1 d_Mo_needs_59 (by decide) ?_
            refine ih (i + 1) _ (by omega) ?_ H locs ls hP hS (lv_sub hl [0, 1, 2, 3, 4] rfl)
            rw [pu_take_succ ho, pu_need_snoc, ← hv]
            rw [if_pos h28, if_pos h42]
            omega
          · skip
            refine lv_iconst (v := nI 2) X.1 X.2.1 d_Mo_needs_50 (by decide) ?_
            refine lv_goto (tgt := 55) X.1 X.2.1 d_Mo_needs_51 (by decide) ?_
            refine lv_istore_n X.1 X.2.1 d_Mo_needs_55 rfl hl (by decide) rfl (fun ls hl => ?_)
            have hl : lv_has ls 5 [(3, .int (nI 2)), (4, .int (nI i)), (0, .ref (ad 224)), (1, .int (nI u)), (2, .int (nI y))] := hl
            refine lv_iinc (k := 1) (v := nI (i + 1)) X.1 X.2.1 d_Mo_needs_56 hl rfl (nI_add _ _) (by decide) rfl (fun ls hl => ?_)
            have hl : lv_has ls 5 [(4, .int (nI (i + 1))), (3, .int (nI 2)), (0, .ref (ad 224)), (1, .int (nI u)), (2, .int (nI y))] := hl
            refine lv_goto (tgt := 5) X.1 X.2.1 d_Mo_needs_59 (by decide) ?_
            refine ih (i + 1) _ (by omega) ?_ H locs ls hP hS (lv_sub hl [0, 1, 2, 3, 4] rfl)
            rw [pu_take_succ ho, pu_need_snoc, ← hv]
            rw [if_pos h28, if_pos h42]
            omega
  refine lv_iconst (v := nI 0) X.1 X.2.1 d_Mo_needs_0 (by decide) ?_
  refine lv_istore_n X.1 X.2.1 d_Mo_needs_1 rfl hl (by decide) rfl (fun ls hl => ?_)
  have hl : lv_has ls 5 [(3, .int (nI 0)), (0, .ref (ad 224)), (1, .int (nI u)), (2, .int (nI y))] := hl
  refine lv_iconst (v := nI 0) X.1 X.2.1 d_Mo_needs_2 (by decide) ?_
  refine lv_istore X.1 X.2.1 d_Mo_needs_3 hl (by decide) rfl (fun ls hl => ?_)
  have hl : lv_has ls 5 [(4, .int (nI 0)), (3, .int (nI 0)), (0, .ref (ad 224)), (1, .int (nI u)), (2, .int (nI y))] := hl
  exact lp _ 0 0 (Nat.zero_add _) rfl _ _ ls hP hS (lv_sub hl [0, 1, 2, 3, 4] rfl)
set_option maxRecDepth 100000 in
set_option maxHeartbeats 4000000 in
theorem K_Mo_run (l : Launch) (dC : Nat → ClassId) (dI : Nat → Nat → Nat) (cx : Nat → ClassId) (ad : Nat → Nat) (hJ : gx_J gx_N ad (gx_A gx_N ad)) (σ : gx_M) (a : ab_S) (u i : Nat) (o : pu_Op) (hx : mr σ a) (hw : ab_W a) (hu : u < 21) (ho : (ab_op a u)[i]? = some o) : cg_Mv l dC dI cx ad y_Mo_run w_Mo_run 0 [.ref (ad 224), .int (nI u), .int (nI i)] σ (fun σ' => (∀ n, n ≠ 240 → n ≠ 224 → σ' n = σ n) ∧ (∀ k, k ≠ 18 → σ' 224 k = σ 224 k) ∧ (∀ k, σ' 240 k = pu_do (σ 240) o k) ∧ σ' 224 18 = pu_res (σ 240) o) := by
  refine gx_ofW (cc := c_Mo_run) (maxL := 5) (ret := (Option.none : Option Jvm.ClassFile.FieldType)) (by decide) rfl (Nat.le_of_ble_eq_true rfl) ?_
  intro p e s m below meth c ls S hr hlk hK hN hl hP
  have X : cg_X c_Mo_run "CommitGroupsModel" 5 dC dI cx p m c s _ := ⟨S.1, S.2.1, S.2.2.2.1, fun w h => S.2.2.2.2 w (List.mem_cons_of_mem _ h), hK, hN, S.2.2.1⟩
  have hS : va_S (gx_A gx_N ad) s.heap s.heap [] := va_S.rf
  have hl : lv_has ls 5 [(0, .ref (ad 224)), (1, .int (nI u)), (2, .int (nI i))] := hl
  obtain ⟨t1, t2, t3⟩ := hx.2.1 u hu
  have hl4 := (hw.2.1 u).1
  have hi4 := (List.getElem?_eq_some_iff.mp ho).1
  obtain ⟨x1, x2, x3⟩ := t3 i o ho
  have yb := (hw.2.1 u).2 o (List.mem_of_getElem? ho)
  refine lv_aload_n X.1 X.2.1 d_Mo_run_0 rfl (lv_at hl 0 rfl) ?_
  refine gg_Mo_20 X hP d_Mo_run_1 ?_
  refine lv_iconst (v := nI 4) X.1 X.2.1 d_Mo_run_4 (by decide) ?_
  refine lv_iload_n X.1 X.2.1 d_Mo_run_5 rfl (lv_at hl 1 rfl) ?_
  refine gx_imul X.1 X.2.1 d_Mo_run_6 ?_
  refine lv_iload_n X.1 X.2.1 d_Mo_run_7 rfl (lv_at hl 2 rfl) ?_
  refine gx_iadd X.1 X.2.1 d_Mo_run_8 ?_
  refine ga_228 (by omega) X hP d_Mo_run_9 ?_
  rw [x2]
  refine lv_istore_n X.1 X.2.1 d_Mo_run_10 rfl hl (by decide) rfl (fun ls hl => ?_)
  have hl : lv_has ls 5 [(3, .int (nI o.2.1)), (0, .ref (ad 224)), (1, .int (nI u)), (2, .int (nI i))] := hl
  refine lv_aload_n X.1 X.2.1 d_Mo_run_11 rfl (lv_at hl 1 rfl) ?_
  refine gg_Mo_56 X hP d_Mo_run_12 ?_
  refine lv_iload_n X.1 X.2.1 d_Mo_run_15 rfl (lv_at hl 0 rfl) ?_
  refine ga_240 (by omega) X hP d_Mo_run_16 ?_
  refine lv_istore X.1 X.2.1 d_Mo_run_17 hl (by decide) rfl (fun ls hl => ?_)
  have hl : lv_has ls 5 [(4, .int (nI (σ 240 o.2.1))), (3, .int (nI o.2.1)), (0, .ref (ad 224)), (1, .int (nI u)), (2, .int (nI i))] := hl
  refine lv_aload_n X.1 X.2.1 d_Mo_run_19 rfl (lv_at hl 2 rfl) ?_
  refine gg_Mo_56 X hP d_Mo_run_20 ?_
  refine lv_iload_n X.1 X.2.1 d_Mo_run_23 rfl (lv_at hl 1 rfl) ?_
  refine lv_aload_n X.1 X.2.1 d_Mo_run_24 rfl (lv_at hl 2 rfl) ?_
  refine gg_Mo_17 X hP d_Mo_run_25 ?_
  refine lv_iconst (v := nI 4) X.1 X.2.1 d_Mo_run_28 (by decide) ?_
  refine lv_iload_n X.1 X.2.1 d_Mo_run_29 rfl (lv_at hl 3 rfl) ?_
  refine gx_imul X.1 X.2.1 d_Mo_run_30 ?_
  refine lv_iload_n X.1 X.2.1 d_Mo_run_31 rfl (lv_at hl 4 rfl) ?_
  refine gx_iadd X.1 X.2.1 d_Mo_run_32 ?_
  refine ga_227 (by omega) X hP d_Mo_run_33 ?_
  rw [x1]
  refine gx_if_ne X.1 X.2.1 (tgt := 42) d_Mo_run_34 (by decide) (by omega) (fun h34 => ?_) (fun h34 => ?_)
  · skip
    refine lv_aload_n X.1 X.2.1 d_Mo_run_42 rfl (lv_at hl 2 rfl) ?_
    refine gg_Mo_17 X hP d_Mo_run_43 ?_
    refine lv_iconst (v := nI 4) X.1 X.2.1 d_Mo_run_46 (by decide) ?_
    refine lv_iload_n X.1 X.2.1 d_Mo_run_47 rfl (lv_at hl 3 rfl) ?_
    refine gx_imul X.1 X.2.1 d_Mo_run_48 ?_
    refine lv_iload_n X.1 X.2.1 d_Mo_run_49 rfl (lv_at hl 4 rfl) ?_
    refine gx_iadd X.1 X.2.1 d_Mo_run_50 ?_
    refine ga_227 (by omega) X hP d_Mo_run_51 ?_
    rw [x1]
    refine lv_iconst (v := nI 1) X.1 X.2.1 d_Mo_run_52 (by decide) ?_
    refine gx_icmp_ne X.1 X.2.1 (tgt := 69) d_Mo_run_53 (by decide) (by omega) (by omega) (fun h53 => ?_) (fun h53 => ?_)
    · skip
      refine lv_iload X.1 X.2.1 d_Mo_run_69 (lv_at hl 0 rfl) ?_
      refine lv_aload_n X.1 X.2.1 d_Mo_run_71 rfl (lv_at hl 2 rfl) ?_
      refine gg_Mo_23 X hP d_Mo_run_72 ?_
      refine lv_iconst (v := nI 4) X.1 X.2.1 d_Mo_run_75 (by decide) ?_
      refine lv_iload_n X.1 X.2.1 d_Mo_run_76 rfl (lv_at hl 3 rfl) ?_
      refine gx_imul X.1 X.2.1 d_Mo_run_77 ?_
      refine lv_iload_n X.1 X.2.1 d_Mo_run_78 rfl (lv_at hl 4 rfl) ?_
      refine gx_iadd X.1 X.2.1 d_Mo_run_79 ?_
      refine ga_229 (by omega) X hP d_Mo_run_80 ?_
      rw [x3]
      refine gx_iadd X.1 X.2.1 d_Mo_run_81 ?_
      refine gs_240 (by omega) X hJ hP hS d_Mo_run_82 (fun H locs hP hS => ?_)
      refine lv_aload_n X.1 X.2.1 d_Mo_run_83 rfl (lv_at hl 2 rfl) ?_
      refine lv_aload_n X.1 X.2.1 d_Mo_run_84 rfl (lv_at hl 2 rfl) ?_
      refine gg_Mo_17 X hP d_Mo_run_85 ?_
      refine lv_iconst (v := nI 4) X.1 X.2.1 d_Mo_run_88 (by decide) ?_
      refine lv_iload_n X.1 X.2.1 d_Mo_run_89 rfl (lv_at hl 3 rfl) ?_
      refine gx_imul X.1 X.2.1 d_Mo_run_90 ?_
      refine lv_iload_n X.1 X.2.1 d_Mo_run_91 rfl (lv_at hl 4 rfl) ?_
      refine gx_iadd X.1 X.2.1 d_Mo_run_92 ?_
      refine ga_227 (by omega) X hP d_Mo_run_93 ?_
      rw [gx_w_row _ _ _ (show (227 : Nat) ≠ 240 by decide), x1]
      refine lv_iconst (v := nI 2) X.1 X.2.1 d_Mo_run_94 (by decide) ?_
      refine gx_icmp_ne X.1 X.2.1 (tgt := 108) d_Mo_run_95 (by decide) (by omega) (by omega) (fun h95 => ?_) (fun h95 => ?_)
      · skip
        refine lv_iload X.1 X.2.1 d_Mo_run_108 (lv_at hl 0 rfl) ?_
        refine lv_i2l (v := (nI (σ 240 o.2.1)).toInt64) X.1 X.2.1 d_Mo_run_110 rfl ?_
        refine gp_Mo_67 X hJ hP hS d_Mo_run_111 (fun H locs hP hS => ?_)
        refine gx_vret X.1 X.2.1 hr hlk hP hS d_Mo_run_114 ?_
        refine ⟨fun n n1 n2 => by rw [gx_w_row _ _ _ n2, gx_w_row _ _ _ n1], fun k hk => by rw [gx_w_col _ _ _ hk, gx_w_row _ _ _ (by decide)], fun k => ?_, ?_⟩
        · clear hP hS hl X S hr hlk hK hN
          rw [pu_do_k]
          simp only [gx_w_at]
          grind
        · clear hP hS hl X S hr hlk hK hN
          simp only [gx_w_at, pu_res]
          grind
      · skip
        refine lv_aload_n X.1 X.2.1 d_Mo_run_98 rfl (lv_at hl 2 rfl) ?_
        refine gg_Mo_56 X hP d_Mo_run_99 ?_
        refine lv_iload_n X.1 X.2.1 d_Mo_run_102 rfl (lv_at hl 1 rfl) ?_
        refine ga_240 (by omega) X hP d_Mo_run_103 ?_
        rw [gx_w_self]
        refine lv_i2l (v := (nI ((σ 240 o.2.1) + o.2.2)).toInt64) X.1 X.2.1 d_Mo_run_104 rfl ?_
        refine lv_goto (tgt := 111) X.1 X.2.1 d_Mo_run_105 (by decide) ?_
        refine gp_Mo_67 X hJ hP hS d_Mo_run_111 (fun H locs hP hS => ?_)
        refine gx_vret X.1 X.2.1 hr hlk hP hS d_Mo_run_114 ?_
        refine ⟨fun n n1 n2 => by rw [gx_w_row _ _ _ n2, gx_w_row _ _ _ n1], fun k hk => by rw [gx_w_col _ _ _ hk, gx_w_row _ _ _ (by decide)], fun k => ?_, ?_⟩
        · clear hP hS hl X S hr hlk hK hN
          rw [pu_do_k]
          simp only [gx_w_at]
          grind
        · clear hP hS hl X S hr hlk hK hN
          simp only [gx_w_at, pu_res]
          grind
    · skip
      refine lv_aload_n X.1 X.2.1 d_Mo_run_56 rfl (lv_at hl 2 rfl) ?_
      refine gg_Mo_23 X hP d_Mo_run_57 ?_
      refine lv_iconst (v := nI 4) X.1 X.2.1 d_Mo_run_60 (by decide) ?_
      refine lv_iload_n X.1 X.2.1 d_Mo_run_61 rfl (lv_at hl 3 rfl) ?_
      refine gx_imul X.1 X.2.1 d_Mo_run_62 ?_
      refine lv_iload_n X.1 X.2.1 d_Mo_run_63 rfl (lv_at hl 4 rfl) ?_
      refine gx_iadd X.1 X.2.1 d_Mo_run_64 ?_
      refine ga_229 (by omega) X hP d_Mo_run_65 ?_
      rw [x3]
      refine lv_goto (tgt := 82) X.1 X.2.1 d_Mo_run_66 (by decide) ?_
      refine gs_240 (by omega) X hJ hP hS d_Mo_run_82 (fun H locs hP hS => ?_)
      refine lv_aload_n X.1 X.2.1 d_Mo_run_83 rfl (lv_at hl 2 rfl) ?_
      refine lv_aload_n X.1 X.2.1 d_Mo_run_84 rfl (lv_at hl 2 rfl) ?_
      refine gg_Mo_17 X hP d_Mo_run_85 ?_
      refine lv_iconst (v := nI 4) X.1 X.2.1 d_Mo_run_88 (by decide) ?_
      refine lv_iload_n X.1 X.2.1 d_Mo_run_89 rfl (lv_at hl 3 rfl) ?_
      refine gx_imul X.1 X.2.1 d_Mo_run_90 ?_
      refine lv_iload_n X.1 X.2.1 d_Mo_run_91 rfl (lv_at hl 4 rfl) ?_
      refine gx_iadd X.1 X.2.1 d_Mo_run_92 ?_
      refine ga_227 (by omega) X hP d_Mo_run_93 ?_
      rw [gx_w_row _ _ _ (show (227 : Nat) ≠ 240 by decide), x1]
      refine lv_iconst (v := nI 2) X.1 X.2.1 d_Mo_run_94 (by decide) ?_
      refine gx_icmp_ne X.1 X.2.1 (tgt := 108) d_Mo_run_95 (by decide) (by omega) (by omega) (fun h95 => ?_) (fun h95 => ?_)
      · skip
        refine lv_iload X.1 X.2.1 d_Mo_run_108 (lv_at hl 0 rfl) ?_
        refine lv_i2l (v := (nI (σ 240 o.2.1)).toInt64) X.1 X.2.1 d_Mo_run_110 rfl ?_
        refine gp_Mo_67 X hJ hP hS d_Mo_run_111 (fun H locs hP hS => ?_)
        refine gx_vret X.1 X.2.1 hr hlk hP hS d_Mo_run_114 ?_
        refine ⟨fun n n1 n2 => by rw [gx_w_row _ _ _ n2, gx_w_row _ _ _ n1], fun k hk => by rw [gx_w_col _ _ _ hk, gx_w_row _ _ _ (by decide)], fun k => ?_, ?_⟩
        · clear hP hS hl X S hr hlk hK hN
          rw [pu_do_k]
          simp only [gx_w_at]
          grind
        · clear hP hS hl X S hr hlk hK hN
          simp only [gx_w_at, pu_res]
          grind
      · skip
        refine lv_aload_n X.1 X.2.1 d_Mo_run_98 rfl (lv_at hl 2 rfl) ?_
        refine gg_Mo_56 X hP d_Mo_run_99 ?_
        refine lv_iload_n X.1 X.2.1 d_Mo_run_102 rfl (lv_at hl 1 rfl) ?_
        refine ga_240 (by omega) X hP d_Mo_run_103 ?_
        rw [gx_w_self]
        refine lv_i2l (v := (nI o.2.2).toInt64) X.1 X.2.1 d_Mo_run_104 rfl ?_
        refine lv_goto (tgt := 111) X.1 X.2.1 d_Mo_run_105 (by decide) ?_
        refine gp_Mo_67 X hJ hP hS d_Mo_run_111 (fun H locs hP hS => ?_)
        refine gx_vret X.1 X.2.1 hr hlk hP hS d_Mo_run_114 ?_
        refine ⟨fun n n1 n2 => by rw [gx_w_row _ _ _ n2, gx_w_row _ _ _ n1], fun k hk => by rw [gx_w_col _ _ _ hk, gx_w_row _ _ _ (by decide)], fun k => ?_, ?_⟩
        · clear hP hS hl X S hr hlk hK hN
          rw [pu_do_k]
          simp only [gx_w_at]
          grind
        · clear hP hS hl X S hr hlk hK hN
          simp only [gx_w_at, pu_res]
          grind
  · skip
    refine lv_iload X.1 X.2.1 d_Mo_run_37 (lv_at hl 0 rfl) ?_
    refine lv_goto (tgt := 82) X.1 X.2.1 d_Mo_run_39 (by decide) ?_
    refine gs_240 (by omega) X hJ hP hS d_Mo_run_82 (fun H locs hP hS => ?_)
    refine lv_aload_n X.1 X.2.1 d_Mo_run_83 rfl (lv_at hl 2 rfl) ?_
    refine lv_aload_n X.1 X.2.1 d_Mo_run_84 rfl (lv_at hl 2 rfl) ?_
    refine gg_Mo_17 X hP d_Mo_run_85 ?_
    refine lv_iconst (v := nI 4) X.1 X.2.1 d_Mo_run_88 (by decide) ?_
    refine lv_iload_n X.1 X.2.1 d_Mo_run_89 rfl (lv_at hl 3 rfl) ?_
    refine gx_imul X.1 X.2.1 d_Mo_run_90 ?_
    refine lv_iload_n X.1 X.2.1 d_Mo_run_91 rfl (lv_at hl 4 rfl) ?_
    refine gx_iadd X.1 X.2.1 d_Mo_run_92 ?_
    refine ga_227 (by omega) X hP d_Mo_run_93 ?_
    rw [gx_w_row _ _ _ (show (227 : Nat) ≠ 240 by decide), x1]
    refine lv_iconst (v := nI 2) X.1 X.2.1 d_Mo_run_94 (by decide) ?_
    refine gx_icmp_ne X.1 X.2.1 (tgt := 108) d_Mo_run_95 (by decide) (by omega) (by omega) (fun h95 => ?_) (fun h95 => ?_)
    · skip
      refine lv_iload X.1 X.2.1 d_Mo_run_108 (lv_at hl 0 rfl) ?_
      refine lv_i2l (v := (nI (σ 240 o.2.1)).toInt64) X.1 X.2.1 d_Mo_run_110 rfl ?_
      refine gp_Mo_67 X hJ hP hS d_Mo_run_111 (fun H locs hP hS => ?_)
      refine gx_vret X.1 X.2.1 hr hlk hP hS d_Mo_run_114 ?_
      refine ⟨fun n n1 n2 => by rw [gx_w_row _ _ _ n2, gx_w_row _ _ _ n1], fun k hk => by rw [gx_w_col _ _ _ hk, gx_w_row _ _ _ (by decide)], fun k => ?_, ?_⟩
      · clear hP hS hl X S hr hlk hK hN
        rw [pu_do_k]
        simp only [gx_w_at]
        grind
      · clear hP hS hl X S hr hlk hK hN
        simp only [gx_w_at, pu_res]
        grind
    · skip
      refine lv_aload_n X.1 X.2.1 d_Mo_run_98 rfl (lv_at hl 2 rfl) ?_
      refine gg_Mo_56 X hP d_Mo_run_99 ?_
      refine lv_iload_n X.1 X.2.1 d_Mo_run_102 rfl (lv_at hl 1 rfl) ?_
      refine ga_240 (by omega) X hP d_Mo_run_103 ?_
      rw [gx_w_self]
      refine lv_i2l (v := (nI (σ 240 o.2.1)).toInt64) X.1 X.2.1 d_Mo_run_104 rfl ?_
      refine lv_goto (tgt := 111) X.1 X.2.1 d_Mo_run_105 (by decide) ?_
      refine gp_Mo_67 X hJ hP hS d_Mo_run_111 (fun H locs hP hS => ?_)
      refine gx_vret X.1 X.2.1 hr hlk hP hS d_Mo_run_114 ?_
      refine ⟨fun n n1 n2 => by rw [gx_w_row _ _ _ n2, gx_w_row _ _ _ n1], fun k hk => by rw [gx_w_col _ _ _ hk, gx_w_row _ _ _ (by decide)], fun k => ?_, ?_⟩
      · clear hP hS hl X S hr hlk hK hN
        rw [pu_do_k]
        simp only [gx_w_at]
        grind
      · clear hP hS hl X S hr hlk hK hN
        simp only [gx_w_at, pu_res]
        grind
set_option maxRecDepth 100000 in
set_option maxHeartbeats 4000000 in
theorem K_Mo_hinders (l : Launch) (dC : Nat → ClassId) (dI : Nat → Nat → Nat) (cx : Nat → ClassId) (ad : Nat → Nat) (hJ : gx_J gx_N ad (gx_A gx_N ad)) (σ : gx_M) (a : ab_S) (u v sh : Nat) (hx : mr σ a) (hw : ab_W a) (hu : u < 21) (hv : v < 21) (hsh : sh < 3) : cg_Mi l dC dI cx ad y_Mo_hinders w_Mo_hinders 1 [.ref (ad 224), .int (nI u), .int (nI v), .int (nI sh)] σ (fun r σ' => σ' = σ ∧ gx_bo (pu_hin (ab_op a) sh u v) r) := by
  refine gx_ofW (cc := c_Mo_hinders) (maxL := 7) (ret := (Option.some Jvm.ClassFile.FieldType.boolean)) (by decide) rfl (Nat.le_of_ble_eq_true rfl) ?_
  intro p e s m below meth c ls S hr hlk hK hN hl hP
  have X : cg_X c_Mo_hinders "CommitGroupsModel" 7 dC dI cx p m c s _ := ⟨S.1, S.2.1, S.2.2.2.1, fun w h => S.2.2.2.2 w (List.mem_cons_of_mem _ h), hK, hN, S.2.2.1⟩
  have hS : va_S (gx_A gx_N ad) s.heap s.heap [] := va_S.rf
  have hl : lv_has ls 7 [(0, .ref (ad 224)), (1, .int (nI u)), (2, .int (nI v)), (3, .int (nI sh))] := hl
  have lp : ∀ (k : Nat) (y : Nat), y + 3 * k = sh + 12 → y % 3 = sh → (∀ j, j < y → j % 3 = sh → ¬ ((pu_need (ab_op a u) j = 2 ∧ 0 < pu_need (ab_op a v) j) ∨ (pu_need (ab_op a u) j = 1 ∧ pu_need (ab_op a v) j = 2))) → ∀ (H : Heap) (locs : List Loc) (ls : Array Slot), cg_P dC dI cx ad σ H → va_S (gx_A gx_N ad) s.heap H locs → lv_has ls 7 [(4, .int (nI y)), (0, .ref (ad 224)), (1, .int (nI u)), (2, .int (nI v)), (3, .int (nI sh))] → W p l e (rmL 1) s m ([.ref (ad 224), .int (nI u), .int (nI v), .int (nI sh)] : List Value).toArray below meth c H locs 0 0 (cg_Qi dC dI cx ad (fun r σ' => σ' = σ ∧ gx_bo (pu_hin (ab_op a) sh u v) r) below [.ref (ad 224), .int (nI u), .int (nI v), .int (nI sh)] s) (F0 m 3 ls []) := by
    intro k
    induction k with
    | zero =>
      intro y hik hy3 hv H locs ls hP hS hl
      refine lv_iload X.1 X.2.1 d_Mo_hinders_3 (lv_at hl 0 rfl) ?_
      refine lv_bipush (v := nI 12) X.1 X.2.1 d_Mo_hinders_5 (by decide) ?_
      refine gx_icmp_ge X.1 X.2.1 (tgt := 59) d_Mo_hinders_7 (by decide) (by omega) (by omega) (fun h7 => ?_) (fun h7 => absurd h7 (by omega))
      refine lv_iconst (v := nI 0) X.1 X.2.1 d_Mo_hinders_59 (by decide) ?_
      refine gx_zret X.1 X.2.1 hr hlk hP hS d_Mo_hinders_60 (by decide) ?_
      refine ⟨rfl, gx_bo0 ?_⟩
      rintro ⟨j, j1, j2, j3⟩
      exact hv j (by omega) j2 j3
    | succ k ih =>
      intro y hik hy3 hv H locs ls hP hS hl
      refine lv_iload X.1 X.2.1 d_Mo_hinders_3 (lv_at hl 0 rfl) ?_
      refine lv_bipush (v := nI 12) X.1 X.2.1 d_Mo_hinders_5 (by decide) ?_
      refine gx_icmp_ge X.1 X.2.1 (tgt := 59) d_Mo_hinders_7 (by decide) (by omega) (by omega) (fun h7 => absurd h7 (by omega)) (fun h7 => ?_)
      refine lv_aload_n X.1 X.2.1 d_Mo_hinders_10 rfl (lv_at hl 1 rfl) ?_
      refine lv_iload_n X.1 X.2.1 d_Mo_hinders_11 rfl (lv_at hl 2 rfl) ?_
      refine lv_iload X.1 X.2.1 d_Mo_hinders_12 (lv_at hl 0 rfl) ?_
      refine cv_Mo_71 (rest := []) X hJ hP hS (by decide) (ec_Mo_0 _) (K_Mo_needs l dC dI cx ad hJ _ a u y hx hw (by omega) (by omega)) rfl rfl (by decide) hl.1 (Nat.le_of_ble_eq_true rfl) ⟨Nat.le_refl _, Nat.le_refl _⟩ d_Mo_hinders_14 (fun r σ' H locs hq hP hS => ?_)
      obtain ⟨hq0, rfl⟩ := hq
      rw [hq0] at hP
      have n14 := pu_need_le (ab_op a u) y
      refine lv_istore X.1 X.2.1 d_Mo_hinders_17 hl (by decide) rfl (fun ls hl => ?_)
      have hl : lv_has ls 7 [(5, .int (nI (pu_need (ab_op a u) y))), (4, .int (nI y)), (0, .ref (ad 224)), (1, .int (nI u)), (2, .int (nI v)), (3, .int (nI sh))] := hl
      refine lv_aload_n X.1 X.2.1 d_Mo_hinders_19 rfl (lv_at hl 2 rfl) ?_
      refine lv_iload_n X.1 X.2.1 d_Mo_hinders_20 rfl (lv_at hl 4 rfl) ?_
      refine lv_iload X.1 X.2.1 d_Mo_hinders_21 (lv_at hl 1 rfl) ?_
      refine cv_Mo_71 (rest := []) X hJ hP hS (by decide) (ec_Mo_0 _) (K_Mo_needs l dC dI cx ad hJ _ a v y hx hw (by omega) (by omega)) rfl rfl (by decide) hl.1 (Nat.le_of_ble_eq_true rfl) ⟨Nat.le_refl _, Nat.le_refl _⟩ d_Mo_hinders_23 (fun r σ' H locs hq hP hS => ?_)
      obtain ⟨hq0, rfl⟩ := hq
      rw [hq0] at hP
      have n23 := pu_need_le (ab_op a v) y
      refine lv_istore X.1 X.2.1 d_Mo_hinders_26 hl (by decide) rfl (fun ls hl => ?_)
      have hl : lv_has ls 7 [(6, .int (nI (pu_need (ab_op a v) y))), (5, .int (nI (pu_need (ab_op a u) y))), (4, .int (nI y)), (0, .ref (ad 224)), (1, .int (nI u)), (2, .int (nI v)), (3, .int (nI sh))] := hl
      refine lv_iload X.1 X.2.1 d_Mo_hinders_28 (lv_at hl 1 rfl) ?_
      refine lv_iconst (v := nI 2) X.1 X.2.1 d_Mo_hinders_30 (by decide) ?_
      refine gx_icmp_ne X.1 X.2.1 (tgt := 39) d_Mo_hinders_31 (by decide) (by omega) (by omega) (fun h31 => ?_) (fun h31 => ?_)
      · skip
        refine lv_iload X.1 X.2.1 d_Mo_hinders_39 (lv_at hl 1 rfl) ?_
        refine lv_iconst (v := nI 1) X.1 X.2.1 d_Mo_hinders_41 (by decide) ?_
        refine gx_icmp_ne X.1 X.2.1 (tgt := 53) d_Mo_hinders_42 (by decide) (by omega) (by omega) (fun h42 => ?_) (fun h42 => ?_)
        · skip
          refine lv_iinc (k := 2) (v := nI (y + 3)) X.1 X.2.1 d_Mo_hinders_53 hl rfl (nI_add _ _) (by decide) rfl (fun ls hl => ?_)
          have hl : lv_has ls 7 [(4, .int (nI (y + 3))), (6, .int (nI (pu_need (ab_op a v) y))), (5, .int (nI (pu_need (ab_op a u) y))), (0, .ref (ad 224)), (1, .int (nI u)), (2, .int (nI v)), (3, .int (nI sh))] := hl
          refine lv_goto (tgt := 3) X.1 X.2.1 d_Mo_hinders_56 (by decide) ?_
          refine ih (y + 3) (by omega) (by omega) ?_ H locs ls hP hS (lv_sub hl [0, 3, 4, 5, 6] rfl)
          intro j j1 j2 j3
          by_cases q : j < y
          · exact hv j q j2 j3
          · have : j = y := by omega
            subst this
            omega
        · skip
          refine lv_iload X.1 X.2.1 d_Mo_hinders_45 (lv_at hl 0 rfl) ?_
          refine lv_iconst (v := nI 2) X.1 X.2.1 d_Mo_hinders_47 (by decide) ?_
          refine gx_icmp_ne X.1 X.2.1 (tgt := 53) d_Mo_hinders_48 (by decide) (by omega) (by omega) (fun h48 => ?_) (fun h48 => ?_)
          · skip
            refine lv_iinc (k := 2) (v := nI (y + 3)) X.1 X.2.1 d_Mo_hinders_53 hl rfl (nI_add _ _) (by decide) rfl (fun ls hl => ?_)
            have hl : lv_has ls 7 [(4, .int (nI (y + 3))), (6, .int (nI (pu_need (ab_op a v) y))), (5, .int (nI (pu_need (ab_op a u) y))), (0, .ref (ad 224)), (1, .int (nI u)), (2, .int (nI v)), (3, .int (nI sh))] := hl
            refine lv_goto (tgt := 3) X.1 X.2.1 d_Mo_hinders_56 (by decide) ?_
            refine ih (y + 3) (by omega) (by omega) ?_ H locs ls hP hS (lv_sub hl [0, 3, 4, 5, 6] rfl)
            intro j j1 j2 j3
            by_cases q : j < y
            · exact hv j q j2 j3
            · have : j = y := by omega
              subst this
              omega
          · skip
            refine lv_iconst (v := nI 1) X.1 X.2.1 d_Mo_hinders_51 (by decide) ?_
            refine gx_zret X.1 X.2.1 hr hlk hP hS d_Mo_hinders_52 (by decide) ?_
            exact ⟨rfl, gx_bo1 ⟨y, by omega, by omega, by omega⟩⟩
      · skip
        refine lv_iload X.1 X.2.1 d_Mo_hinders_34 (lv_at hl 0 rfl) ?_
        refine gx_if_gt X.1 X.2.1 (tgt := 51) d_Mo_hinders_36 (by decide) (by omega) (fun h36 => ?_) (fun h36 => ?_)
        · skip
          refine lv_iconst (v := nI 1) X.1 X.2.1 d_Mo_hinders_51 (by decide) ?_
          refine gx_zret X.1 X.2.1 hr hlk hP hS d_Mo_hinders_52 (by decide) ?_
          exact ⟨rfl, gx_bo1 ⟨y, by omega, by omega, by omega⟩⟩
        · skip
          refine lv_iload X.1 X.2.1 d_Mo_hinders_39 (lv_at hl 1 rfl) ?_
          refine lv_iconst (v := nI 1) X.1 X.2.1 d_Mo_hinders_41 (by decide) ?_
          refine gx_icmp_ne X.1 X.2.1 (tgt := 53) d_Mo_hinders_42 (by decide) (by omega) (by omega) (fun h42 => ?_) (fun h42 => ?_)
          · skip
            refine lv_iinc (k := 2) (v := nI (y + 3)) X.1 X.2.1 d_Mo_hinders_53 hl rfl (nI_add _ _) (by decide) rfl (fun ls hl => ?_)
            have hl : lv_has ls 7 [(4, .int (nI (y + 3))), (6, .int (nI (pu_need (ab_op a v) y))), (5, .int (nI (pu_need (ab_op a u) y))), (0, .ref (ad 224)), (1, .int (nI u)), (2, .int (nI v)), (3, .int (nI sh))] := hl
            refine lv_goto (tgt := 3) X.1 X.2.1 d_Mo_hinders_56 (by decide) ?_
            refine ih (y + 3) (by omega) (by omega) ?_ H locs ls hP hS (lv_sub hl [0, 3, 4, 5, 6] rfl)
            intro j j1 j2 j3
            by_cases q : j < y
            · exact hv j q j2 j3
            · have : j = y := by omega
              subst this
              omega
          · skip
            refine lv_iload X.1 X.2.1 d_Mo_hinders_45 (lv_at hl 0 rfl) ?_
            refine lv_iconst (v := nI 2) X.1 X.2.1 d_Mo_hinders_47 (by decide) ?_
            refine gx_icmp_ne X.1 X.2.1 (tgt := 53) d_Mo_hinders_48 (by decide) (by omega) (by omega) (fun h48 => ?_) (fun h48 => ?_)
            · skip
              refine lv_iinc (k := 2) (v := nI (y + 3)) X.1 X.2.1 d_Mo_hinders_53 hl rfl (nI_add _ _) (by decide) rfl (fun ls hl => ?_)
              have hl : lv_has ls 7 [(4, .int (nI (y + 3))), (6, .int (nI (pu_need (ab_op a v) y))), (5, .int (nI (pu_need (ab_op a u) y))), (0, .ref (ad 224)), (1, .int (nI u)), (2, .int (nI v)), (3, .int (nI sh))] := hl
              refine lv_goto (tgt := 3) X.1 X.2.1 d_Mo_hinders_56 (by decide) ?_
              refine ih (y + 3) (by omega) (by omega) ?_ H locs ls hP hS (lv_sub hl [0, 3, 4, 5, 6] rfl)
              intro j j1 j2 j3
              by_cases q : j < y
              · exact hv j q j2 j3
              · have : j = y := by omega
                subst this
                omega
            · skip
              refine lv_iconst (v := nI 1) X.1 X.2.1 d_Mo_hinders_51 (by decide) ?_
              refine gx_zret X.1 X.2.1 hr hlk hP hS d_Mo_hinders_52 (by decide) ?_
              exact ⟨rfl, gx_bo1 ⟨y, by omega, by omega, by omega⟩⟩
  refine lv_iload_n X.1 X.2.1 d_Mo_hinders_0 rfl (lv_at hl 3 rfl) ?_
  refine lv_istore X.1 X.2.1 d_Mo_hinders_1 hl (by decide) rfl (fun ls hl => ?_)
  have hl : lv_has ls 7 [(4, .int (nI sh)), (0, .ref (ad 224)), (1, .int (nI u)), (2, .int (nI v)), (3, .int (nI sh))] := hl
  exact lp 4 sh rfl (by omega) (fun j j1 j2 => by omega) _ _ ls hP hS (lv_sub hl [0, 1, 2, 3, 4] rfl)
set_option maxRecDepth 100000 in
set_option maxHeartbeats 4000000 in
theorem K_Mo_free (l : Launch) (dC : Nat → ClassId) (dI : Nat → Nat → Nat) (cx : Nat → ClassId) (ad : Nat → Nat) (hJ : gx_J gx_N ad (gx_A gx_N ad)) (σ : gx_M) (a : ab_S) (S0 : pu_S) (u sh : Nat) (hx : mr σ a) (hw : ab_W a) (hs : mS σ S0) (hv2 : ∀ v, S0.1 v ≤ 2) (hV : ∀ v, S0.1 v = 1 → 1 ≤ v ∧ v ≤ ab_n a) (hu : u < 21) (hsh : sh < 3) : cg_Mi l dC dI cx ad y_Mo_free w_Mo_free 2 [.ref (ad 224), .int (nI u), .int (nI sh)] σ (fun r σ' => σ' = σ ∧ gx_bo (pu_free (ab_op a) sh S0 u) r) := by
  refine gx_ofW (cc := c_Mo_free) (maxL := 4) (ret := (Option.some Jvm.ClassFile.FieldType.boolean)) (by decide) rfl (Nat.le_of_ble_eq_true rfl) ?_
  intro p e s m below meth c ls S hr hlk hK hN hl hP
  have X : cg_X c_Mo_free "CommitGroupsModel" 4 dC dI cx p m c s _ := ⟨S.1, S.2.1, S.2.2.2.1, fun w h => S.2.2.2.2 w (List.mem_cons_of_mem _ h), hK, hN, S.2.2.1⟩
  have hS : va_S (gx_A gx_N ad) s.heap s.heap [] := va_S.rf
  have hl : lv_has ls 4 [(0, .ref (ad 224)), (1, .int (nI u)), (2, .int (nI sh))] := hl
  have hn : σ 224 0 = ab_n a := hx.1
  have hn20 := hw.1
  have lp : ∀ (k : Nat) (v : Nat), v + k = ab_n a + 1 → 1 ≤ v → (∀ j, 1 ≤ j → j < v → j ≠ u → S0.1 j = 1 → S0.2.1 j = false → ¬ pu_hin (ab_op a) sh u j) → ∀ (H : Heap) (locs : List Loc) (ls : Array Slot), cg_P dC dI cx ad σ H → va_S (gx_A gx_N ad) s.heap H locs → lv_has ls 4 [(3, .int (nI v)), (0, .ref (ad 224)), (1, .int (nI u)), (2, .int (nI sh))] → W p l e (rmL 2) s m ([.ref (ad 224), .int (nI u), .int (nI sh)] : List Value).toArray below meth c H locs 0 0 (cg_Qi dC dI cx ad (fun r σ' => σ' = σ ∧ gx_bo (pu_free (ab_op a) sh S0 u) r) below [.ref (ad 224), .int (nI u), .int (nI sh)] s) (F0 m 2 ls []) := by
    intro k
    induction k with
    | zero =>
      intro v hik hv1 hv H locs ls hP hS hl
      refine lv_iload_n X.1 X.2.1 d_Mo_free_2 rfl (lv_at hl 0 rfl) ?_
      refine lv_aload_n X.1 X.2.1 d_Mo_free_3 rfl (lv_at hl 1 rfl) ?_
      refine gg_Mo_59 X hP d_Mo_free_4 ?_
      rw [hn]
      refine gx_icmp_gt X.1 X.2.1 (tgt := 52) d_Mo_free_7 (by decide) (by omega) (by omega) (fun h7 => ?_) (fun h7 => absurd h7 (by omega))
      refine lv_iconst (v := nI 1) X.1 X.2.1 d_Mo_free_52 (by decide) ?_
      refine gx_zret X.1 X.2.1 hr hlk hP hS d_Mo_free_53 (by decide) ?_
      refine ⟨rfl, gx_bo1 ?_⟩
      intro j j1 j2 j3
      obtain ⟨z1, z2⟩ := hV j j2
      exact hv j z1 (by omega) j1 j2 j3
    | succ k ih =>
      intro v hik hv1 hv H locs ls hP hS hl
      refine lv_iload_n X.1 X.2.1 d_Mo_free_2 rfl (lv_at hl 0 rfl) ?_
      refine lv_aload_n X.1 X.2.1 d_Mo_free_3 rfl (lv_at hl 1 rfl) ?_
      refine gg_Mo_59 X hP d_Mo_free_4 ?_
      rw [hn]
      refine gx_icmp_gt X.1 X.2.1 (tgt := 52) d_Mo_free_7 (by decide) (by omega) (by omega) (fun h7 => absurd h7 (by omega)) (fun h7 => ?_)
      obtain ⟨e1, e2⟩ := hs.1 v (by omega)
      have b1 := hv2 v
      have b2 := xb_le (S0.2.1 v)
      refine lv_iload_n X.1 X.2.1 d_Mo_free_10 rfl (lv_at hl 0 rfl) ?_
      refine lv_iload_n X.1 X.2.1 d_Mo_free_11 rfl (lv_at hl 2 rfl) ?_
      refine gx_icmp_eq X.1 X.2.1 (tgt := 46) d_Mo_free_12 (by decide) (by omega) (by omega) (fun h12 => ?_) (fun h12 => ?_)
      · skip
        refine lv_iinc (k := 0) (v := nI (v + 1)) X.1 X.2.1 d_Mo_free_46 hl rfl (nI_add _ _) (by decide) rfl (fun ls hl => ?_)
        have hl : lv_has ls 4 [(3, .int (nI (v + 1))), (0, .ref (ad 224)), (1, .int (nI u)), (2, .int (nI sh))] := hl
        refine lv_goto (tgt := 2) X.1 X.2.1 d_Mo_free_49 (by decide) ?_
        refine ih (v + 1) (by omega) (by omega) ?_ H locs ls hP hS (lv_sub hl [0, 1, 2, 3] rfl)
        intro j j0 jl j1 j2 j3
        by_cases q : j < v
        · exact hv j j0 q j1 j2 j3
        · have : j = v := by omega
          subst this
          exact absurd h12 j1
      · skip
        refine lv_aload_n X.1 X.2.1 d_Mo_free_15 rfl (lv_at hl 1 rfl) ?_
        refine gg_Mo_47 X hP d_Mo_free_16 ?_
        refine lv_iload_n X.1 X.2.1 d_Mo_free_19 rfl (lv_at hl 0 rfl) ?_
        refine ga_237 (by omega) X hP d_Mo_free_20 ?_
        rw [e1]
        refine lv_iconst (v := nI 1) X.1 X.2.1 d_Mo_free_21 (by decide) ?_
        refine gx_icmp_ne X.1 X.2.1 (tgt := 46) d_Mo_free_22 (by decide) (by omega) (by omega) (fun h22 => ?_) (fun h22 => ?_)
        · skip
          refine lv_iinc (k := 0) (v := nI (v + 1)) X.1 X.2.1 d_Mo_free_46 hl rfl (nI_add _ _) (by decide) rfl (fun ls hl => ?_)
          have hl : lv_has ls 4 [(3, .int (nI (v + 1))), (0, .ref (ad 224)), (1, .int (nI u)), (2, .int (nI sh))] := hl
          refine lv_goto (tgt := 2) X.1 X.2.1 d_Mo_free_49 (by decide) ?_
          refine ih (v + 1) (by omega) (by omega) ?_ H locs ls hP hS (lv_sub hl [0, 1, 2, 3] rfl)
          intro j j0 jl j1 j2 j3
          by_cases q : j < v
          · exact hv j j0 q j1 j2 j3
          · have : j = v := by omega
            subst this
            exact absurd j2 h22
        · skip
          refine lv_aload_n X.1 X.2.1 d_Mo_free_25 rfl (lv_at hl 1 rfl) ?_
          refine gg_Mo_50 X hP d_Mo_free_26 ?_
          refine lv_iload_n X.1 X.2.1 d_Mo_free_29 rfl (lv_at hl 0 rfl) ?_
          refine ga_238 (by omega) X hP d_Mo_free_30 ?_
          rw [e2]
          refine gx_if_ne X.1 X.2.1 (tgt := 46) d_Mo_free_31 (by decide) (by omega) (fun h31 => ?_) (fun h31 => ?_)
          · skip
            refine lv_iinc (k := 0) (v := nI (v + 1)) X.1 X.2.1 d_Mo_free_46 hl rfl (nI_add _ _) (by decide) rfl (fun ls hl => ?_)
            have hl : lv_has ls 4 [(3, .int (nI (v + 1))), (0, .ref (ad 224)), (1, .int (nI u)), (2, .int (nI sh))] := hl
            refine lv_goto (tgt := 2) X.1 X.2.1 d_Mo_free_49 (by decide) ?_
            refine ih (v + 1) (by omega) (by omega) ?_ H locs ls hP hS (lv_sub hl [0, 1, 2, 3] rfl)
            intro j j0 jl j1 j2 j3
            by_cases q : j < v
            · exact hv j j0 q j1 j2 j3
            · have : j = v := by omega
              subst this
              rw [j3] at h31; exact absurd rfl h31
          · skip
            refine lv_aload_n X.1 X.2.1 d_Mo_free_34 rfl (lv_at hl 1 rfl) ?_
            refine lv_iload_n X.1 X.2.1 d_Mo_free_35 rfl (lv_at hl 2 rfl) ?_
            refine lv_iload_n X.1 X.2.1 d_Mo_free_36 rfl (lv_at hl 0 rfl) ?_
            refine lv_iload_n X.1 X.2.1 d_Mo_free_37 rfl (lv_at hl 3 rfl) ?_
            refine cv_Mo_75 (rest := []) X hJ hP hS (by decide) (ec_Mo_0 _) (K_Mo_hinders l dC dI cx ad hJ _ a u v sh hx hw hu (by omega) hsh) rfl rfl (by decide) hl.1 (Nat.le_of_ble_eq_true rfl) ⟨Nat.le_refl _, Nat.le_refl _⟩ d_Mo_free_38 (fun r σ' H locs hq hP hS => ?_)
            obtain ⟨hq0, b38, rfl, hb38, hp38⟩ := hq
            rw [hq0] at hP
            refine gx_if_eq X.1 X.2.1 (tgt := 46) d_Mo_free_41 (by decide) (by omega) (fun h41 => ?_) (fun h41 => ?_)
            · skip
              refine lv_iinc (k := 0) (v := nI (v + 1)) X.1 X.2.1 d_Mo_free_46 hl rfl (nI_add _ _) (by decide) rfl (fun ls hl => ?_)
              have hl : lv_has ls 4 [(3, .int (nI (v + 1))), (0, .ref (ad 224)), (1, .int (nI u)), (2, .int (nI sh))] := hl
              refine lv_goto (tgt := 2) X.1 X.2.1 d_Mo_free_49 (by decide) ?_
              refine ih (v + 1) (by omega) (by omega) ?_ H locs ls hP hS (lv_sub hl [0, 1, 2, 3] rfl)
              intro j j0 jl j1 j2 j3
              by_cases q : j < v
              · exact hv j j0 q j1 j2 j3
              · have : j = v := by omega
                subst this
                intro q; have := hp38.mpr q; omega
            · skip
              refine lv_iconst (v := nI 0) X.1 X.2.1 d_Mo_free_44 (by decide) ?_
              refine gx_zret X.1 X.2.1 hr hlk hP hS d_Mo_free_45 (by decide) ?_
              exact ⟨rfl, gx_bo0 (fun q => q v h12 h22 (xb_zero.mp h31) (hp38.mp (by omega)))⟩
  refine lv_iconst (v := nI 1) X.1 X.2.1 d_Mo_free_0 (by decide) ?_
  refine lv_istore_n X.1 X.2.1 d_Mo_free_1 rfl hl (by decide) rfl (fun ls hl => ?_)
  have hl : lv_has ls 4 [(3, .int (nI 1)), (0, .ref (ad 224)), (1, .int (nI u)), (2, .int (nI sh))] := hl
  exact lp (ab_n a) 1 (by omega) (by decide) (fun j j0 j1 => by omega) _ _ ls hP hS (lv_sub hl [0, 1, 2, 3] rfl)
