/-! contracts: the face of the system, two -/
set_option maxRecDepth 100000 in
set_option maxHeartbeats 4000000 in
theorem K_CG_leader (l : Launch) (dC : Nat → ClassId) (dI : Nat → Nat → Nat) (cx : Nat → ClassId) (ad : Nat → Nat) (hJ : gx_J gx_N ad (gx_A gx_N ad)) (σ : gx_M) (a : ab_S) (gq : Int32) (hw : ab_W a) (hx : xr σ a) : cg_Mi l dC dI cx ad y_CG_leader w_CG_leader 3 [.ref (ad 0), .int gq] σ (fun r σ' => σ' = σ ∧ r = Int32.ofInt (ab_leader a gq.toInt)) := by
  refine gx_ofW (cc := c_CG_leader) (maxL := 2) (ret := (Option.some Jvm.ClassFile.FieldType.int)) (by decide) rfl (Nat.le_of_ble_eq_true rfl) ?_
  intro p e s m below meth c ls S hr hlk hK hN hl hP
  have X : cg_X c_CG_leader "CommitGroups" 2 dC dI cx p m c s _ := ⟨S.1, S.2.1, S.2.2.2.1, fun w h => S.2.2.2.2 w (List.mem_cons_of_mem _ h), hK, hN, S.2.2.1⟩
  have hS : va_S (gx_A gx_N ad) s.heap s.heap [] := va_S.rf
  have hl : lv_has ls 2 [(0, .ref (ad 0)), (1, .int gq)] := hl
  refine lv_iload_n X.1 X.2.1 d_CG_leader_0 rfl (lv_at hl 1 rfl) ?_
  refine cv_CG_142 (rest := []) X hJ hP hS (K_CG_isGroup l dC dI cx ad hJ _ gq) rfl rfl (by decide) hl.1 (Nat.le_of_ble_eq_true rfl) ⟨Nat.le_refl _, Nat.le_refl _⟩ d_CG_leader_1 (fun r σ' H locs hq hP hS => ?_)
  obtain ⟨hq0, b1, rfl, hb1, hp1⟩ := hq
  rw [hq0] at hP
  refine gx_if_eq X.1 X.2.1 (tgt := 19) d_CG_leader_4 (by decide) (by omega) (fun h4 => ?_) (fun h4 => ?_)
  · skip
    refine lv_iconst (v := -1) X.1 X.2.1 d_CG_leader_19 (by decide) ?_
    refine gx_iret X.1 X.2.1 hr hlk hP hS d_CG_leader_20 ?_
    refine ⟨rfl, ?_⟩
    unfold ab_leader
    rw [if_neg (fun hh => by have := hp1.mpr ⟨hh.1, by have := hh.2.1; omega⟩; omega)]
    rfl
  · skip
    have hh1 := hp1.mp (by omega)
    obtain ⟨g, rfl, g1, g2, g3⟩ := gi_of (t := gq) (n := 3) (by omega) (by omega)
    refine lv_aload_n X.1 X.2.1 d_CG_leader_7 rfl (lv_at hl 0 rfl) ?_
    refine gg_CG_18 X hP d_CG_leader_8 ?_
    refine lv_iload_n X.1 X.2.1 d_CG_leader_11 rfl (lv_at hl 1 rfl) ?_
    refine gr_gs (by omega) X hP d_CG_leader_12 ?_
    refine cv_CG_76 (rest := []) X hJ hP hS (nGr_lt (by omega)) (ec_nGr (by omega) _) (K_Gr_findLeader l dC dI cx ad hJ _ a g (by omega) hx hw) rfl rfl (by decide) hl.1 (Nat.le_of_ble_eq_true rfl) ⟨Nat.le_refl _, Nat.le_refl _⟩ d_CG_leader_13 (fun r σ' H locs hq hP hS => ?_)
    obtain ⟨hq0, hq⟩ := hq
    rw [hq0] at hP
    rcases hq with ⟨hld, rfl⟩ | ⟨hld, hlt, hup, rfl⟩
    · skip
      refine lv_goto (tgt := 20) X.1 X.2.1 d_CG_leader_16 (by decide) ?_
      refine gx_iret X.1 X.2.1 hr hlk hP hS d_CG_leader_20 ?_
      refine ⟨rfl, ?_⟩
      unfold ab_leader
      rw [if_neg (fun hh => hh.2.2 (by rw [g3]; exact hld))]
      rfl
    · skip
      refine lv_goto (tgt := 20) X.1 X.2.1 d_CG_leader_16 (by decide) ?_
      refine gx_iret X.1 X.2.1 hr hlk hP hS d_CG_leader_20 ?_
      refine ⟨rfl, ?_⟩
      unfold ab_leader
      rw [if_pos ⟨by omega, by omega, by rw [g3]; omega⟩, g3]
      rfl
set_option maxRecDepth 100000 in
set_option maxHeartbeats 4000000 in
theorem K_CG_elect (l : Launch) (dC : Nat → ClassId) (dI : Nat → Nat → Nat) (cx : Nat → ClassId) (ad : Nat → Nat) (hJ : gx_J gx_N ad (gx_A gx_N ad)) (σ : gx_M) (a : ab_S) (B : Nat) (gq : Int32) (I : ab_I B a) (hB : B + 3 < 2 ^ 30) (hx : xr σ a) : cg_Mi l dC dI cx ad y_CG_elect w_CG_elect 6 [.ref (ad 0), .int gq] σ (fun r σ' => r = Int32.ofInt (ab_elect a gq.toInt).1 ∧ xr σ' (ab_elect a gq.toInt).2 ∧ ∀ n, 224 ≤ n → σ' n = σ n) := by
  refine gx_ofW (cc := c_CG_elect) (maxL := 2) (ret := (Option.some Jvm.ClassFile.FieldType.int)) (by decide) rfl (Nat.le_of_ble_eq_true rfl) ?_
  intro p e s m below meth c ls S hr hlk hK hN hl hP
  have X : cg_X c_CG_elect "CommitGroups" 2 dC dI cx p m c s _ := ⟨S.1, S.2.1, S.2.2.2.1, fun w h => S.2.2.2.2 w (List.mem_cons_of_mem _ h), hK, hN, S.2.2.1⟩
  have hS : va_S (gx_A gx_N ad) s.heap s.heap [] := va_S.rf
  have hl : lv_has ls 2 [(0, .ref (ad 0)), (1, .int gq)] := hl
  have hw := ab_W_of I (by omega)
  have hn : σ 0 5 = ab_n a := hx.1
  have hn20 := hw.1
  refine lv_iload_n X.1 X.2.1 d_CG_elect_0 rfl (lv_at hl 1 rfl) ?_
  refine cv_CG_142 (rest := []) X hJ hP hS (K_CG_isGroup l dC dI cx ad hJ _ gq) rfl rfl (by decide) hl.1 (Nat.le_of_ble_eq_true rfl) ⟨Nat.le_refl _, Nat.le_refl _⟩ d_CG_elect_1 (fun r σ' H locs hq hP hS => ?_)
  obtain ⟨hq0, b1, rfl, hb1, hp1⟩ := hq
  rw [hq0] at hP
  refine gx_if_eq X.1 X.2.1 (tgt := 20) d_CG_elect_4 (by decide) (by omega) (fun h4 => ?_) (fun h4 => ?_)
  · skip
    refine lv_iconst (v := -1) X.1 X.2.1 d_CG_elect_20 (by decide) ?_
    refine gx_iret X.1 X.2.1 hr hlk hP hS d_CG_elect_21 ?_
    have e : ab_elect a gq.toInt = (-1, a) := by unfold ab_elect; exact if_pos (fun hh => by have := hp1.mpr ⟨hh.1, by have := hh.2.1; omega⟩; omega)
    rw [e]
    exact ⟨rfl, hx, fun n _ => rfl⟩
  · skip
    have hh1 := hp1.mp (by omega)
    obtain ⟨g, rfl, g1, g2, g3⟩ := gi_of (t := gq) (n := 3) (by omega) (by omega)
    refine lv_aload_n X.1 X.2.1 d_CG_elect_7 rfl (lv_at hl 0 rfl) ?_
    refine gg_CG_18 X hP d_CG_elect_8 ?_
    refine lv_iload_n X.1 X.2.1 d_CG_elect_11 rfl (lv_at hl 1 rfl) ?_
    refine gr_gs (by omega) X hP d_CG_elect_12 ?_
    refine cv_CG_145 (rest := []) X hJ hP hS (nGr_lt (by omega)) (ec_nGr (by omega) _) (K_Gr_countUp l dC dI cx ad hJ _ a g (by omega) hx hw) rfl rfl (by decide) hl.1 (Nat.le_of_ble_eq_true rfl) ⟨Nat.le_refl _, Nat.le_refl _⟩ d_CG_elect_13 (fun r σ' H locs hq hP hS => ?_)
    obtain ⟨hq0, rfl⟩ := hq
    rw [hq0] at hP
    have hc3 : pu_cnt (ab_up a g) < 2 ^ 31 := by unfold pu_cnt; split <;> split <;> split <;> decide
    refine lv_iconst (v := nI 2) X.1 X.2.1 d_CG_elect_16 (by decide) ?_
    refine gx_icmp_ge X.1 X.2.1 (tgt := 22) d_CG_elect_17 (by decide) (by omega) (by omega) (fun h17 => ?_) (fun h17 => ?_)
    · skip
      obtain ⟨e1, e2, e3, e4⟩ := ab_elect_sp I (g := g) (by omega) h17
      refine lv_aload_n X.1 X.2.1 d_CG_elect_22 rfl (lv_at hl 0 rfl) ?_
      refine gg_CG_18 X hP d_CG_elect_23 ?_
      refine lv_iload_n X.1 X.2.1 d_CG_elect_26 rfl (lv_at hl 1 rfl) ?_
      refine gr_gs (by omega) X hP d_CG_elect_27 ?_
      refine cv_CG_148 (rest := []) X hJ hP hS (nGr_lt (by omega)) (ec_nGr (by omega) _) (K_Gr_startView l dC dI cx ad hJ _ a g (by omega) hx hw e1 e2 (by omega) e4) rfl rfl (by decide) hl.1 (Nat.le_of_ble_eq_true rfl) ⟨Nat.le_refl _, Nat.le_refl _⟩ d_CG_elect_28 (fun r σ' H locs hq hP hS => ?_)
      obtain ⟨rfl, q1, q2⟩ := hq
      refine gx_iret X.1 X.2.1 hr hlk hP hS d_CG_elect_31 ?_
      have e : ab_elect a (nI g).toInt = (((ab_next a g : Nat) : Int), ab_spread a g (ab_lg a g (ab_best a g)) (ab_next a g)) := by unfold ab_elect; rw [if_neg (fun z => z ⟨by omega, by omega, by rw [g3]; exact h17⟩), g3]
      rw [e]
      exact ⟨rfl, q1, q2⟩
    · skip
      refine lv_iconst (v := -1) X.1 X.2.1 d_CG_elect_20 (by decide) ?_
      refine gx_iret X.1 X.2.1 hr hlk hP hS d_CG_elect_21 ?_
      have e : ab_elect a (nI g).toInt = (-1, a) := by unfold ab_elect; exact if_pos (fun hh => by have := hh.2.2; rw [g3] at this; omega)
      rw [e]
      exact ⟨rfl, hx, fun n _ => rfl⟩
set_option maxRecDepth 100000 in
set_option maxHeartbeats 4000000 in
theorem K_CG_value (l : Launch) (dC : Nat → ClassId) (dI : Nat → Nat → Nat) (cx : Nat → ClassId) (ad : Nat → Nat) (hJ : gx_J gx_N ad (gx_A gx_N ad)) (σ : gx_M) (a : ab_S) (yq rq : Int32) (hw : ab_W a) (hx : xr σ a) : cg_Mi l dC dI cx ad y_CG_value w_CG_value 1 [.ref (ad 0), .int yq, .int rq] σ (fun r σ' => σ' = σ ∧ r = nI (ab_value a yq.toInt rq.toInt)) := by
  refine gx_ofW (cc := c_CG_value) (maxL := 3) (ret := (Option.some Jvm.ClassFile.FieldType.int)) (by decide) rfl (Nat.le_of_ble_eq_true rfl) ?_
  intro p e s m below meth c ls S hr hlk hK hN hl hP
  have X : cg_X c_CG_value "CommitGroups" 3 dC dI cx p m c s _ := ⟨S.1, S.2.1, S.2.2.2.1, fun w h => S.2.2.2.2 w (List.mem_cons_of_mem _ h), hK, hN, S.2.2.1⟩
  have hS : va_S (gx_A gx_N ad) s.heap s.heap [] := va_S.rf
  have hl : lv_has ls 3 [(0, .ref (ad 0)), (1, .int yq), (2, .int rq)] := hl
  refine lv_iload_n X.1 X.2.1 d_CG_value_0 rfl (lv_at hl 1 rfl) ?_
  refine cv_CG_61 (rest := []) X hJ hP hS (K_CG_isKey l dC dI cx ad hJ _ yq) rfl rfl (by decide) hl.1 (Nat.le_of_ble_eq_true rfl) ⟨Nat.le_refl _, Nat.le_refl _⟩ d_CG_value_1 (fun r σ' H locs hq hP hS => ?_)
  obtain ⟨hq0, b1, rfl, hb1, hp1⟩ := hq
  rw [hq0] at hP
  refine gx_if_eq X.1 X.2.1 (tgt := 14) d_CG_value_4 (by decide) (by omega) (fun h4 => ?_) (fun h4 => ?_)
  · skip
    refine lv_iconst (v := nI 0) X.1 X.2.1 d_CG_value_14 (by decide) ?_
    refine gx_iret X.1 X.2.1 hr hlk hP hS d_CG_value_15 ?_
    refine ⟨rfl, ?_⟩
    unfold ab_value
    rw [if_neg (fun hh => ?_)]
    have := hp1.mpr ⟨hh.1.1, by have := hh.1.2; omega⟩; omega
  · skip
    refine lv_iload_n X.1 X.2.1 d_CG_value_7 rfl (lv_at hl 2 rfl) ?_
    refine cv_CG_164 (rest := []) X hJ hP hS (K_CG_isReplicaNumber l dC dI cx ad hJ _ rq) rfl rfl (by decide) hl.1 (Nat.le_of_ble_eq_true rfl) ⟨Nat.le_refl _, Nat.le_refl _⟩ d_CG_value_8 (fun r σ' H locs hq hP hS => ?_)
    obtain ⟨hq0, b8, rfl, hb8, hp8⟩ := hq
    rw [hq0] at hP
    refine gx_if_ne X.1 X.2.1 (tgt := 16) d_CG_value_11 (by decide) (by omega) (fun h11 => ?_) (fun h11 => ?_)
    · skip
      have hh1 := hp1.mp (by omega)
      have hh8 := hp8.mp (by omega)
      obtain ⟨y, rfl, y1, y2, y3⟩ := gi_of (t := yq) (n := 11) (by omega) (by omega)
      obtain ⟨r', rfl, r1, r2, r3⟩ := gi_of (t := rq) (n := 2) (by omega) (by omega)
      have ed : (y % 3 * 3 + r') / 3 = y % 3 := by omega
      have em : (y % 3 * 3 + r') % 3 = r' := by omega
      obtain ⟨hs0, pp⟩ := hx.2.2.2.1 (y % 3) r' (by omega) (by omega)
      refine lv_aload_n X.1 X.2.1 d_CG_value_16 rfl (lv_at hl 0 rfl) ?_
      refine gg_CG_24 X hP d_CG_value_17 ?_
      refine lv_iload_n X.1 X.2.1 d_CG_value_20 rfl (lv_at hl 1 rfl) ?_
      refine lv_iconst (v := nI 3) X.1 X.2.1 d_CG_value_21 (by decide) ?_
      refine gx_irem X.1 X.2.1 d_CG_value_22 (by omega) (by decide) (by decide) ?_
      refine lv_iconst (v := nI 3) X.1 X.2.1 d_CG_value_23 (by decide) ?_
      refine gx_imul X.1 X.2.1 d_CG_value_24 ?_
      refine lv_iload_n X.1 X.2.1 d_CG_value_25 rfl (lv_at hl 2 rfl) ?_
      refine gx_iadd X.1 X.2.1 d_CG_value_26 ?_
      refine gr_ss (by omega) X hP d_CG_value_27 ?_
      rw [ed, em]
      refine gg_CG_167 (by omega) (by omega) X hP d_CG_value_28 ?_
      refine lv_iload_n X.1 X.2.1 d_CG_value_31 rfl (lv_at hl 1 rfl) ?_
      refine lv_iconst (v := nI 3) X.1 X.2.1 d_CG_value_32 (by decide) ?_
      refine gx_idiv X.1 X.2.1 d_CG_value_33 (by omega) (by decide) (by decide) ?_
      refine ga_nSv (by omega) (by omega) (by omega) X hP d_CG_value_34 ?_
      rw [pp.1 (y / 3) (by omega), show 3 * (y / 3) + y % 3 = y by omega]
      refine gx_iret X.1 X.2.1 hr hlk hP hS d_CG_value_35 ?_
      refine ⟨rfl, ?_⟩
      unfold ab_value
      rw [if_pos ⟨⟨by omega, by omega⟩, by omega, by omega⟩, y3, r3]
    · skip
      refine lv_iconst (v := nI 0) X.1 X.2.1 d_CG_value_14 (by decide) ?_
      refine gx_iret X.1 X.2.1 hr hlk hP hS d_CG_value_15 ?_
      refine ⟨rfl, ?_⟩
      unfold ab_value
      rw [if_neg (fun hh => ?_)]
      have := hp8.mpr ⟨hh.2.1, by have := hh.2.2; omega⟩; omega
set_option maxRecDepth 100000 in
set_option maxHeartbeats 4000000 in
theorem K_CG_holds (l : Launch) (dC : Nat → ClassId) (dI : Nat → Nat → Nat) (cx : Nat → ClassId) (ad : Nat → Nat) (hJ : gx_J gx_N ad (gx_A gx_N ad)) (σ : gx_M) (a : ab_S) (yq rq : Int32) (hw : ab_W a) (hx : xr σ a) : cg_Mi l dC dI cx ad y_CG_holds w_CG_holds 2 [.ref (ad 0), .int yq, .int rq] σ (fun r σ' => σ' = σ ∧ ((¬ ((0 ≤ yq.toInt ∧ yq.toInt ≤ 11) ∧ 0 ≤ rq.toInt ∧ rq.toInt ≤ 2) ∧ r = nI 0) ∨ ∃ y r' : Nat, yq = nI y ∧ rq = nI r' ∧ y ≤ 11 ∧ r' ≤ 2 ∧ r = if σ (nSa (y % 3) r') (y / 3) ≠ 0 then nI (σ (nSa (y % 3) r') (y / 3)) else -(nI (bc_pop 24 (σ (nSh (y % 3) r') (y / 3)))))) := by
  refine gx_ofW (cc := c_CG_holds) (maxL := 3) (ret := (Option.some Jvm.ClassFile.FieldType.int)) (by decide) rfl (Nat.le_of_ble_eq_true rfl) ?_
  intro p e s m below meth c ls S hr hlk hK hN hl hP
  have X : cg_X c_CG_holds "CommitGroups" 3 dC dI cx p m c s _ := ⟨S.1, S.2.1, S.2.2.2.1, fun w h => S.2.2.2.2 w (List.mem_cons_of_mem _ h), hK, hN, S.2.2.1⟩
  have hS : va_S (gx_A gx_N ad) s.heap s.heap [] := va_S.rf
  have hl : lv_has ls 3 [(0, .ref (ad 0)), (1, .int yq), (2, .int rq)] := hl
  refine lv_iload_n X.1 X.2.1 d_CG_holds_0 rfl (lv_at hl 1 rfl) ?_
  refine cv_CG_61 (rest := []) X hJ hP hS (K_CG_isKey l dC dI cx ad hJ _ yq) rfl rfl (by decide) hl.1 (Nat.le_of_ble_eq_true rfl) ⟨Nat.le_refl _, Nat.le_refl _⟩ d_CG_holds_1 (fun r σ' H locs hq hP hS => ?_)
  obtain ⟨hq0, b1, rfl, hb1, hp1⟩ := hq
  rw [hq0] at hP
  refine gx_if_eq X.1 X.2.1 (tgt := 14) d_CG_holds_4 (by decide) (by omega) (fun h4 => ?_) (fun h4 => ?_)
  · skip
    refine lv_iconst (v := nI 0) X.1 X.2.1 d_CG_holds_14 (by decide) ?_
    refine gx_iret X.1 X.2.1 hr hlk hP hS d_CG_holds_15 ?_
    refine ⟨rfl, Or.inl ⟨fun hh => ?_, rfl⟩⟩
    have := hp1.mpr ⟨hh.1.1, by have := hh.1.2; omega⟩; omega
  · skip
    refine lv_iload_n X.1 X.2.1 d_CG_holds_7 rfl (lv_at hl 2 rfl) ?_
    refine cv_CG_164 (rest := []) X hJ hP hS (K_CG_isReplicaNumber l dC dI cx ad hJ _ rq) rfl rfl (by decide) hl.1 (Nat.le_of_ble_eq_true rfl) ⟨Nat.le_refl _, Nat.le_refl _⟩ d_CG_holds_8 (fun r σ' H locs hq hP hS => ?_)
    obtain ⟨hq0, b8, rfl, hb8, hp8⟩ := hq
    rw [hq0] at hP
    refine gx_if_ne X.1 X.2.1 (tgt := 16) d_CG_holds_11 (by decide) (by omega) (fun h11 => ?_) (fun h11 => ?_)
    · skip
      have hh1 := hp1.mp (by omega)
      have hh8 := hp8.mp (by omega)
      obtain ⟨y, rfl, y1, y2, y3⟩ := gi_of (t := yq) (n := 11) (by omega) (by omega)
      obtain ⟨r', rfl, r1, r2, r3⟩ := gi_of (t := rq) (n := 2) (by omega) (by omega)
      have ed : (y % 3 * 3 + r') / 3 = y % 3 := by omega
      have em : (y % 3 * 3 + r') % 3 = r' := by omega
      obtain ⟨hs0, pp⟩ := hx.2.2.2.1 (y % 3) r' (by omega) (by omega)
      refine lv_aload_n X.1 X.2.1 d_CG_holds_16 rfl (lv_at hl 0 rfl) ?_
      refine gg_CG_24 X hP d_CG_holds_17 ?_
      refine lv_iload_n X.1 X.2.1 d_CG_holds_20 rfl (lv_at hl 1 rfl) ?_
      refine lv_iconst (v := nI 3) X.1 X.2.1 d_CG_holds_21 (by decide) ?_
      refine gx_irem X.1 X.2.1 d_CG_holds_22 (by omega) (by decide) (by decide) ?_
      refine lv_iconst (v := nI 3) X.1 X.2.1 d_CG_holds_23 (by decide) ?_
      refine gx_imul X.1 X.2.1 d_CG_holds_24 ?_
      refine lv_iload_n X.1 X.2.1 d_CG_holds_25 rfl (lv_at hl 2 rfl) ?_
      refine gx_iadd X.1 X.2.1 d_CG_holds_26 ?_
      refine gr_ss (by omega) X hP d_CG_holds_27 ?_
      rw [ed, em]
      refine lv_iload_n X.1 X.2.1 d_CG_holds_28 rfl (lv_at hl 1 rfl) ?_
      refine lv_iconst (v := nI 3) X.1 X.2.1 d_CG_holds_29 (by decide) ?_
      refine gx_idiv X.1 X.2.1 d_CG_holds_30 (by omega) (by decide) (by decide) ?_
      refine cv_CG_170 (rest := []) X hJ hP hS (nSt_lt (by omega) (by omega)) (ec_nSS (by omega) (by omega) _) (K_SS_holderOf l dC dI cx ad hJ _ (y % 3) r' (y / 3) (by omega) (by omega) (by omega) ((pT_bd pp).1 _ (by omega)) ((pT_bd pp).2 _ (by omega))) rfl rfl (by decide) hl.1 (Nat.le_of_ble_eq_true rfl) ⟨Nat.le_refl _, Nat.le_refl _⟩ d_CG_holds_31 (fun r σ' H locs hq hP hS => ?_)
      obtain ⟨hq0, hqr⟩ := hq
      rw [hq0] at hP
      refine gx_iret X.1 X.2.1 hr hlk hP hS d_CG_holds_34 ?_
      exact ⟨rfl, Or.inr ⟨y, r', rfl, rfl, y1, r1, hqr⟩⟩
    · skip
      refine lv_iconst (v := nI 0) X.1 X.2.1 d_CG_holds_14 (by decide) ?_
      refine gx_iret X.1 X.2.1 hr hlk hP hS d_CG_holds_15 ?_
      refine ⟨rfl, Or.inl ⟨fun hh => ?_, rfl⟩⟩
      have := hp8.mpr ⟨hh.2.1, by have := hh.2.2; omega⟩; omega
noncomputable def ab_res (a : ab_S) (t i : Int) : Int64 := by
  classical exact if ab_is a t ∧ 0 ≤ i ∧ i < (ab_op a t.toNat).length ∧ ab_kd a t.toNat = 1 ∧ ab_kv a t.toNat (pu_sh (ab_op a t.toNat) i.toNat) = 1 then (nI (ab_rs a t.toNat i.toNat)).toInt64 else 1099511627776
set_option maxRecDepth 100000 in
set_option maxHeartbeats 4000000 in
theorem K_CG_result (l : Launch) (dC : Nat → ClassId) (dI : Nat → Nat → Nat) (cx : Nat → ClassId) (ad : Nat → Nat) (hJ : gx_J gx_N ad (gx_A gx_N ad)) (σ : gx_M) (a : ab_S) (tq iq : Int32) (hw : ab_W a) (hx : xr σ a) (hkd : ∀ u, ab_kd a u ≤ 2) (hkv : ∀ u x, x < 3 → ab_kv a u x ≤ 2) : cg_Ml l dC dI cx ad y_CG_result w_CG_result 1 [.ref (ad 0), .int tq, .int iq] σ (fun r σ' => σ' = σ ∧ r = ab_res a tq.toInt iq.toInt) := by
  refine gx_ofW (cc := c_CG_result) (maxL := 4) (ret := (Option.some Jvm.ClassFile.FieldType.long)) (by decide) rfl (Nat.le_of_ble_eq_true rfl) ?_
  intro p e s m below meth c ls S hr hlk hK hN hl hP
  have X : cg_X c_CG_result "CommitGroups" 4 dC dI cx p m c s _ := ⟨S.1, S.2.1, S.2.2.2.1, fun w h => S.2.2.2.2 w (List.mem_cons_of_mem _ h), hK, hN, S.2.2.1⟩
  have hS : va_S (gx_A gx_N ad) s.heap s.heap [] := va_S.rf
  have hl : lv_has ls 4 [(0, .ref (ad 0)), (1, .int tq), (2, .int iq)] := hl
  have hn : σ 0 5 = ab_n a := hx.1
  have hn20 := hw.1
  refine lv_aload_n X.1 X.2.1 d_CG_result_0 rfl (lv_at hl 0 rfl) ?_
  refine lv_iload_n X.1 X.2.1 d_CG_result_1 rfl (lv_at hl 1 rfl) ?_
  refine cv_CG_57 (rest := []) X hJ hP hS (by decide) (ec_CG _) (K_CG_isTransaction l dC dI cx ad hJ σ tq (by omega)) rfl rfl (by decide) hl.1 (Nat.le_of_ble_eq_true rfl) ⟨Nat.le_refl _, Nat.le_refl _⟩ d_CG_result_2 (fun r σ' H locs hq hP hS => ?_)
  obtain ⟨hq0, b2, rfl, hb2, hp2⟩ := hq
  rw [hq0] at hP
  rw [hn] at hp2
  refine gx_if_eq X.1 X.2.1 (tgt := 25) d_CG_result_5 (by decide) (by omega) (fun h5 => ?_) (fun h5 => ?_)
  · skip
    refine lv_ldc2 (v := 1099511627776) X.1 X.2.1 X.2.2.1 (X.2.2.2.1 _ (gU_mem (List.mem_append_right _ (List.mem_append_right _ (List.mem_append_left _ (List.mem_of_getElem? (i := 121) rfl)))) rfl)) d_CG_result_25 ?_
    refine gx_lret X.1 X.2.1 hr hlk hP hS d_CG_result_28 ?_
    refine ⟨rfl, ?_⟩
    unfold ab_res
    rw [if_neg (fun hh => ?_)]
    have := hp2.mpr ⟨hh.1.1, hh.1.2⟩; omega
  · skip
    refine lv_iload_n X.1 X.2.1 d_CG_result_8 rfl (lv_at hl 2 rfl) ?_
    refine lv_if_lt X.1 X.2.1 (tgt := 25) d_CG_result_9 (by decide) (fun h9 => ?_) (fun h9 => ?_)
    · skip
      refine lv_ldc2 (v := 1099511627776) X.1 X.2.1 X.2.2.1 (X.2.2.2.1 _ (gU_mem (List.mem_append_right _ (List.mem_append_right _ (List.mem_append_left _ (List.mem_of_getElem? (i := 121) rfl)))) rfl)) d_CG_result_25 ?_
      refine gx_lret X.1 X.2.1 hr hlk hP hS d_CG_result_28 ?_
      have h9 := gi_lt0.mp h9
      refine ⟨rfl, ?_⟩
      unfold ab_res
      rw [if_neg (fun hh => ?_)]
      have := hh.2.1; omega
    · skip
      have hh2 := hp2.mp (by omega)
      obtain ⟨u, rfl, u1, u2, u3⟩ := gi_of (t := tq) (n := ab_n a) (by omega) (by omega)
      have hl4 := (hw.2.1 u).1
      refine lv_iload_n X.1 X.2.1 d_CG_result_12 rfl (lv_at hl 2 rfl) ?_
      refine lv_aload_n X.1 X.2.1 d_CG_result_13 rfl (lv_at hl 0 rfl) ?_
      refine gg_CG_12 X hP d_CG_result_14 ?_
      refine lv_iload_n X.1 X.2.1 d_CG_result_17 rfl (lv_at hl 1 rfl) ?_
      refine gr_bk (by omega) X hP d_CG_result_18 ?_
      refine gg_CG_120 (by omega) X hP d_CG_result_19 ?_
      rw [(hx.2.1 u (by omega)).1]
      refine lv_icmp_lt X.1 X.2.1 (tgt := 29) d_CG_result_22 (by decide) (fun h22 => ?_) (fun h22 => ?_)
      · skip
        have h9 := mt gi_lt0.mpr h9
        have h22 := (gi_ltn (by omega)).mp h22
        obtain ⟨i, rfl, i1, i2, i3⟩ := gi_of (t := iq) (n := 3) (by omega) (by omega)
        obtain ⟨o, ho⟩ : ∃ o, (ab_op a u)[i]? = some o := ⟨(ab_op a u)[i], List.getElem?_eq_getElem (by omega)⟩
        have esh : pu_sh (ab_op a u) i = o.2.1 % 3 := pd_sh ho
        have y2 := (hw.2.1 u).2 o (List.mem_of_getElem? ho)
        have k1 := hkd u
        have k2 := hkv u (o.2.1 % 3) (by omega)
        refine lv_aload_n X.1 X.2.1 d_CG_result_29 rfl (lv_at hl 0 rfl) ?_
        refine gg_CG_12 X hP d_CG_result_30 ?_
        refine lv_iload_n X.1 X.2.1 d_CG_result_33 rfl (lv_at hl 1 rfl) ?_
        refine gr_bk (by omega) X hP d_CG_result_34 ?_
        refine gg_CG_125 (by omega) X hP d_CG_result_35 ?_
        refine lv_iload_n X.1 X.2.1 d_CG_result_38 rfl (lv_at hl 2 rfl) ?_
        refine ga_nTy (by omega) (by omega) X hP d_CG_result_39 ?_
        rw [((hx.2.1 u (by omega)).2.2.1 i o ho).2.1]
        refine lv_iconst (v := nI 3) X.1 X.2.1 d_CG_result_40 (by decide) ?_
        refine gx_irem X.1 X.2.1 d_CG_result_41 (by omega) (by decide) (by decide) ?_
        refine lv_istore_n X.1 X.2.1 d_CG_result_42 rfl hl (by decide) rfl (fun ls hl => ?_)
        have hl : lv_has ls 4 [(3, .int (nI (o.2.1 % 3))), (0, .ref (ad 0)), (1, .int (nI u)), (2, .int (nI i))] := hl
        refine lv_aload_n X.1 X.2.1 d_CG_result_43 rfl (lv_at hl 1 rfl) ?_
        refine gg_CG_37 X hP d_CG_result_44 ?_
        refine gg_CG_98 X hP d_CG_result_47 ?_
        refine lv_iload_n X.1 X.2.1 d_CG_result_50 rfl (lv_at hl 2 rfl) ?_
        refine ga_112 (by omega) X hP d_CG_result_51 ?_
        rw [hx.2.2.2.2.2.2.2.1 u (by omega)]
        refine lv_iconst (v := nI 1) X.1 X.2.1 d_CG_result_52 (by decide) ?_
        refine gx_icmp_ne X.1 X.2.1 (tgt := 73) d_CG_result_53 (by decide) (by omega) (by omega) (fun h53 => ?_) (fun h53 => ?_)
        · skip
          refine lv_ldc2 (v := 1099511627776) X.1 X.2.1 X.2.2.1 (X.2.2.2.1 _ (gU_mem (List.mem_append_right _ (List.mem_append_right _ (List.mem_append_left _ (List.mem_of_getElem? (i := 121) rfl)))) rfl)) d_CG_result_73 ?_
          refine gx_lret X.1 X.2.1 hr hlk hP hS d_CG_result_76 ?_
          refine ⟨rfl, ?_⟩
          unfold ab_res
          rw [if_neg (fun hh => ?_)]
          have := hh.2.2.2.1
          rw [u3] at this; exact h53 this
        · skip
          refine lv_aload_n X.1 X.2.1 d_CG_result_56 rfl (lv_at hl 1 rfl) ?_
          refine gg_CG_37 X hP d_CG_result_57 ?_
          refine gg_CG_119 X hP d_CG_result_60 ?_
          refine lv_iload_n X.1 X.2.1 d_CG_result_63 rfl (lv_at hl 2 rfl) ?_
          refine lv_iconst (v := nI 3) X.1 X.2.1 d_CG_result_64 (by decide) ?_
          refine gx_imul X.1 X.2.1 d_CG_result_65 ?_
          refine lv_iload_n X.1 X.2.1 d_CG_result_66 rfl (lv_at hl 0 rfl) ?_
          refine gx_iadd X.1 X.2.1 d_CG_result_67 ?_
          refine ga_111 (by omega) X hP d_CG_result_68 ?_
          rw [show σ 111 (u * 3 + o.2.1 % 3) = ab_kv a u (o.2.1 % 3) by rw [Nat.mul_comm]; exact hx.2.2.2.2.2.2.1 u _ (by omega) (by omega)]
          refine lv_iconst (v := nI 1) X.1 X.2.1 d_CG_result_69 (by decide) ?_
          refine gx_icmp_eq X.1 X.2.1 (tgt := 77) d_CG_result_70 (by decide) (by omega) (by omega) (fun h70 => ?_) (fun h70 => ?_)
          · skip
            refine lv_aload_n X.1 X.2.1 d_CG_result_77 rfl (lv_at hl 1 rfl) ?_
            refine gg_CG_37 X hP d_CG_result_78 ?_
            refine gg_CG_128 X hP d_CG_result_81 ?_
            refine lv_iload_n X.1 X.2.1 d_CG_result_84 rfl (lv_at hl 2 rfl) ?_
            refine lv_iconst (v := nI 4) X.1 X.2.1 d_CG_result_85 (by decide) ?_
            refine gx_imul X.1 X.2.1 d_CG_result_86 ?_
            refine lv_iload_n X.1 X.2.1 d_CG_result_87 rfl (lv_at hl 3 rfl) ?_
            refine gx_iadd X.1 X.2.1 d_CG_result_88 ?_
            refine ga_113 (by omega) X hP d_CG_result_89 ?_
            rw [show σ 113 (u * 4 + i) = ab_rs a u i by rw [Nat.mul_comm]; exact hx.2.2.2.2.2.2.2.2 u i (by omega) (by omega)]
            refine lv_i2l (v := ((nI (ab_rs a u i))).toInt64) X.1 X.2.1 d_CG_result_90 rfl ?_
            refine gx_lret X.1 X.2.1 hr hlk hP hS d_CG_result_91 ?_
            refine ⟨rfl, ?_⟩
            unfold ab_res
            rw [if_pos ⟨⟨by omega, by omega⟩, by omega, by rw [u3]; omega, by rw [u3]; exact h53, by rw [u3, i3, esh]; exact h70⟩, u3, i3]
          · skip
            refine lv_ldc2 (v := 1099511627776) X.1 X.2.1 X.2.2.1 (X.2.2.2.1 _ (gU_mem (List.mem_append_right _ (List.mem_append_right _ (List.mem_append_left _ (List.mem_of_getElem? (i := 121) rfl)))) rfl)) d_CG_result_73 ?_
            refine gx_lret X.1 X.2.1 hr hlk hP hS d_CG_result_76 ?_
            refine ⟨rfl, ?_⟩
            unfold ab_res
            rw [if_neg (fun hh => ?_)]
            have := hh.2.2.2.2
            rw [u3, i3, esh] at this; exact h70 this
      · skip
        refine lv_ldc2 (v := 1099511627776) X.1 X.2.1 X.2.2.1 (X.2.2.2.1 _ (gU_mem (List.mem_append_right _ (List.mem_append_right _ (List.mem_append_left _ (List.mem_of_getElem? (i := 121) rfl)))) rfl)) d_CG_result_25 ?_
        refine gx_lret X.1 X.2.1 hr hlk hP hS d_CG_result_28 ?_
        have h22 := mt (gi_ltn (by omega)).mpr h22
        refine ⟨rfl, ?_⟩
        unfold ab_res
        rw [if_neg (fun hh => ?_)]
        have := hh.2.2.1
        rw [u3] at this; omega
