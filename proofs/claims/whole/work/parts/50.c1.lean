/-! contracts: small reads of the system -/
set_option maxRecDepth 100000 in
set_option maxHeartbeats 4000000 in
theorem K_CG_isTransaction (l : Launch) (dC : Nat → ClassId) (dI : Nat → Nat → Nat) (cx : Nat → ClassId) (ad : Nat → Nat) (hJ : gx_J gx_N ad (gx_A gx_N ad)) (σ : gx_M) (t : Int32) (ho : σ 0 5 < 2 ^ 31) : cg_Mi l dC dI cx ad y_CG_isTransaction w_CG_isTransaction 0 [.ref (ad 0), .int t] σ (fun r σ' => σ' = σ ∧ gx_bo (1 ≤ t.toInt ∧ t.toInt ≤ σ 0 5) r) := by
  refine gx_ofW (cc := c_CG_isTransaction) (maxL := 2) (ret := (Option.some Jvm.ClassFile.FieldType.boolean)) (by decide) rfl (Nat.le_of_ble_eq_true rfl) ?_
  intro p e s m below meth c ls S hr hlk hK hN hl hP
  have X : cg_X c_CG_isTransaction "CommitGroups" 2 dC dI cx p m c s _ := ⟨S.1, S.2.1, S.2.2.2.1, fun w h => S.2.2.2.2 w (List.mem_cons_of_mem _ h), hK, hN, S.2.2.1⟩
  have hS : va_S (gx_A gx_N ad) s.heap s.heap [] := va_S.rf
  have hl : lv_has ls 2 [(0, .ref (ad 0)), (1, .int t)] := hl
  refine lv_iload_n X.1 X.2.1 d_CG_isTransaction_0 rfl (lv_at hl 1 rfl) ?_
  refine lv_iconst (v := nI 1) X.1 X.2.1 d_CG_isTransaction_1 (by decide) ?_
  refine lv_icmp_lt X.1 X.2.1 (tgt := 17) d_CG_isTransaction_2 (by decide) (fun h2 => ?_) (fun h2 => ?_)
  · skip
    refine lv_iconst (v := nI 0) X.1 X.2.1 d_CG_isTransaction_17 (by decide) ?_
    refine gx_zret X.1 X.2.1 hr hlk hP hS d_CG_isTransaction_18 (by decide) ?_
    have h2 := (gi_ltn (by decide)).mp h2
    exact ⟨rfl, gx_bo0 (by omega)⟩
  · skip
    refine lv_iload_n X.1 X.2.1 d_CG_isTransaction_5 rfl (lv_at hl 1 rfl) ?_
    refine lv_aload_n X.1 X.2.1 d_CG_isTransaction_6 rfl (lv_at hl 0 rfl) ?_
    refine gg_CG_41 X hP d_CG_isTransaction_7 ?_
    refine lv_icmp_gt X.1 X.2.1 (tgt := 17) d_CG_isTransaction_10 (by decide) (fun h10 => ?_) (fun h10 => ?_)
    · skip
      refine lv_iconst (v := nI 0) X.1 X.2.1 d_CG_isTransaction_17 (by decide) ?_
      refine gx_zret X.1 X.2.1 hr hlk hP hS d_CG_isTransaction_18 (by decide) ?_
      have h10 := (gi_nlt ho).mp h10
      exact ⟨rfl, gx_bo0 (by omega)⟩
    · skip
      refine lv_iconst (v := nI 1) X.1 X.2.1 d_CG_isTransaction_13 (by decide) ?_
      refine lv_goto (tgt := 18) X.1 X.2.1 d_CG_isTransaction_14 (by decide) ?_
      refine gx_zret X.1 X.2.1 hr hlk hP hS d_CG_isTransaction_18 (by decide) ?_
      have h2 := mt (gi_ltn (by decide)).mpr h2
      have h10 := mt (gi_nlt ho).mpr h10
      exact ⟨rfl, gx_bo1 (by omega)⟩
set_option maxRecDepth 100000 in
set_option maxHeartbeats 4000000 in
theorem K_CG_isKey (l : Launch) (dC : Nat → ClassId) (dI : Nat → Nat → Nat) (cx : Nat → ClassId) (ad : Nat → Nat) (hJ : gx_J gx_N ad (gx_A gx_N ad)) (σ : gx_M) (t : Int32)  : cg_Mi l dC dI cx ad y_CG_isKey w_CG_isKey 0 [.int t] σ (fun r σ' => σ' = σ ∧ gx_bo (0 ≤ t.toInt ∧ t.toInt < 12) r) := by
  refine gx_ofW (cc := c_CG_isKey) (maxL := 1) (ret := (Option.some Jvm.ClassFile.FieldType.boolean)) (by decide) rfl (Nat.le_of_ble_eq_true rfl) ?_
  intro p e s m below meth c ls S hr hlk hK hN hl hP
  have X : cg_X c_CG_isKey "CommitGroups" 1 dC dI cx p m c s _ := ⟨S.1, S.2.1, S.2.2.2.1, fun w h => S.2.2.2.2 w (List.mem_cons_of_mem _ h), hK, hN, S.2.2.1⟩
  have hS : va_S (gx_A gx_N ad) s.heap s.heap [] := va_S.rf
  have hl : lv_has ls 1 [(0, .int t)] := hl
  refine lv_iload_n X.1 X.2.1 d_CG_isKey_0 rfl (lv_at hl 0 rfl) ?_
  refine lv_if_lt X.1 X.2.1 (tgt := 14) d_CG_isKey_1 (by decide) (fun h1 => ?_) (fun h1 => ?_)
  · skip
    refine lv_iconst (v := nI 0) X.1 X.2.1 d_CG_isKey_14 (by decide) ?_
    refine gx_zret X.1 X.2.1 hr hlk hP hS d_CG_isKey_15 (by decide) ?_
    have h1 := gi_lt0.mp h1
    exact ⟨rfl, gx_bo0 (by omega)⟩
  · skip
    refine lv_iload_n X.1 X.2.1 d_CG_isKey_4 rfl (lv_at hl 0 rfl) ?_
    refine lv_bipush (v := nI 12) X.1 X.2.1 d_CG_isKey_5 (by decide) ?_
    refine lv_icmp_ge X.1 X.2.1 (tgt := 14) d_CG_isKey_7 (by decide) (fun h7 => ?_) (fun h7 => ?_)
    · skip
      refine lv_iconst (v := nI 0) X.1 X.2.1 d_CG_isKey_14 (by decide) ?_
      refine gx_zret X.1 X.2.1 hr hlk hP hS d_CG_isKey_15 (by decide) ?_
      have h7 := (gi_nle (by decide)).mp h7
      exact ⟨rfl, gx_bo0 (by omega)⟩
    · skip
      refine lv_iconst (v := nI 1) X.1 X.2.1 d_CG_isKey_10 (by decide) ?_
      refine lv_goto (tgt := 15) X.1 X.2.1 d_CG_isKey_11 (by decide) ?_
      refine gx_zret X.1 X.2.1 hr hlk hP hS d_CG_isKey_15 (by decide) ?_
      have h1 := mt gi_lt0.mpr h1
      have h7 := mt (gi_nle (by decide)).mpr h7
      exact ⟨rfl, gx_bo1 (by omega)⟩
set_option maxRecDepth 100000 in
set_option maxHeartbeats 4000000 in
theorem K_CG_isShard (l : Launch) (dC : Nat → ClassId) (dI : Nat → Nat → Nat) (cx : Nat → ClassId) (ad : Nat → Nat) (hJ : gx_J gx_N ad (gx_A gx_N ad)) (σ : gx_M) (t : Int32)  : cg_Mi l dC dI cx ad y_CG_isShard w_CG_isShard 0 [.int t] σ (fun r σ' => σ' = σ ∧ gx_bo (0 ≤ t.toInt ∧ t.toInt < 3) r) := by
  refine gx_ofW (cc := c_CG_isShard) (maxL := 1) (ret := (Option.some Jvm.ClassFile.FieldType.boolean)) (by decide) rfl (Nat.le_of_ble_eq_true rfl) ?_
  intro p e s m below meth c ls S hr hlk hK hN hl hP
  have X : cg_X c_CG_isShard "CommitGroups" 1 dC dI cx p m c s _ := ⟨S.1, S.2.1, S.2.2.2.1, fun w h => S.2.2.2.2 w (List.mem_cons_of_mem _ h), hK, hN, S.2.2.1⟩
  have hS : va_S (gx_A gx_N ad) s.heap s.heap [] := va_S.rf
  have hl : lv_has ls 1 [(0, .int t)] := hl
  refine lv_iload_n X.1 X.2.1 d_CG_isShard_0 rfl (lv_at hl 0 rfl) ?_
  refine lv_if_lt X.1 X.2.1 (tgt := 13) d_CG_isShard_1 (by decide) (fun h1 => ?_) (fun h1 => ?_)
  · skip
    refine lv_iconst (v := nI 0) X.1 X.2.1 d_CG_isShard_13 (by decide) ?_
    refine gx_zret X.1 X.2.1 hr hlk hP hS d_CG_isShard_14 (by decide) ?_
    have h1 := gi_lt0.mp h1
    exact ⟨rfl, gx_bo0 (by omega)⟩
  · skip
    refine lv_iload_n X.1 X.2.1 d_CG_isShard_4 rfl (lv_at hl 0 rfl) ?_
    refine lv_iconst (v := nI 3) X.1 X.2.1 d_CG_isShard_5 (by decide) ?_
    refine lv_icmp_ge X.1 X.2.1 (tgt := 13) d_CG_isShard_6 (by decide) (fun h6 => ?_) (fun h6 => ?_)
    · skip
      refine lv_iconst (v := nI 0) X.1 X.2.1 d_CG_isShard_13 (by decide) ?_
      refine gx_zret X.1 X.2.1 hr hlk hP hS d_CG_isShard_14 (by decide) ?_
      have h6 := (gi_nle (by decide)).mp h6
      exact ⟨rfl, gx_bo0 (by omega)⟩
    · skip
      refine lv_iconst (v := nI 1) X.1 X.2.1 d_CG_isShard_9 (by decide) ?_
      refine lv_goto (tgt := 14) X.1 X.2.1 d_CG_isShard_10 (by decide) ?_
      refine gx_zret X.1 X.2.1 hr hlk hP hS d_CG_isShard_14 (by decide) ?_
      have h1 := mt gi_lt0.mpr h1
      have h6 := mt (gi_nle (by decide)).mpr h6
      exact ⟨rfl, gx_bo1 (by omega)⟩
set_option maxRecDepth 100000 in
set_option maxHeartbeats 4000000 in
theorem K_CG_isGroup (l : Launch) (dC : Nat → ClassId) (dI : Nat → Nat → Nat) (cx : Nat → ClassId) (ad : Nat → Nat) (hJ : gx_J gx_N ad (gx_A gx_N ad)) (σ : gx_M) (t : Int32)  : cg_Mi l dC dI cx ad y_CG_isGroup w_CG_isGroup 0 [.int t] σ (fun r σ' => σ' = σ ∧ gx_bo (0 ≤ t.toInt ∧ t.toInt < 4) r) := by
  refine gx_ofW (cc := c_CG_isGroup) (maxL := 1) (ret := (Option.some Jvm.ClassFile.FieldType.boolean)) (by decide) rfl (Nat.le_of_ble_eq_true rfl) ?_
  intro p e s m below meth c ls S hr hlk hK hN hl hP
  have X : cg_X c_CG_isGroup "CommitGroups" 1 dC dI cx p m c s _ := ⟨S.1, S.2.1, S.2.2.2.1, fun w h => S.2.2.2.2 w (List.mem_cons_of_mem _ h), hK, hN, S.2.2.1⟩
  have hS : va_S (gx_A gx_N ad) s.heap s.heap [] := va_S.rf
  have hl : lv_has ls 1 [(0, .int t)] := hl
  refine lv_iload_n X.1 X.2.1 d_CG_isGroup_0 rfl (lv_at hl 0 rfl) ?_
  refine lv_if_lt X.1 X.2.1 (tgt := 13) d_CG_isGroup_1 (by decide) (fun h1 => ?_) (fun h1 => ?_)
  · skip
    refine lv_iconst (v := nI 0) X.1 X.2.1 d_CG_isGroup_13 (by decide) ?_
    refine gx_zret X.1 X.2.1 hr hlk hP hS d_CG_isGroup_14 (by decide) ?_
    have h1 := gi_lt0.mp h1
    exact ⟨rfl, gx_bo0 (by omega)⟩
  · skip
    refine lv_iload_n X.1 X.2.1 d_CG_isGroup_4 rfl (lv_at hl 0 rfl) ?_
    refine lv_iconst (v := nI 4) X.1 X.2.1 d_CG_isGroup_5 (by decide) ?_
    refine lv_icmp_ge X.1 X.2.1 (tgt := 13) d_CG_isGroup_6 (by decide) (fun h6 => ?_) (fun h6 => ?_)
    · skip
      refine lv_iconst (v := nI 0) X.1 X.2.1 d_CG_isGroup_13 (by decide) ?_
      refine gx_zret X.1 X.2.1 hr hlk hP hS d_CG_isGroup_14 (by decide) ?_
      have h6 := (gi_nle (by decide)).mp h6
      exact ⟨rfl, gx_bo0 (by omega)⟩
    · skip
      refine lv_iconst (v := nI 1) X.1 X.2.1 d_CG_isGroup_9 (by decide) ?_
      refine lv_goto (tgt := 14) X.1 X.2.1 d_CG_isGroup_10 (by decide) ?_
      refine gx_zret X.1 X.2.1 hr hlk hP hS d_CG_isGroup_14 (by decide) ?_
      have h1 := mt gi_lt0.mpr h1
      have h6 := mt (gi_nle (by decide)).mpr h6
      exact ⟨rfl, gx_bo1 (by omega)⟩
set_option maxRecDepth 100000 in
set_option maxHeartbeats 4000000 in
theorem K_CG_isReplicaNumber (l : Launch) (dC : Nat → ClassId) (dI : Nat → Nat → Nat) (cx : Nat → ClassId) (ad : Nat → Nat) (hJ : gx_J gx_N ad (gx_A gx_N ad)) (σ : gx_M) (t : Int32)  : cg_Mi l dC dI cx ad y_CG_isReplicaNumber w_CG_isReplicaNumber 0 [.int t] σ (fun r σ' => σ' = σ ∧ gx_bo (0 ≤ t.toInt ∧ t.toInt < 3) r) := by
  refine gx_ofW (cc := c_CG_isReplicaNumber) (maxL := 1) (ret := (Option.some Jvm.ClassFile.FieldType.boolean)) (by decide) rfl (Nat.le_of_ble_eq_true rfl) ?_
  intro p e s m below meth c ls S hr hlk hK hN hl hP
  have X : cg_X c_CG_isReplicaNumber "CommitGroups" 1 dC dI cx p m c s _ := ⟨S.1, S.2.1, S.2.2.2.1, fun w h => S.2.2.2.2 w (List.mem_cons_of_mem _ h), hK, hN, S.2.2.1⟩
  have hS : va_S (gx_A gx_N ad) s.heap s.heap [] := va_S.rf
  have hl : lv_has ls 1 [(0, .int t)] := hl
  refine lv_iload_n X.1 X.2.1 d_CG_isReplicaNumber_0 rfl (lv_at hl 0 rfl) ?_
  refine lv_if_lt X.1 X.2.1 (tgt := 13) d_CG_isReplicaNumber_1 (by decide) (fun h1 => ?_) (fun h1 => ?_)
  · skip
    refine lv_iconst (v := nI 0) X.1 X.2.1 d_CG_isReplicaNumber_13 (by decide) ?_
    refine gx_zret X.1 X.2.1 hr hlk hP hS d_CG_isReplicaNumber_14 (by decide) ?_
    have h1 := gi_lt0.mp h1
    exact ⟨rfl, gx_bo0 (by omega)⟩
  · skip
    refine lv_iload_n X.1 X.2.1 d_CG_isReplicaNumber_4 rfl (lv_at hl 0 rfl) ?_
    refine lv_iconst (v := nI 3) X.1 X.2.1 d_CG_isReplicaNumber_5 (by decide) ?_
    refine lv_icmp_ge X.1 X.2.1 (tgt := 13) d_CG_isReplicaNumber_6 (by decide) (fun h6 => ?_) (fun h6 => ?_)
    · skip
      refine lv_iconst (v := nI 0) X.1 X.2.1 d_CG_isReplicaNumber_13 (by decide) ?_
      refine gx_zret X.1 X.2.1 hr hlk hP hS d_CG_isReplicaNumber_14 (by decide) ?_
      have h6 := (gi_nle (by decide)).mp h6
      exact ⟨rfl, gx_bo0 (by omega)⟩
    · skip
      refine lv_iconst (v := nI 1) X.1 X.2.1 d_CG_isReplicaNumber_9 (by decide) ?_
      refine lv_goto (tgt := 14) X.1 X.2.1 d_CG_isReplicaNumber_10 (by decide) ?_
      refine gx_zret X.1 X.2.1 hr hlk hP hS d_CG_isReplicaNumber_14 (by decide) ?_
      have h1 := mt gi_lt0.mpr h1
      have h6 := mt (gi_nle (by decide)).mpr h6
      exact ⟨rfl, gx_bo1 (by omega)⟩
set_option maxRecDepth 100000 in
set_option maxHeartbeats 4000000 in
theorem K_CG_isReplica (l : Launch) (dC : Nat → ClassId) (dI : Nat → Nat → Nat) (cx : Nat → ClassId) (ad : Nat → Nat) (hJ : gx_J gx_N ad (gx_A gx_N ad)) (σ : gx_M) (g r : Int32)  : cg_Mi l dC dI cx ad y_CG_isReplica w_CG_isReplica 1 [.int g, .int r] σ (fun z σ' => σ' = σ ∧ gx_bo ((0 ≤ g.toInt ∧ g.toInt < 4) ∧ (0 ≤ r.toInt ∧ r.toInt < 3)) z) := by
  refine gx_ofW (cc := c_CG_isReplica) (maxL := 2) (ret := (Option.some Jvm.ClassFile.FieldType.boolean)) (by decide) rfl (Nat.le_of_ble_eq_true rfl) ?_
  intro p e s m below meth c ls S hr hlk hK hN hl hP
  have X : cg_X c_CG_isReplica "CommitGroups" 2 dC dI cx p m c s _ := ⟨S.1, S.2.1, S.2.2.2.1, fun w h => S.2.2.2.2 w (List.mem_cons_of_mem _ h), hK, hN, S.2.2.1⟩
  have hS : va_S (gx_A gx_N ad) s.heap s.heap [] := va_S.rf
  have hl : lv_has ls 2 [(0, .int g), (1, .int r)] := hl
  refine lv_iload_n X.1 X.2.1 d_CG_isReplica_0 rfl (lv_at hl 0 rfl) ?_
  refine cv_CG_142 (rest := []) X hJ hP hS (K_CG_isGroup l dC dI cx ad hJ σ g) rfl rfl (by decide) hl.1 (Nat.le_of_ble_eq_true rfl) ⟨Nat.le_refl _, Nat.le_refl _⟩ d_CG_isReplica_1 (fun r σ' H locs hq hP hS => ?_)
  obtain ⟨hq0, b1, rfl, hb1, hp1⟩ := hq
  rw [hq0] at hP
  refine gx_if_eq X.1 X.2.1 (tgt := 18) d_CG_isReplica_4 (by decide) (by omega) (fun h4 => ?_) (fun h4 => ?_)
  · skip
    refine lv_iconst (v := nI 0) X.1 X.2.1 d_CG_isReplica_18 (by decide) ?_
    refine gx_zret X.1 X.2.1 hr hlk hP hS d_CG_isReplica_19 (by decide) ?_
    exact ⟨rfl, gx_bo0 (fun q => by have := hp1.mpr q.1; omega)⟩
  · skip
    refine lv_iload_n X.1 X.2.1 d_CG_isReplica_7 rfl (lv_at hl 1 rfl) ?_
    refine cv_CG_164 (rest := []) X hJ hP hS (K_CG_isReplicaNumber l dC dI cx ad hJ _ r) rfl rfl (by decide) hl.1 (Nat.le_of_ble_eq_true rfl) ⟨Nat.le_refl _, Nat.le_refl _⟩ d_CG_isReplica_8 (fun r σ' H locs hq hP hS => ?_)
    obtain ⟨hq0, b8, rfl, hb8, hp8⟩ := hq
    rw [hq0] at hP
    refine gx_if_eq X.1 X.2.1 (tgt := 18) d_CG_isReplica_11 (by decide) (by omega) (fun h11 => ?_) (fun h11 => ?_)
    · skip
      refine lv_iconst (v := nI 0) X.1 X.2.1 d_CG_isReplica_18 (by decide) ?_
      refine gx_zret X.1 X.2.1 hr hlk hP hS d_CG_isReplica_19 (by decide) ?_
      exact ⟨rfl, gx_bo0 (fun q => by have := hp8.mpr q.2; omega)⟩
    · skip
      refine lv_iconst (v := nI 1) X.1 X.2.1 d_CG_isReplica_14 (by decide) ?_
      refine lv_goto (tgt := 19) X.1 X.2.1 d_CG_isReplica_15 (by decide) ?_
      refine gx_zret X.1 X.2.1 hr hlk hP hS d_CG_isReplica_19 (by decide) ?_
      exact ⟨rfl, gx_bo1 ⟨hp1.mp (by omega), hp8.mp (by omega)⟩⟩
set_option maxRecDepth 100000 in
set_option maxHeartbeats 4000000 in
theorem K_CG_entry (l : Launch) (dC : Nat → ClassId) (dI : Nat → Nat → Nat) (cx : Nat → ClassId) (ad : Nat → Nat) (hJ : gx_J gx_N ad (gx_A gx_N ad)) (σ : gx_M) (k t : Nat)  : cg_Mi l dC dI cx ad y_CG_entry w_CG_entry 0 [.int (nI k), .int (nI t)] σ (fun r σ' => σ' = σ ∧ r = nI (t * 3 + k)) := by
  refine gx_ofW (cc := c_CG_entry) (maxL := 2) (ret := (Option.some Jvm.ClassFile.FieldType.int)) (by decide) rfl (Nat.le_of_ble_eq_true rfl) ?_
  intro p e s m below meth c ls S hr hlk hK hN hl hP
  have X : cg_X c_CG_entry "CommitGroups" 2 dC dI cx p m c s _ := ⟨S.1, S.2.1, S.2.2.2.1, fun w h => S.2.2.2.2 w (List.mem_cons_of_mem _ h), hK, hN, S.2.2.1⟩
  have hS : va_S (gx_A gx_N ad) s.heap s.heap [] := va_S.rf
  have hl : lv_has ls 2 [(0, .int (nI k)), (1, .int (nI t))] := hl
  refine lv_iload_n X.1 X.2.1 d_CG_entry_0 rfl (lv_at hl 1 rfl) ?_
  refine lv_iconst (v := nI 3) X.1 X.2.1 d_CG_entry_1 (by decide) ?_
  refine gx_imul X.1 X.2.1 d_CG_entry_2 ?_
  refine lv_iload_n X.1 X.2.1 d_CG_entry_3 rfl (lv_at hl 0 rfl) ?_
  refine gx_iadd X.1 X.2.1 d_CG_entry_4 ?_
  refine gx_iret X.1 X.2.1 hr hlk hP hS d_CG_entry_5 ?_
  exact ⟨rfl, rfl⟩
