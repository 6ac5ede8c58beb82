/-! contracts: the coordinator -/
set_option maxRecDepth 100000 in
set_option maxHeartbeats 4000000 in
theorem K_Co_forget (l : Launch) (dC : Nat → ClassId) (dI : Nat → Nat → Nat) (cx : Nat → ClassId) (ad : Nat → Nat) (hJ : gx_J gx_N ad (gx_A gx_N ad)) (σ : gx_M)   : cg_Mv l dC dI cx ad y_Co_forget w_Co_forget 1 [.ref (ad 110)] σ (fun σ' => chg (fun q => q = 111 ∨ q = 112) σ σ' ∧ (∀ j, j < 63 → σ' 111 j = 0) ∧ ∀ j, j < 21 → σ' 112 j = 0) := by
  refine gx_ofW (cc := c_Co_forget) (maxL := 1) (ret := (Option.none : Option Jvm.ClassFile.FieldType)) (by decide) rfl (Nat.le_of_ble_eq_true rfl) ?_
  intro p e s m below meth c ls S hr hlk hK hN hl hP
  have X : cg_X c_Co_forget "CommitGroups$Coordinator" 1 dC dI cx p m c s _ := ⟨S.1, S.2.1, S.2.2.2.1, fun w h => S.2.2.2.2 w (List.mem_cons_of_mem _ h), hK, hN, S.2.2.1⟩
  have hS : va_S (gx_A gx_N ad) s.heap s.heap [] := va_S.rf
  have hl : lv_has ls 1 [(0, .ref (ad 110))] := hl
  refine lv_aload_n X.1 X.2.1 d_Co_forget_0 rfl (lv_at hl 0 rfl) ?_
  refine gg_Co_15 X hP d_Co_forget_1 ?_
  refine lv_iconst (v := nI 0) X.1 X.2.1 d_Co_forget_4 (by decide) ?_
  refine cv_Co_25 (rest := []) X hJ hP hS (K_Ar_fill_111 l dC dI cx ad hJ σ) rfl rfl (by decide) hl.1 (Nat.le_of_ble_eq_true rfl) ⟨Nat.le_refl _, Nat.le_refl _⟩ d_Co_forget_5 (fun σ' H locs hq hP hS => ?_)
  obtain ⟨q1, q2⟩ := hq
  refine lv_aload_n X.1 X.2.1 d_Co_forget_8 rfl (lv_at hl 0 rfl) ?_
  refine gg_Co_19 X hP d_Co_forget_9 ?_
  refine lv_iconst (v := nI 0) X.1 X.2.1 d_Co_forget_12 (by decide) ?_
  refine cv_Co_25 (rest := []) X hJ hP hS (K_Ar_fill_112 l dC dI cx ad hJ σ') rfl rfl (by decide) hl.1 (Nat.le_of_ble_eq_true rfl) ⟨Nat.le_refl _, Nat.le_refl _⟩ d_Co_forget_13 (fun υ H locs hq hP hS => ?_)
  obtain ⟨q3, q4⟩ := hq
  refine gx_vret X.1 X.2.1 hr hlk hP hS d_Co_forget_16 ?_
  refine ⟨fun n q => ?_, fun j hj => ?_, q4⟩
  · rw [q3 n (fun z => q (Or.inr z)), q1 n (fun z => q (Or.inl z))]
  · rw [q3 111 (by decide)]; exact q2 j hj
set_option maxRecDepth 100000 in
set_option maxHeartbeats 4000000 in
theorem K_Co_knowsNo (l : Launch) (dC : Nat → ClassId) (dI : Nat → Nat → Nat) (cx : Nat → ClassId) (ad : Nat → Nat) (hJ : gx_J gx_N ad (gx_A gx_N ad)) (σ : gx_M) (a : ab_S) (u : Nat) (hu : u < 21) (hx : xr σ a) (hk2 : ∀ s, s < 3 → ab_kv a u s ≤ 2) : cg_Mi l dC dI cx ad y_Co_knowsNo w_Co_knowsNo 0 [.ref (ad 110), .int (nI u)] σ (fun r σ' => σ' = σ ∧ gx_bo (ab_no a u) r) := by
  refine gx_ofW (cc := c_Co_knowsNo) (maxL := 3) (ret := (Option.some Jvm.ClassFile.FieldType.boolean)) (by decide) rfl (Nat.le_of_ble_eq_true rfl) ?_
  intro p e s m below meth c ls S hr hlk hK hN hl hP
  have X : cg_X c_Co_knowsNo "CommitGroups$Coordinator" 3 dC dI cx p m c s _ := ⟨S.1, S.2.1, S.2.2.2.1, fun w h => S.2.2.2.2 w (List.mem_cons_of_mem _ h), hK, hN, S.2.2.1⟩
  have hS : va_S (gx_A gx_N ad) s.heap s.heap [] := va_S.rf
  have hl : lv_has ls 3 [(0, .ref (ad 110)), (1, .int (nI u))] := hl
  have e0 : σ 111 (u * 3 + 0) = ab_kv a u 0 := by rw [Nat.mul_comm]; exact hx.2.2.2.2.2.2.1 u 0 hu (by decide)
  have k0 := hk2 0 (by decide)
  have e1 : σ 111 (u * 3 + 1) = ab_kv a u 1 := by rw [Nat.mul_comm]; exact hx.2.2.2.2.2.2.1 u 1 hu (by decide)
  have k1 := hk2 1 (by decide)
  have e2 : σ 111 (u * 3 + 2) = ab_kv a u 2 := by rw [Nat.mul_comm]; exact hx.2.2.2.2.2.2.1 u 2 hu (by decide)
  have k2 := hk2 2 (by decide)
  refine lv_iconst (v := nI 0) X.1 X.2.1 d_Co_knowsNo_0 (by decide) ?_
  refine lv_istore_n X.1 X.2.1 d_Co_knowsNo_1 rfl hl (by decide) rfl (fun ls hl => ?_)
  have hl : lv_has ls 3 [(2, .int (nI 0)), (0, .ref (ad 110)), (1, .int (nI u))] := hl
  refine lv_iload_n X.1 X.2.1 d_Co_knowsNo_2 rfl (lv_at hl 0 rfl) ?_
  refine lv_iconst (v := nI 3) X.1 X.2.1 d_Co_knowsNo_3 (by decide) ?_
  refine gx_icmp_ge X.1 X.2.1 (tgt := 29) d_Co_knowsNo_4 (by decide) (by omega) (by omega) (fun h4 => absurd h4 (by decide)) (fun h4 => ?_)
  refine lv_aload_n X.1 X.2.1 d_Co_knowsNo_7 rfl (lv_at hl 1 rfl) ?_
  refine gg_Co_15 X hP d_Co_knowsNo_8 ?_
  refine lv_iload_n X.1 X.2.1 d_Co_knowsNo_11 rfl (lv_at hl 2 rfl) ?_
  refine lv_iconst (v := nI 3) X.1 X.2.1 d_Co_knowsNo_12 (by decide) ?_
  refine gx_imul X.1 X.2.1 d_Co_knowsNo_13 ?_
  refine lv_iload_n X.1 X.2.1 d_Co_knowsNo_14 rfl (lv_at hl 0 rfl) ?_
  refine gx_iadd X.1 X.2.1 d_Co_knowsNo_15 ?_
  refine ga_111 (by omega) X hP d_Co_knowsNo_16 ?_
  rw [e0]
  refine lv_iconst (v := nI 2) X.1 X.2.1 d_Co_knowsNo_17 (by decide) ?_
  refine gx_icmp_ne X.1 X.2.1 (tgt := 23) d_Co_knowsNo_18 (by decide) (by omega) (by omega) (fun h18_0 => ?_) (fun h18_0 => ?_)
  · skip
    refine lv_iinc (k := 0) (v := nI (1)) X.1 X.2.1 d_Co_knowsNo_23 hl rfl (by decide) (by decide) rfl (fun ls hl => ?_)
    have hl : lv_has ls 3 [(2, .int (nI 1)), (0, .ref (ad 110)), (1, .int (nI u))] := hl
    refine lv_goto (tgt := 2) X.1 X.2.1 d_Co_knowsNo_26 (by decide) ?_
    refine lv_iload_n X.1 X.2.1 d_Co_knowsNo_2 rfl (lv_at hl 0 rfl) ?_
    refine lv_iconst (v := nI 3) X.1 X.2.1 d_Co_knowsNo_3 (by decide) ?_
    refine gx_icmp_ge X.1 X.2.1 (tgt := 29) d_Co_knowsNo_4 (by decide) (by omega) (by omega) (fun h4 => absurd h4 (by decide)) (fun h4 => ?_)
    refine lv_aload_n X.1 X.2.1 d_Co_knowsNo_7 rfl (lv_at hl 1 rfl) ?_
    refine gg_Co_15 X hP d_Co_knowsNo_8 ?_
    refine lv_iload_n X.1 X.2.1 d_Co_knowsNo_11 rfl (lv_at hl 2 rfl) ?_
    refine lv_iconst (v := nI 3) X.1 X.2.1 d_Co_knowsNo_12 (by decide) ?_
    refine gx_imul X.1 X.2.1 d_Co_knowsNo_13 ?_
    refine lv_iload_n X.1 X.2.1 d_Co_knowsNo_14 rfl (lv_at hl 0 rfl) ?_
    refine gx_iadd X.1 X.2.1 d_Co_knowsNo_15 ?_
    refine ga_111 (by omega) X hP d_Co_knowsNo_16 ?_
    rw [e1]
    refine lv_iconst (v := nI 2) X.1 X.2.1 d_Co_knowsNo_17 (by decide) ?_
    refine gx_icmp_ne X.1 X.2.1 (tgt := 23) d_Co_knowsNo_18 (by decide) (by omega) (by omega) (fun h18_1 => ?_) (fun h18_1 => ?_)
    · skip
      refine lv_iinc (k := 0) (v := nI (2)) X.1 X.2.1 d_Co_knowsNo_23 hl rfl (by decide) (by decide) rfl (fun ls hl => ?_)
      have hl : lv_has ls 3 [(2, .int (nI 2)), (0, .ref (ad 110)), (1, .int (nI u))] := hl
      refine lv_goto (tgt := 2) X.1 X.2.1 d_Co_knowsNo_26 (by decide) ?_
      refine lv_iload_n X.1 X.2.1 d_Co_knowsNo_2 rfl (lv_at hl 0 rfl) ?_
      refine lv_iconst (v := nI 3) X.1 X.2.1 d_Co_knowsNo_3 (by decide) ?_
      refine gx_icmp_ge X.1 X.2.1 (tgt := 29) d_Co_knowsNo_4 (by decide) (by omega) (by omega) (fun h4 => absurd h4 (by decide)) (fun h4 => ?_)
      refine lv_aload_n X.1 X.2.1 d_Co_knowsNo_7 rfl (lv_at hl 1 rfl) ?_
      refine gg_Co_15 X hP d_Co_knowsNo_8 ?_
      refine lv_iload_n X.1 X.2.1 d_Co_knowsNo_11 rfl (lv_at hl 2 rfl) ?_
      refine lv_iconst (v := nI 3) X.1 X.2.1 d_Co_knowsNo_12 (by decide) ?_
      refine gx_imul X.1 X.2.1 d_Co_knowsNo_13 ?_
      refine lv_iload_n X.1 X.2.1 d_Co_knowsNo_14 rfl (lv_at hl 0 rfl) ?_
      refine gx_iadd X.1 X.2.1 d_Co_knowsNo_15 ?_
      refine ga_111 (by omega) X hP d_Co_knowsNo_16 ?_
      rw [e2]
      refine lv_iconst (v := nI 2) X.1 X.2.1 d_Co_knowsNo_17 (by decide) ?_
      refine gx_icmp_ne X.1 X.2.1 (tgt := 23) d_Co_knowsNo_18 (by decide) (by omega) (by omega) (fun h18_2 => ?_) (fun h18_2 => ?_)
      · skip
        refine lv_iinc (k := 0) (v := nI (3)) X.1 X.2.1 d_Co_knowsNo_23 hl rfl (by decide) (by decide) rfl (fun ls hl => ?_)
        have hl : lv_has ls 3 [(2, .int (nI 3)), (0, .ref (ad 110)), (1, .int (nI u))] := hl
        refine lv_goto (tgt := 2) X.1 X.2.1 d_Co_knowsNo_26 (by decide) ?_
        refine lv_iload_n X.1 X.2.1 d_Co_knowsNo_2 rfl (lv_at hl 0 rfl) ?_
        refine lv_iconst (v := nI 3) X.1 X.2.1 d_Co_knowsNo_3 (by decide) ?_
        refine gx_icmp_ge X.1 X.2.1 (tgt := 29) d_Co_knowsNo_4 (by decide) (by omega) (by omega) (fun h4 => ?_) (fun h4 => absurd h4 (by decide))
        refine lv_iconst (v := nI 0) X.1 X.2.1 d_Co_knowsNo_29 (by decide) ?_
        refine gx_zret X.1 X.2.1 hr hlk hP hS d_Co_knowsNo_30 (by decide) ?_
        refine ⟨rfl, gx_bo0 ?_⟩
        rintro ⟨s', hs', hv'⟩
        rcases (show s' = 0 ∨ s' = 1 ∨ s' = 2 by omega) with rfl | rfl | rfl
        · exact h18_0 hv'
        · exact h18_1 hv'
        · exact h18_2 hv'
      · skip
        refine lv_iconst (v := nI 1) X.1 X.2.1 d_Co_knowsNo_21 (by decide) ?_
        refine gx_zret X.1 X.2.1 hr hlk hP hS d_Co_knowsNo_22 (by decide) ?_
        exact ⟨rfl, gx_bo1 ⟨2, by decide, h18_2⟩⟩
    · skip
      refine lv_iconst (v := nI 1) X.1 X.2.1 d_Co_knowsNo_21 (by decide) ?_
      refine gx_zret X.1 X.2.1 hr hlk hP hS d_Co_knowsNo_22 (by decide) ?_
      exact ⟨rfl, gx_bo1 ⟨1, by decide, h18_1⟩⟩
  · skip
    refine lv_iconst (v := nI 1) X.1 X.2.1 d_Co_knowsNo_21 (by decide) ?_
    refine gx_zret X.1 X.2.1 hr hlk hP hS d_Co_knowsNo_22 (by decide) ?_
    exact ⟨rfl, gx_bo1 ⟨0, by decide, h18_0⟩⟩
set_option maxRecDepth 100000 in
set_option maxHeartbeats 4000000 in
theorem K_Co_knowsAllVotes (l : Launch) (dC : Nat → ClassId) (dI : Nat → Nat → Nat) (cx : Nat → ClassId) (ad : Nat → Nat) (hJ : gx_J gx_N ad (gx_A gx_N ad)) (σ : gx_M) (a : ab_S) (u : Nat) (hu : u < 21) (hx : xr σ a) (hw : ab_W a) (hk2 : ∀ s, s < 3 → ab_kv a u s ≤ 2) : cg_Mi l dC dI cx ad y_Co_knowsAllVotes w_Co_knowsAllVotes 1 [.ref (ad 110), .int (nI u), .ref (ad (nTx u))] σ (fun r σ' => σ' = σ ∧ gx_bo (ab_all a u) r) := by
  refine gx_ofW (cc := c_Co_knowsAllVotes) (maxL := 4) (ret := (Option.some Jvm.ClassFile.FieldType.boolean)) (by decide) rfl (Nat.le_of_ble_eq_true rfl) ?_
  intro p e s m below meth c ls S hr hlk hK hN hl hP
  have X : cg_X c_Co_knowsAllVotes "CommitGroups$Coordinator" 4 dC dI cx p m c s _ := ⟨S.1, S.2.1, S.2.2.2.1, fun w h => S.2.2.2.2 w (List.mem_cons_of_mem _ h), hK, hN, S.2.2.1⟩
  have hS : va_S (gx_A gx_N ad) s.heap s.heap [] := va_S.rf
  have hl : lv_has ls 4 [(0, .ref (ad 110)), (1, .int (nI u)), (2, .ref (ad (nTx u)))] := hl
  have e0 : σ 111 (u * 3 + 0) = ab_kv a u 0 := by rw [Nat.mul_comm]; exact hx.2.2.2.2.2.2.1 u 0 hu (by decide)
  have k0 := hk2 0 (by decide)
  have e1 : σ 111 (u * 3 + 1) = ab_kv a u 1 := by rw [Nat.mul_comm]; exact hx.2.2.2.2.2.2.1 u 1 hu (by decide)
  have k1 := hk2 1 (by decide)
  have e2 : σ 111 (u * 3 + 2) = ab_kv a u 2 := by rw [Nat.mul_comm]; exact hx.2.2.2.2.2.2.1 u 2 hu (by decide)
  have k2 := hk2 2 (by decide)
  refine lv_iconst (v := nI 0) X.1 X.2.1 d_Co_knowsAllVotes_0 (by decide) ?_
  refine lv_istore_n X.1 X.2.1 d_Co_knowsAllVotes_1 rfl hl (by decide) rfl (fun ls hl => ?_)
  have hl : lv_has ls 4 [(3, .int (nI 0)), (0, .ref (ad 110)), (1, .int (nI u)), (2, .ref (ad (nTx u)))] := hl
  refine lv_iload_n X.1 X.2.1 d_Co_knowsAllVotes_2 rfl (lv_at hl 0 rfl) ?_
  refine lv_iconst (v := nI 3) X.1 X.2.1 d_Co_knowsAllVotes_3 (by decide) ?_
  refine gx_icmp_ge X.1 X.2.1 (tgt := 36) d_Co_knowsAllVotes_4 (by decide) (by omega) (by omega) (fun h4 => absurd h4 (by decide)) (fun h4 => ?_)
  refine lv_aload_n X.1 X.2.1 d_Co_knowsAllVotes_7 rfl (lv_at hl 3 rfl) ?_
  refine lv_iload_n X.1 X.2.1 d_Co_knowsAllVotes_8 rfl (lv_at hl 0 rfl) ?_
  refine cv_Co_49 (rest := []) X hJ hP hS (nTx_lt (by omega)) (ec_nTx (by omega) _) (K_reaches l dC dI cx ad hJ _ a u 0 hu (by decide) hx.2.1 hw) rfl rfl (by decide) hl.1 (Nat.le_of_ble_eq_true rfl) ⟨Nat.le_refl _, Nat.le_refl _⟩ d_Co_knowsAllVotes_9 (fun r σ' H locs hq hP hS => ?_)
  obtain ⟨hq0, b0, rfl, hb0, hp0⟩ := hq
  rw [hq0] at hP
  refine gx_if_eq X.1 X.2.1 (tgt := 30) d_Co_knowsAllVotes_12 (by decide) (by omega) (fun h12_0 => ?_) (fun h12_0 => ?_)
  · skip
    refine lv_iinc (k := 0) (v := nI (1)) X.1 X.2.1 d_Co_knowsAllVotes_30 hl rfl (by decide) (by decide) rfl (fun ls hl => ?_)
    have hl : lv_has ls 4 [(3, .int (nI 1)), (0, .ref (ad 110)), (1, .int (nI u)), (2, .ref (ad (nTx u)))] := hl
    refine lv_goto (tgt := 2) X.1 X.2.1 d_Co_knowsAllVotes_33 (by decide) ?_
    refine lv_iload_n X.1 X.2.1 d_Co_knowsAllVotes_2 rfl (lv_at hl 0 rfl) ?_
    refine lv_iconst (v := nI 3) X.1 X.2.1 d_Co_knowsAllVotes_3 (by decide) ?_
    refine gx_icmp_ge X.1 X.2.1 (tgt := 36) d_Co_knowsAllVotes_4 (by decide) (by omega) (by omega) (fun h4 => absurd h4 (by decide)) (fun h4 => ?_)
    refine lv_aload_n X.1 X.2.1 d_Co_knowsAllVotes_7 rfl (lv_at hl 3 rfl) ?_
    refine lv_iload_n X.1 X.2.1 d_Co_knowsAllVotes_8 rfl (lv_at hl 0 rfl) ?_
    refine cv_Co_49 (rest := []) X hJ hP hS (nTx_lt (by omega)) (ec_nTx (by omega) _) (K_reaches l dC dI cx ad hJ _ a u 1 hu (by decide) hx.2.1 hw) rfl rfl (by decide) hl.1 (Nat.le_of_ble_eq_true rfl) ⟨Nat.le_refl _, Nat.le_refl _⟩ d_Co_knowsAllVotes_9 (fun r σ' H locs hq hP hS => ?_)
    obtain ⟨hq0, b1, rfl, hb1, hp1⟩ := hq
    rw [hq0] at hP
    refine gx_if_eq X.1 X.2.1 (tgt := 30) d_Co_knowsAllVotes_12 (by decide) (by omega) (fun h12_1 => ?_) (fun h12_1 => ?_)
    · skip
      refine lv_iinc (k := 0) (v := nI (2)) X.1 X.2.1 d_Co_knowsAllVotes_30 hl rfl (by decide) (by decide) rfl (fun ls hl => ?_)
      have hl : lv_has ls 4 [(3, .int (nI 2)), (0, .ref (ad 110)), (1, .int (nI u)), (2, .ref (ad (nTx u)))] := hl
      refine lv_goto (tgt := 2) X.1 X.2.1 d_Co_knowsAllVotes_33 (by decide) ?_
      refine lv_iload_n X.1 X.2.1 d_Co_knowsAllVotes_2 rfl (lv_at hl 0 rfl) ?_
      refine lv_iconst (v := nI 3) X.1 X.2.1 d_Co_knowsAllVotes_3 (by decide) ?_
      refine gx_icmp_ge X.1 X.2.1 (tgt := 36) d_Co_knowsAllVotes_4 (by decide) (by omega) (by omega) (fun h4 => absurd h4 (by decide)) (fun h4 => ?_)
      refine lv_aload_n X.1 X.2.1 d_Co_knowsAllVotes_7 rfl (lv_at hl 3 rfl) ?_
      refine lv_iload_n X.1 X.2.1 d_Co_knowsAllVotes_8 rfl (lv_at hl 0 rfl) ?_
      refine cv_Co_49 (rest := []) X hJ hP hS (nTx_lt (by omega)) (ec_nTx (by omega) _) (K_reaches l dC dI cx ad hJ _ a u 2 hu (by decide) hx.2.1 hw) rfl rfl (by decide) hl.1 (Nat.le_of_ble_eq_true rfl) ⟨Nat.le_refl _, Nat.le_refl _⟩ d_Co_knowsAllVotes_9 (fun r σ' H locs hq hP hS => ?_)
      obtain ⟨hq0, b2, rfl, hb2, hp2⟩ := hq
      rw [hq0] at hP
      refine gx_if_eq X.1 X.2.1 (tgt := 30) d_Co_knowsAllVotes_12 (by decide) (by omega) (fun h12_2 => ?_) (fun h12_2 => ?_)
      · skip
        refine lv_iinc (k := 0) (v := nI (3)) X.1 X.2.1 d_Co_knowsAllVotes_30 hl rfl (by decide) (by decide) rfl (fun ls hl => ?_)
        have hl : lv_has ls 4 [(3, .int (nI 3)), (0, .ref (ad 110)), (1, .int (nI u)), (2, .ref (ad (nTx u)))] := hl
        refine lv_goto (tgt := 2) X.1 X.2.1 d_Co_knowsAllVotes_33 (by decide) ?_
        refine lv_iload_n X.1 X.2.1 d_Co_knowsAllVotes_2 rfl (lv_at hl 0 rfl) ?_
        refine lv_iconst (v := nI 3) X.1 X.2.1 d_Co_knowsAllVotes_3 (by decide) ?_
        refine gx_icmp_ge X.1 X.2.1 (tgt := 36) d_Co_knowsAllVotes_4 (by decide) (by omega) (by omega) (fun h4 => ?_) (fun h4 => absurd h4 (by decide))
        refine lv_iconst (v := nI 1) X.1 X.2.1 d_Co_knowsAllVotes_36 (by decide) ?_
        refine gx_zret X.1 X.2.1 hr hlk hP hS d_Co_knowsAllVotes_37 (by decide) ?_
        refine ⟨rfl, gx_bo1 ?_⟩
        intro s' hs' ht'
        rcases (show s' = 0 ∨ s' = 1 ∨ s' = 2 by omega) with rfl | rfl | rfl
        · first | exact h25_0 | (exfalso; have := hp0.mpr ht'; omega)
        · first | exact h25_1 | (exfalso; have := hp1.mpr ht'; omega)
        · first | exact h25_2 | (exfalso; have := hp2.mpr ht'; omega)
      · skip
        refine lv_aload_n X.1 X.2.1 d_Co_knowsAllVotes_15 rfl (lv_at hl 1 rfl) ?_
        refine gg_Co_15 X hP d_Co_knowsAllVotes_16 ?_
        refine lv_iload_n X.1 X.2.1 d_Co_knowsAllVotes_19 rfl (lv_at hl 2 rfl) ?_
        refine lv_iconst (v := nI 3) X.1 X.2.1 d_Co_knowsAllVotes_20 (by decide) ?_
        refine gx_imul X.1 X.2.1 d_Co_knowsAllVotes_21 ?_
        refine lv_iload_n X.1 X.2.1 d_Co_knowsAllVotes_22 rfl (lv_at hl 0 rfl) ?_
        refine gx_iadd X.1 X.2.1 d_Co_knowsAllVotes_23 ?_
        refine ga_111 (by omega) X hP d_Co_knowsAllVotes_24 ?_
        rw [e2]
        refine gx_if_ne X.1 X.2.1 (tgt := 30) d_Co_knowsAllVotes_25 (by decide) (by omega) (fun h25_2 => ?_) (fun h25_2 => ?_)
        · skip
          refine lv_iinc (k := 0) (v := nI (3)) X.1 X.2.1 d_Co_knowsAllVotes_30 hl rfl (by decide) (by decide) rfl (fun ls hl => ?_)
          have hl : lv_has ls 4 [(3, .int (nI 3)), (0, .ref (ad 110)), (1, .int (nI u)), (2, .ref (ad (nTx u)))] := hl
          refine lv_goto (tgt := 2) X.1 X.2.1 d_Co_knowsAllVotes_33 (by decide) ?_
          refine lv_iload_n X.1 X.2.1 d_Co_knowsAllVotes_2 rfl (lv_at hl 0 rfl) ?_
          refine lv_iconst (v := nI 3) X.1 X.2.1 d_Co_knowsAllVotes_3 (by decide) ?_
          refine gx_icmp_ge X.1 X.2.1 (tgt := 36) d_Co_knowsAllVotes_4 (by decide) (by omega) (by omega) (fun h4 => ?_) (fun h4 => absurd h4 (by decide))
          refine lv_iconst (v := nI 1) X.1 X.2.1 d_Co_knowsAllVotes_36 (by decide) ?_
          refine gx_zret X.1 X.2.1 hr hlk hP hS d_Co_knowsAllVotes_37 (by decide) ?_
          refine ⟨rfl, gx_bo1 ?_⟩
          intro s' hs' ht'
          rcases (show s' = 0 ∨ s' = 1 ∨ s' = 2 by omega) with rfl | rfl | rfl
          · first | exact h25_0 | (exfalso; have := hp0.mpr ht'; omega)
          · first | exact h25_1 | (exfalso; have := hp1.mpr ht'; omega)
          · first | exact h25_2 | (exfalso; have := hp2.mpr ht'; omega)
        · skip
          refine lv_iconst (v := nI 0) X.1 X.2.1 d_Co_knowsAllVotes_28 (by decide) ?_
          refine gx_zret X.1 X.2.1 hr hlk hP hS d_Co_knowsAllVotes_29 (by decide) ?_
          exact ⟨rfl, gx_bo0 (fun z => z 2 (by decide) (hp2.mp (by omega)) h25_2)⟩
    · skip
      refine lv_aload_n X.1 X.2.1 d_Co_knowsAllVotes_15 rfl (lv_at hl 1 rfl) ?_
      refine gg_Co_15 X hP d_Co_knowsAllVotes_16 ?_
      refine lv_iload_n X.1 X.2.1 d_Co_knowsAllVotes_19 rfl (lv_at hl 2 rfl) ?_
      refine lv_iconst (v := nI 3) X.1 X.2.1 d_Co_knowsAllVotes_20 (by decide) ?_
      refine gx_imul X.1 X.2.1 d_Co_knowsAllVotes_21 ?_
      refine lv_iload_n X.1 X.2.1 d_Co_knowsAllVotes_22 rfl (lv_at hl 0 rfl) ?_
      refine gx_iadd X.1 X.2.1 d_Co_knowsAllVotes_23 ?_
      refine ga_111 (by omega) X hP d_Co_knowsAllVotes_24 ?_
      rw [e1]
      refine gx_if_ne X.1 X.2.1 (tgt := 30) d_Co_knowsAllVotes_25 (by decide) (by omega) (fun h25_1 => ?_) (fun h25_1 => ?_)
      · skip
        refine lv_iinc (k := 0) (v := nI (2)) X.1 X.2.1 d_Co_knowsAllVotes_30 hl rfl (by decide) (by decide) rfl (fun ls hl => ?_)
        have hl : lv_has ls 4 [(3, .int (nI 2)), (0, .ref (ad 110)), (1, .int (nI u)), (2, .ref (ad (nTx u)))] := hl
        refine lv_goto (tgt := 2) X.1 X.2.1 d_Co_knowsAllVotes_33 (by decide) ?_
        refine lv_iload_n X.1 X.2.1 d_Co_knowsAllVotes_2 rfl (lv_at hl 0 rfl) ?_
        refine lv_iconst (v := nI 3) X.1 X.2.1 d_Co_knowsAllVotes_3 (by decide) ?_
        refine gx_icmp_ge X.1 X.2.1 (tgt := 36) d_Co_knowsAllVotes_4 (by decide) (by omega) (by omega) (fun h4 => absurd h4 (by decide)) (fun h4 => ?_)
        refine lv_aload_n X.1 X.2.1 d_Co_knowsAllVotes_7 rfl (lv_at hl 3 rfl) ?_
        refine lv_iload_n X.1 X.2.1 d_Co_knowsAllVotes_8 rfl (lv_at hl 0 rfl) ?_
        refine cv_Co_49 (rest := []) X hJ hP hS (nTx_lt (by omega)) (ec_nTx (by omega) _) (K_reaches l dC dI cx ad hJ _ a u 2 hu (by decide) hx.2.1 hw) rfl rfl (by decide) hl.1 (Nat.le_of_ble_eq_true rfl) ⟨Nat.le_refl _, Nat.le_refl _⟩ d_Co_knowsAllVotes_9 (fun r σ' H locs hq hP hS => ?_)
        obtain ⟨hq0, b2, rfl, hb2, hp2⟩ := hq
        rw [hq0] at hP
        refine gx_if_eq X.1 X.2.1 (tgt := 30) d_Co_knowsAllVotes_12 (by decide) (by omega) (fun h12_2 => ?_) (fun h12_2 => ?_)
        · skip
          refine lv_iinc (k := 0) (v := nI (3)) X.1 X.2.1 d_Co_knowsAllVotes_30 hl rfl (by decide) (by decide) rfl (fun ls hl => ?_)
          have hl : lv_has ls 4 [(3, .int (nI 3)), (0, .ref (ad 110)), (1, .int (nI u)), (2, .ref (ad (nTx u)))] := hl
          refine lv_goto (tgt := 2) X.1 X.2.1 d_Co_knowsAllVotes_33 (by decide) ?_
          refine lv_iload_n X.1 X.2.1 d_Co_knowsAllVotes_2 rfl (lv_at hl 0 rfl) ?_
          refine lv_iconst (v := nI 3) X.1 X.2.1 d_Co_knowsAllVotes_3 (by decide) ?_
          refine gx_icmp_ge X.1 X.2.1 (tgt := 36) d_Co_knowsAllVotes_4 (by decide) (by omega) (by omega) (fun h4 => ?_) (fun h4 => absurd h4 (by decide))
          refine lv_iconst (v := nI 1) X.1 X.2.1 d_Co_knowsAllVotes_36 (by decide) ?_
          refine gx_zret X.1 X.2.1 hr hlk hP hS d_Co_knowsAllVotes_37 (by decide) ?_
          refine ⟨rfl, gx_bo1 ?_⟩
          intro s' hs' ht'
          rcases (show s' = 0 ∨ s' = 1 ∨ s' = 2 by omega) with rfl | rfl | rfl
          · first | exact h25_0 | (exfalso; have := hp0.mpr ht'; omega)
          · first | exact h25_1 | (exfalso; have := hp1.mpr ht'; omega)
          · first | exact h25_2 | (exfalso; have := hp2.mpr ht'; omega)
        · skip
          refine lv_aload_n X.1 X.2.1 d_Co_knowsAllVotes_15 rfl (lv_at hl 1 rfl) ?_
          refine gg_Co_15 X hP d_Co_knowsAllVotes_16 ?_
          refine lv_iload_n X.1 X.2.1 d_Co_knowsAllVotes_19 rfl (lv_at hl 2 rfl) ?_
          refine lv_iconst (v := nI 3) X.1 X.2.1 d_Co_knowsAllVotes_20 (by decide) ?_
          refine gx_imul X.1 X.2.1 d_Co_knowsAllVotes_21 ?_
          refine lv_iload_n X.1 X.2.1 d_Co_knowsAllVotes_22 rfl (lv_at hl 0 rfl) ?_
          refine gx_iadd X.1 X.2.1 d_Co_knowsAllVotes_23 ?_
          refine ga_111 (by omega) X hP d_Co_knowsAllVotes_24 ?_
          rw [e2]
          refine gx_if_ne X.1 X.2.1 (tgt := 30) d_Co_knowsAllVotes_25 (by decide) (by omega) (fun h25_2 => ?_) (fun h25_2 => ?_)
          · skip
            refine lv_iinc (k := 0) (v := nI (3)) X.1 X.2.1 d_Co_knowsAllVotes_30 hl rfl (by decide) (by decide) rfl (fun ls hl => ?_)
            have hl : lv_has ls 4 [(3, .int (nI 3)), (0, .ref (ad 110)), (1, .int (nI u)), (2, .ref (ad (nTx u)))] := hl
            refine lv_goto (tgt := 2) X.1 X.2.1 d_Co_knowsAllVotes_33 (by decide) ?_
            refine lv_iload_n X.1 X.2.1 d_Co_knowsAllVotes_2 rfl (lv_at hl 0 rfl) ?_
            refine lv_iconst (v := nI 3) X.1 X.2.1 d_Co_knowsAllVotes_3 (by decide) ?_
            refine gx_icmp_ge X.1 X.2.1 (tgt := 36) d_Co_knowsAllVotes_4 (by decide) (by omega) (by omega) (fun h4 => ?_) (fun h4 => absurd h4 (by decide))
            refine lv_iconst (v := nI 1) X.1 X.2.1 d_Co_knowsAllVotes_36 (by decide) ?_
            refine gx_zret X.1 X.2.1 hr hlk hP hS d_Co_knowsAllVotes_37 (by decide) ?_
            refine ⟨rfl, gx_bo1 ?_⟩
            intro s' hs' ht'
            rcases (show s' = 0 ∨ s' = 1 ∨ s' = 2 by omega) with rfl | rfl | rfl
            · first | exact h25_0 | (exfalso; have := hp0.mpr ht'; omega)
            · first | exact h25_1 | (exfalso; have := hp1.mpr ht'; omega)
            · first | exact h25_2 | (exfalso; have := hp2.mpr ht'; omega)
          · skip
            refine lv_iconst (v := nI 0) X.1 X.2.1 d_Co_knowsAllVotes_28 (by decide) ?_
            refine gx_zret X.1 X.2.1 hr hlk hP hS d_Co_knowsAllVotes_29 (by decide) ?_
            exact ⟨rfl, gx_bo0 (fun z => z 2 (by decide) (hp2.mp (by omega)) h25_2)⟩
      · skip
        refine lv_iconst (v := nI 0) X.1 X.2.1 d_Co_knowsAllVotes_28 (by decide) ?_
        refine gx_zret X.1 X.2.1 hr hlk hP hS d_Co_knowsAllVotes_29 (by decide) ?_
        exact ⟨rfl, gx_bo0 (fun z => z 1 (by decide) (hp1.mp (by omega)) h25_1)⟩
  · skip
    refine lv_aload_n X.1 X.2.1 d_Co_knowsAllVotes_15 rfl (lv_at hl 1 rfl) ?_
    refine gg_Co_15 X hP d_Co_knowsAllVotes_16 ?_
    refine lv_iload_n X.1 X.2.1 d_Co_knowsAllVotes_19 rfl (lv_at hl 2 rfl) ?_
    refine lv_iconst (v := nI 3) X.1 X.2.1 d_Co_knowsAllVotes_20 (by decide) ?_
    refine gx_imul X.1 X.2.1 d_Co_knowsAllVotes_21 ?_
    refine lv_iload_n X.1 X.2.1 d_Co_knowsAllVotes_22 rfl (lv_at hl 0 rfl) ?_
    refine gx_iadd X.1 X.2.1 d_Co_knowsAllVotes_23 ?_
    refine ga_111 (by omega) X hP d_Co_knowsAllVotes_24 ?_
    rw [e0]
    refine gx_if_ne X.1 X.2.1 (tgt := 30) d_Co_knowsAllVotes_25 (by decide) (by omega) (fun h25_0 => ?_) (fun h25_0 => ?_)
    · skip
      refine lv_iinc (k := 0) (v := nI (1)) X.1 X.2.1 d_Co_knowsAllVotes_30 hl rfl (by decide) (by decide) rfl (fun ls hl => ?_)
      have hl : lv_has ls 4 [(3, .int (nI 1)), (0, .ref (ad 110)), (1, .int (nI u)), (2, .ref (ad (nTx u)))] := hl
      refine lv_goto (tgt := 2) X.1 X.2.1 d_Co_knowsAllVotes_33 (by decide) ?_
      refine lv_iload_n X.1 X.2.1 d_Co_knowsAllVotes_2 rfl (lv_at hl 0 rfl) ?_
      refine lv_iconst (v := nI 3) X.1 X.2.1 d_Co_knowsAllVotes_3 (by decide) ?_
      refine gx_icmp_ge X.1 X.2.1 (tgt := 36) d_Co_knowsAllVotes_4 (by decide) (by omega) (by omega) (fun h4 => absurd h4 (by decide)) (fun h4 => ?_)
      refine lv_aload_n X.1 X.2.1 d_Co_knowsAllVotes_7 rfl (lv_at hl 3 rfl) ?_
      refine lv_iload_n X.1 X.2.1 d_Co_knowsAllVotes_8 rfl (lv_at hl 0 rfl) ?_
      refine cv_Co_49 (rest := []) X hJ hP hS (nTx_lt (by omega)) (ec_nTx (by omega) _) (K_reaches l dC dI cx ad hJ _ a u 1 hu (by decide) hx.2.1 hw) rfl rfl (by decide) hl.1 (Nat.le_of_ble_eq_true rfl) ⟨Nat.le_refl _, Nat.le_refl _⟩ d_Co_knowsAllVotes_9 (fun r σ' H locs hq hP hS => ?_)
      obtain ⟨hq0, b1, rfl, hb1, hp1⟩ := hq
      rw [hq0] at hP
      refine gx_if_eq X.1 X.2.1 (tgt := 30) d_Co_knowsAllVotes_12 (by decide) (by omega) (fun h12_1 => ?_) (fun h12_1 => ?_)
      · skip
        refine lv_iinc (k := 0) (v := nI (2)) X.1 X.2.1 d_Co_knowsAllVotes_30 hl rfl (by decide) (by decide) rfl (fun ls hl => ?_)
        have hl : lv_has ls 4 [(3, .int (nI 2)), (0, .ref (ad 110)), (1, .int (nI u)), (2, .ref (ad (nTx u)))] := hl
        refine lv_goto (tgt := 2) X.1 X.2.1 d_Co_knowsAllVotes_33 (by decide) ?_
        refine lv_iload_n X.1 X.2.1 d_Co_knowsAllVotes_2 rfl (lv_at hl 0 rfl) ?_
        refine lv_iconst (v := nI 3) X.1 X.2.1 d_Co_knowsAllVotes_3 (by decide) ?_
        refine gx_icmp_ge X.1 X.2.1 (tgt := 36) d_Co_knowsAllVotes_4 (by decide) (by omega) (by omega) (fun h4 => absurd h4 (by decide)) (fun h4 => ?_)
        refine lv_aload_n X.1 X.2.1 d_Co_knowsAllVotes_7 rfl (lv_at hl 3 rfl) ?_
        refine lv_iload_n X.1 X.2.1 d_Co_knowsAllVotes_8 rfl (lv_at hl 0 rfl) ?_
        refine cv_Co_49 (rest := []) X hJ hP hS (nTx_lt (by omega)) (ec_nTx (by omega) _) (K_reaches l dC dI cx ad hJ _ a u 2 hu (by decide) hx.2.1 hw) rfl rfl (by decide) hl.1 (Nat.le_of_ble_eq_true rfl) ⟨Nat.le_refl _, Nat.le_refl _⟩ d_Co_knowsAllVotes_9 (fun r σ' H locs hq hP hS => ?_)
        obtain ⟨hq0, b2, rfl, hb2, hp2⟩ := hq
        rw [hq0] at hP
        refine gx_if_eq X.1 X.2.1 (tgt := 30) d_Co_knowsAllVotes_12 (by decide) (by omega) (fun h12_2 => ?_) (fun h12_2 => ?_)
        · skip
          refine lv_iinc (k := 0) (v := nI (3)) X.1 X.2.1 d_Co_knowsAllVotes_30 hl rfl (by decide) (by decide) rfl (fun ls hl => ?_)
          have hl : lv_has ls 4 [(3, .int (nI 3)), (0, .ref (ad 110)), (1, .int (nI u)), (2, .ref (ad (nTx u)))] := hl
          refine lv_goto (tgt := 2) X.1 X.2.1 d_Co_knowsAllVotes_33 (by decide) ?_
          refine lv_iload_n X.1 X.2.1 d_Co_knowsAllVotes_2 rfl (lv_at hl 0 rfl) ?_
          refine lv_iconst (v := nI 3) X.1 X.2.1 d_Co_knowsAllVotes_3 (by decide) ?_
          refine gx_icmp_ge X.1 X.2.1 (tgt := 36) d_Co_knowsAllVotes_4 (by decide) (by omega) (by omega) (fun h4 => ?_) (fun h4 => absurd h4 (by decide))
          refine lv_iconst (v := nI 1) X.1 X.2.1 d_Co_knowsAllVotes_36 (by decide) ?_
          refine gx_zret X.1 X.2.1 hr hlk hP hS d_Co_knowsAllVotes_37 (by decide) ?_
          refine ⟨rfl, gx_bo1 ?_⟩
          intro s' hs' ht'
          rcases (show s' = 0 ∨ s' = 1 ∨ s' = 2 by omega) with rfl | rfl | rfl
          · first | exact h25_0 | (exfalso; have := hp0.mpr ht'; omega)
          · first | exact h25_1 | (exfalso; have := hp1.mpr ht'; omega)
          · first | exact h25_2 | (exfalso; have := hp2.mpr ht'; omega)
        · skip
          refine lv_aload_n X.1 X.2.1 d_Co_knowsAllVotes_15 rfl (lv_at hl 1 rfl) ?_
          refine gg_Co_15 X hP d_Co_knowsAllVotes_16 ?_
          refine lv_iload_n X.1 X.2.1 d_Co_knowsAllVotes_19 rfl (lv_at hl 2 rfl) ?_
          refine lv_iconst (v := nI 3) X.1 X.2.1 d_Co_knowsAllVotes_20 (by decide) ?_
          refine gx_imul X.1 X.2.1 d_Co_knowsAllVotes_21 ?_
          refine lv_iload_n X.1 X.2.1 d_Co_knowsAllVotes_22 rfl (lv_at hl 0 rfl) ?_
          refine gx_iadd X.1 X.2.1 d_Co_knowsAllVotes_23 ?_
          refine ga_111 (by omega) X hP d_Co_knowsAllVotes_24 ?_
          rw [e2]
          refine gx_if_ne X.1 X.2.1 (tgt := 30) d_Co_knowsAllVotes_25 (by decide) (by omega) (fun h25_2 => ?_) (fun h25_2 => ?_)
          · skip
            refine lv_iinc (k := 0) (v := nI (3)) X.1 X.2.1 d_Co_knowsAllVotes_30 hl rfl (by decide) (by decide) rfl (fun ls hl => ?_)
            have hl : lv_has ls 4 [(3, .int (nI 3)), (0, .ref (ad 110)), (1, .int (nI u)), (2, .ref (ad (nTx u)))] := hl
            refine lv_goto (tgt := 2) X.1 X.2.1 d_Co_knowsAllVotes_33 (by decide) ?_
            refine lv_iload_n X.1 X.2.1 d_Co_knowsAllVotes_2 rfl (lv_at hl 0 rfl) ?_
            refine lv_iconst (v := nI 3) X.1 X.2.1 d_Co_knowsAllVotes_3 (by decide) ?_
            refine gx_icmp_ge X.1 X.2.1 (tgt := 36) d_Co_knowsAllVotes_4 (by decide) (by omega) (by omega) (fun h4 => ?_) (fun h4 => absurd h4 (by decide))
            refine lv_iconst (v := nI 1) X.1 X.2.1 d_Co_knowsAllVotes_36 (by decide) ?_
            refine gx_zret X.1 X.2.1 hr hlk hP hS d_Co_knowsAllVotes_37 (by decide) ?_
            refine ⟨rfl, gx_bo1 ?_⟩
            intro s' hs' ht'
            rcases (show s' = 0 ∨ s' = 1 ∨ s' = 2 by omega) with rfl | rfl | rfl
            · first | exact h25_0 | (exfalso; have := hp0.mpr ht'; omega)
            · first | exact h25_1 | (exfalso; have := hp1.mpr ht'; omega)
            · first | exact h25_2 | (exfalso; have := hp2.mpr ht'; omega)
          · skip
            refine lv_iconst (v := nI 0) X.1 X.2.1 d_Co_knowsAllVotes_28 (by decide) ?_
            refine gx_zret X.1 X.2.1 hr hlk hP hS d_Co_knowsAllVotes_29 (by decide) ?_
            exact ⟨rfl, gx_bo0 (fun z => z 2 (by decide) (hp2.mp (by omega)) h25_2)⟩
      · skip
        refine lv_aload_n X.1 X.2.1 d_Co_knowsAllVotes_15 rfl (lv_at hl 1 rfl) ?_
        refine gg_Co_15 X hP d_Co_knowsAllVotes_16 ?_
        refine lv_iload_n X.1 X.2.1 d_Co_knowsAllVotes_19 rfl (lv_at hl 2 rfl) ?_
        refine lv_iconst (v := nI 3) X.1 X.2.1 d_Co_knowsAllVotes_20 (by decide) ?_
        refine gx_imul X.1 X.2.1 d_Co_knowsAllVotes_21 ?_
        refine lv_iload_n X.1 X.2.1 d_Co_knowsAllVotes_22 rfl (lv_at hl 0 rfl) ?_
        refine gx_iadd X.1 X.2.1 d_Co_knowsAllVotes_23 ?_
        refine ga_111 (by omega) X hP d_Co_knowsAllVotes_24 ?_
        rw [e1]
        refine gx_if_ne X.1 X.2.1 (tgt := 30) d_Co_knowsAllVotes_25 (by decide) (by omega) (fun h25_1 => ?_) (fun h25_1 => ?_)
        · skip
          refine lv_iinc (k := 0) (v := nI (2)) X.1 X.2.1 d_Co_knowsAllVotes_30 hl rfl (by decide) (by decide) rfl (fun ls hl => ?_)
          have hl : lv_has ls 4 [(3, .int (nI 2)), (0, .ref (ad 110)), (1, .int (nI u)), (2, .ref (ad (nTx u)))] := hl
          refine lv_goto (tgt := 2) X.1 X.2.1 d_Co_knowsAllVotes_33 (by decide) ?_
          refine lv_iload_n X.1 X.2.1 d_Co_knowsAllVotes_2 rfl (lv_at hl 0 rfl) ?_
          refine lv_iconst (v := nI 3) X.1 X.2.1 d_Co_knowsAllVotes_3 (by decide) ?_
          refine gx_icmp_ge X.1 X.2.1 (tgt := 36) d_Co_knowsAllVotes_4 (by decide) (by omega) (by omega) (fun h4 => absurd h4 (by decide)) (fun h4 => ?_)
          refine lv_aload_n X.1 X.2.1 d_Co_knowsAllVotes_7 rfl (lv_at hl 3 rfl) ?_
          refine lv_iload_n X.1 X.2.1 d_Co_knowsAllVotes_8 rfl (lv_at hl 0 rfl) ?_
          refine cv_Co_49 (rest := []) X hJ hP hS (nTx_lt (by omega)) (ec_nTx (by omega) _) (K_reaches l dC dI cx ad hJ _ a u 2 hu (by decide) hx.2.1 hw) rfl rfl (by decide) hl.1 (Nat.le_of_ble_eq_true rfl) ⟨Nat.le_refl _, Nat.le_refl _⟩ d_Co_knowsAllVotes_9 (fun r σ' H locs hq hP hS => ?_)
          obtain ⟨hq0, b2, rfl, hb2, hp2⟩ := hq
          rw [hq0] at hP
          refine gx_if_eq X.1 X.2.1 (tgt := 30) d_Co_knowsAllVotes_12 (by decide) (by omega) (fun h12_2 => ?_) (fun h12_2 => ?_)
          · skip
            refine lv_iinc (k := 0) (v := nI (3)) X.1 X.2.1 d_Co_knowsAllVotes_30 hl rfl (by decide) (by decide) rfl (fun ls hl => ?_)
            have hl : lv_has ls 4 [(3, .int (nI 3)), (0, .ref (ad 110)), (1, .int (nI u)), (2, .ref (ad (nTx u)))] := hl
            refine lv_goto (tgt := 2) X.1 X.2.1 d_Co_knowsAllVotes_33 (by decide) ?_
            refine lv_iload_n X.1 X.2.1 d_Co_knowsAllVotes_2 rfl (lv_at hl 0 rfl) ?_
            refine lv_iconst (v := nI 3) X.1 X.2.1 d_Co_knowsAllVotes_3 (by decide) ?_
            refine gx_icmp_ge X.1 X.2.1 (tgt := 36) d_Co_knowsAllVotes_4 (by decide) (by omega) (by omega) (fun h4 => ?_) (fun h4 => absurd h4 (by decide))
            refine lv_iconst (v := nI 1) X.1 X.2.1 d_Co_knowsAllVotes_36 (by decide) ?_
            refine gx_zret X.1 X.2.1 hr hlk hP hS d_Co_knowsAllVotes_37 (by decide) ?_
            refine ⟨rfl, gx_bo1 ?_⟩
            intro s' hs' ht'
            rcases (show s' = 0 ∨ s' = 1 ∨ s' = 2 by omega) with rfl | rfl | rfl
            · first | exact h25_0 | (exfalso; have := hp0.mpr ht'; omega)
            · first | exact h25_1 | (exfalso; have := hp1.mpr ht'; omega)
            · first | exact h25_2 | (exfalso; have := hp2.mpr ht'; omega)
          · skip
            refine lv_aload_n X.1 X.2.1 d_Co_knowsAllVotes_15 rfl (lv_at hl 1 rfl) ?_
            refine gg_Co_15 X hP d_Co_knowsAllVotes_16 ?_
            refine lv_iload_n X.1 X.2.1 d_Co_knowsAllVotes_19 rfl (lv_at hl 2 rfl) ?_
            refine lv_iconst (v := nI 3) X.1 X.2.1 d_Co_knowsAllVotes_20 (by decide) ?_
            refine gx_imul X.1 X.2.1 d_Co_knowsAllVotes_21 ?_
            refine lv_iload_n X.1 X.2.1 d_Co_knowsAllVotes_22 rfl (lv_at hl 0 rfl) ?_
            refine gx_iadd X.1 X.2.1 d_Co_knowsAllVotes_23 ?_
            refine ga_111 (by omega) X hP d_Co_knowsAllVotes_24 ?_
            rw [e2]
            refine gx_if_ne X.1 X.2.1 (tgt := 30) d_Co_knowsAllVotes_25 (by decide) (by omega) (fun h25_2 => ?_) (fun h25_2 => ?_)
            · skip
              refine lv_iinc (k := 0) (v := nI (3)) X.1 X.2.1 d_Co_knowsAllVotes_30 hl rfl (by decide) (by decide) rfl (fun ls hl => ?_)
              have hl : lv_has ls 4 [(3, .int (nI 3)), (0, .ref (ad 110)), (1, .int (nI u)), (2, .ref (ad (nTx u)))] := hl
              refine lv_goto (tgt := 2) X.1 X.2.1 d_Co_knowsAllVotes_33 (by decide) ?_
              refine lv_iload_n X.1 X.2.1 d_Co_knowsAllVotes_2 rfl (lv_at hl 0 rfl) ?_
              refine lv_iconst (v := nI 3) X.1 X.2.1 d_Co_knowsAllVotes_3 (by decide) ?_
              refine gx_icmp_ge X.1 X.2.1 (tgt := 36) d_Co_knowsAllVotes_4 (by decide) (by omega) (by omega) (fun h4 => ?_) (fun h4 => absurd h4 (by decide))
              refine lv_iconst (v := nI 1) X.1 X.2.1 d_Co_knowsAllVotes_36 (by decide) ?_
              refine gx_zret X.1 X.2.1 hr hlk hP hS d_Co_knowsAllVotes_37 (by decide) ?_
              refine ⟨rfl, gx_bo1 ?_⟩
              intro s' hs' ht'
              rcases (show s' = 0 ∨ s' = 1 ∨ s' = 2 by omega) with rfl | rfl | rfl
              · first | exact h25_0 | (exfalso; have := hp0.mpr ht'; omega)
              · first | exact h25_1 | (exfalso; have := hp1.mpr ht'; omega)
              · first | exact h25_2 | (exfalso; have := hp2.mpr ht'; omega)
            · skip
              refine lv_iconst (v := nI 0) X.1 X.2.1 d_Co_knowsAllVotes_28 (by decide) ?_
              refine gx_zret X.1 X.2.1 hr hlk hP hS d_Co_knowsAllVotes_29 (by decide) ?_
              exact ⟨rfl, gx_bo0 (fun z => z 2 (by decide) (hp2.mp (by omega)) h25_2)⟩
        · skip
          refine lv_iconst (v := nI 0) X.1 X.2.1 d_Co_knowsAllVotes_28 (by decide) ?_
          refine gx_zret X.1 X.2.1 hr hlk hP hS d_Co_knowsAllVotes_29 (by decide) ?_
          exact ⟨rfl, gx_bo0 (fun z => z 1 (by decide) (hp1.mp (by omega)) h25_1)⟩
    · skip
      refine lv_iconst (v := nI 0) X.1 X.2.1 d_Co_knowsAllVotes_28 (by decide) ?_
      refine gx_zret X.1 X.2.1 hr hlk hP hS d_Co_knowsAllVotes_29 (by decide) ?_
      exact ⟨rfl, gx_bo0 (fun z => z 0 (by decide) (hp0.mp (by omega)) h25_0)⟩
set_option maxRecDepth 100000 in
set_option maxHeartbeats 4000000 in
theorem K_Co_learnVote (l : Launch) (dC : Nat → ClassId) (dI : Nat → Nat → Nat) (cx : Nat → ClassId) (ad : Nat → Nat) (hJ : gx_J gx_N ad (gx_A gx_N ad)) (σ : gx_M) (a : ab_S) (u sh ri : Nat) (hu : u < 21) (h0 : sh < 3) (h1 : ri < 3) (hx : xr σ a) (hw : ab_W a) : cg_Mv l dC dI cx ad y_Co_learnVote w_Co_learnVote 0 [.ref (ad 110), .int (nI u), .ref (ad (nTx u)), .ref (ad (nSt sh ri))] σ (fun σ' => xr σ' (ab_learn a u sh ri) ∧ ∀ n, 224 ≤ n → σ' n = σ n) := by
  refine gx_ofW (cc := c_Co_learnVote) (maxL := 5) (ret := (Option.none : Option Jvm.ClassFile.FieldType)) (by decide) rfl (Nat.le_of_ble_eq_true rfl) ?_
  intro p e s m below meth c ls S hr hlk hK hN hl hP
  have X : cg_X c_Co_learnVote "CommitGroups$Coordinator" 5 dC dI cx p m c s _ := ⟨S.1, S.2.1, S.2.2.2.1, fun w h => S.2.2.2.2 w (List.mem_cons_of_mem _ h), hK, hN, S.2.2.1⟩
  have hS : va_S (gx_A gx_N ad) s.heap s.heap [] := va_S.rf
  have hl : lv_has ls 5 [(0, .ref (ad 110)), (1, .int (nI u)), (2, .ref (ad (nTx u))), (3, .ref (ad (nSt sh ri)))] := hl
  obtain ⟨t1, t2, t3, t4⟩ := hx.2.1 u hu
  obtain ⟨hs0, pp⟩ := hx.2.2.2.1 sh ri h0 h1
  obtain ⟨-, pv, -, pn, -⟩ := pp
  have hvb : ∀ j, σ (nSn sh ri) j = σ (nSn sh ri) j := fun _ => rfl
  have hl4 := (hw.2.1 u).1
  have c1 : nTx u ≠ 111 := by unfold nTx; omega
  have d1 : nTx u ≠ 113 := by unfold nTx; omega
  have c2 : nTy u ≠ 111 := by unfold nTy; omega
  have d2 : nTy u ≠ 113 := by unfold nTy; omega
  have c3 : nSt sh ri ≠ 111 := by rw [nSt_num h0]; omega
  have d3 : nSt sh ri ≠ 113 := by rw [nSt_num h0]; omega
  have c4 : nSn sh ri ≠ 111 := by unfold nSn; omega
  have d4 : nSn sh ri ≠ 113 := by unfold nSn; omega
  have lp : ∀ (k : Nat) (i : Nat) (τ : gx_M), i + k = (ab_op a u).length → (∀ n, n ≠ 113 → τ n = (gx_w σ 111 (u * 3 + sh) (σ (nSo sh ri) u)) n) → (∀ w j, j < 4 → τ 113 (4 * w + j) = if w = u ∧ j < i ∧ pu_sh (ab_op a u) j = sh then (fun j => σ (nSn sh ri) (4 * u + j)) j else σ 113 (4 * w + j)) → ∀ (H : Heap) (locs : List Loc) (ls : Array Slot), cg_P dC dI cx ad τ H → va_S (gx_A gx_N ad) s.heap H locs → lv_has ls 5 [(4, .int (nI i)), (0, .ref (ad 110)), (1, .int (nI u)), (2, .ref (ad (nTx u))), (3, .ref (ad (nSt sh ri)))] → W p l e (rmL 0) s m ([.ref (ad 110), .int (nI u), .ref (ad (nTx u)), .ref (ad (nSt sh ri))] : List Value).toArray below meth c H locs 0 0 (cg_Qv dC dI cx ad (fun σ' => xr σ' (ab_learn a u sh ri) ∧ ∀ n, 224 ≤ n → σ' n = σ n) below [.ref (ad 110), .int (nI u), .ref (ad (nTx u)), .ref (ad (nSt sh ri))] s) (F0 m 22 ls []) := by
    intro k
    induction k with
    | zero =>
      intro i τ hik g1 g2 H locs ls hP hS hl
      have eTx : τ (nTx u) 4 = (ab_op a u).length := by rw [g1 _ d1, gx_w_row _ _ _ c1]; exact t1
      refine lv_iload X.1 X.2.1 d_Co_learnVote_22 (lv_at hl 0 rfl) ?_
      refine lv_aload_n X.1 X.2.1 d_Co_learnVote_24 rfl (lv_at hl 3 rfl) ?_
      refine gg_Co_38 (by omega) X hP d_Co_learnVote_25 ?_
      rw [eTx]
      refine gx_icmp_ge X.1 X.2.1 (tgt := 75) d_Co_learnVote_28 (by decide) (by omega) (by omega) (fun h28 => ?_) (fun h28 => absurd h28 (by omega))
      refine gx_vret X.1 X.2.1 hr hlk hP hS d_Co_learnVote_75 ?_
      refine ⟨xr_C hx (fun n q => ?_) ?_ rfl rfl rfl rfl rfl rfl rfl, fun n hn => by rw [g1 n (by omega), gx_w_row _ _ _ (by omega)]⟩
      · rw [g1 n (fun z => q (z ▸ ⟨by decide, by decide⟩)), gx_w_row σ (n := 111) (m := n) _ _ (fun z => q (z ▸ ⟨by decide, by decide⟩))]
      · obtain ⟨m1, m2, m3, m4⟩ := hx.2.2.2.2.2
        refine ⟨?_, fun t s' ht' hs' => ?_, fun t ht' => ?_, fun t j ht' hj => ?_⟩
        · rw [g1 110 (by decide), gx_w_row _ _ _ (by decide)]; exact m1
        · rw [g1 111 (by decide)]
          show _ = pu_up (ab_kv a) u (pu_up (ab_kv a u) sh ((ab_ex a sh ri).1 u)) t s'
          rw [pu_up2]
          by_cases z : t = u ∧ s' = sh
          · rw [if_pos z, z.1, z.2, show 3 * u + sh = u * 3 + sh by omega, gx_w_self]; exact pv u hu
          · rw [if_neg z, gx_w_col _ _ _ (fun y => z (by omega))]; exact m2 t s' ht' hs'
        · rw [g1 112 (by decide), gx_w_row _ _ _ (by decide)]; exact m3 t ht'
        · rw [g2 t j hj]
          show _ = pu_up (ab_rs a) u (fun i => if pu_sh (ab_op a u) i = sh then (ab_ex a sh ri).2.2.2 u i else ab_rs a u i) t j
          by_cases z : t = u
          · subst z
            rw [pu_up_self]
            by_cases y : pu_sh (ab_op a t) j = sh
            · rw [if_pos ⟨rfl, by have := pd_sh_lt h0 y; omega, y⟩, if_pos y]; exact pn t hu j hj
            · rw [if_neg (fun v => y v.2.2), if_neg y]; exact m4 t j ht' hj
          · rw [if_neg (fun v => z v.1), pu_up_ne _ _ z]; exact m4 t j ht' hj
    | succ k ih =>
      intro i τ hik g1 g2 H locs ls hP hS hl
      have eTx : τ (nTx u) 4 = (ab_op a u).length := by rw [g1 _ d1, gx_w_row _ _ _ c1]; exact t1
      refine lv_iload X.1 X.2.1 d_Co_learnVote_22 (lv_at hl 0 rfl) ?_
      refine lv_aload_n X.1 X.2.1 d_Co_learnVote_24 rfl (lv_at hl 3 rfl) ?_
      refine gg_Co_38 (by omega) X hP d_Co_learnVote_25 ?_
      rw [eTx]
      refine gx_icmp_ge X.1 X.2.1 (tgt := 75) d_Co_learnVote_28 (by decide) (by omega) (by omega) (fun h28 => absurd h28 (by omega)) (fun h28 => ?_)
      obtain ⟨o, ho⟩ : ∃ o, (ab_op a u)[i]? = some o := ⟨(ab_op a u)[i], List.getElem?_eq_getElem (by omega)⟩
      have x2 := (t3 i o ho).2.1
      have y2 := (hw.2.1 u).2 o (List.mem_of_getElem? ho)
      have eTy : τ (nTy u) i = o.2.1 := by rw [g1 _ d2, gx_w_row _ _ _ c2]; exact x2
      have eSt : τ (nSt sh ri) 0 = sh := by rw [g1 _ d3, gx_w_row _ _ _ c3]; exact hs0
      have eN : τ (nSn sh ri) (u * 4 + i) = σ (nSn sh ri) (4 * u + i) := by rw [g1 _ d4, gx_w_row _ _ _ c4, Nat.mul_comm u 4]
      refine lv_aload_n X.1 X.2.1 d_Co_learnVote_31 rfl (lv_at hl 3 rfl) ?_
      refine gg_Co_43 (by omega) X hP d_Co_learnVote_32 ?_
      refine lv_iload X.1 X.2.1 d_Co_learnVote_35 (lv_at hl 0 rfl) ?_
      refine ga_nTy (by omega) (by omega) X hP d_Co_learnVote_37 ?_
      rw [eTy]
      refine lv_iconst (v := nI 3) X.1 X.2.1 d_Co_learnVote_38 (by decide) ?_
      refine gx_irem X.1 X.2.1 d_Co_learnVote_39 (by omega) (by decide) (by decide) ?_
      refine lv_aload_n X.1 X.2.1 d_Co_learnVote_40 rfl (lv_at hl 4 rfl) ?_
      refine gg_Co_31 (by omega) (by omega) X hP d_Co_learnVote_41 ?_
      rw [eSt]
      refine gx_icmp_ne X.1 X.2.1 (tgt := 69) d_Co_learnVote_44 (by decide) (by omega) (by omega) (fun h44 => ?_) (fun h44 => ?_)
      · skip
        refine lv_iinc (k := 0) (v := nI (i + 1)) X.1 X.2.1 d_Co_learnVote_69 hl rfl (nI_add _ _) (by decide) rfl (fun ls hl => ?_)
        have hl : lv_has ls 5 [(4, .int (nI (i + 1))), (0, .ref (ad 110)), (1, .int (nI u)), (2, .ref (ad (nTx u))), (3, .ref (ad (nSt sh ri)))] := hl
        refine lv_goto (tgt := 22) X.1 X.2.1 d_Co_learnVote_72 (by decide) ?_
        refine ih (i + 1) _ (by omega) ?_ ?_ H locs ls hP hS (lv_sub hl [0, 1, 2, 3, 4] rfl)
        · exact g1
        · exact pd_no' g2 (by rw [pd_sh ho]; exact h44)
      · skip
        refine lv_aload_n X.1 X.2.1 d_Co_learnVote_47 rfl (lv_at hl 1 rfl) ?_
        refine gg_Co_22 X hP d_Co_learnVote_48 ?_
        refine lv_iload_n X.1 X.2.1 d_Co_learnVote_51 rfl (lv_at hl 2 rfl) ?_
        refine lv_iconst (v := nI 4) X.1 X.2.1 d_Co_learnVote_52 (by decide) ?_
        refine gx_imul X.1 X.2.1 d_Co_learnVote_53 ?_
        refine lv_iload X.1 X.2.1 d_Co_learnVote_54 (lv_at hl 0 rfl) ?_
        refine gx_iadd X.1 X.2.1 d_Co_learnVote_56 ?_
        refine lv_aload_n X.1 X.2.1 d_Co_learnVote_57 rfl (lv_at hl 4 rfl) ?_
        refine gg_Co_46 (by omega) (by omega) X hP d_Co_learnVote_58 ?_
        refine lv_iload_n X.1 X.2.1 d_Co_learnVote_61 rfl (lv_at hl 2 rfl) ?_
        refine lv_iconst (v := nI 4) X.1 X.2.1 d_Co_learnVote_62 (by decide) ?_
        refine gx_imul X.1 X.2.1 d_Co_learnVote_63 ?_
        refine lv_iload X.1 X.2.1 d_Co_learnVote_64 (lv_at hl 0 rfl) ?_
        refine gx_iadd X.1 X.2.1 d_Co_learnVote_66 ?_
        refine ga_nSn (by omega) (by omega) (by omega) X hP d_Co_learnVote_67 ?_
        rw [eN]
        refine gs_113 (by omega) X hJ hP hS d_Co_learnVote_68 (fun H locs hP hS => ?_)
        refine lv_iinc (k := 0) (v := nI (i + 1)) X.1 X.2.1 d_Co_learnVote_69 hl rfl (nI_add _ _) (by decide) rfl (fun ls hl => ?_)
        have hl : lv_has ls 5 [(4, .int (nI (i + 1))), (0, .ref (ad 110)), (1, .int (nI u)), (2, .ref (ad (nTx u))), (3, .ref (ad (nSt sh ri)))] := hl
        refine lv_goto (tgt := 22) X.1 X.2.1 d_Co_learnVote_72 (by decide) ?_
        refine ih (i + 1) _ (by omega) ?_ ?_ H locs ls hP hS (lv_sub hl [0, 1, 2, 3, 4] rfl)
        · intro n n1; rw [gx_w_row _ _ _ n1]; exact g1 n n1
        · rw [gx_w_rs]; exact pd_no g2 (by have := (hw.2.1 u).1; omega) (by rw [pd_sh ho]; exact h44) rfl
  refine lv_aload_n X.1 X.2.1 d_Co_learnVote_0 rfl (lv_at hl 0 rfl) ?_
  refine gg_Co_15 X hP d_Co_learnVote_1 ?_
  refine lv_iload_n X.1 X.2.1 d_Co_learnVote_4 rfl (lv_at hl 1 rfl) ?_
  refine lv_iconst (v := nI 3) X.1 X.2.1 d_Co_learnVote_5 (by decide) ?_
  refine gx_imul X.1 X.2.1 d_Co_learnVote_6 ?_
  refine lv_aload_n X.1 X.2.1 d_Co_learnVote_7 rfl (lv_at hl 3 rfl) ?_
  refine gg_Co_31 (by omega) (by omega) X hP d_Co_learnVote_8 ?_
  rw [hs0]
  refine gx_iadd X.1 X.2.1 d_Co_learnVote_11 ?_
  refine lv_aload_n X.1 X.2.1 d_Co_learnVote_12 rfl (lv_at hl 3 rfl) ?_
  refine gg_Co_37 (by omega) (by omega) X hP d_Co_learnVote_13 ?_
  refine lv_iload_n X.1 X.2.1 d_Co_learnVote_16 rfl (lv_at hl 1 rfl) ?_
  refine ga_nSo (by omega) (by omega) (by omega) X hP d_Co_learnVote_17 ?_
  refine gs_111 (by omega) X hJ hP hS d_Co_learnVote_18 (fun H locs hP hS => ?_)
  refine lv_iconst (v := nI 0) X.1 X.2.1 d_Co_learnVote_19 (by decide) ?_
  refine lv_istore X.1 X.2.1 d_Co_learnVote_20 hl (by decide) rfl (fun ls hl => ?_)
  have hl : lv_has ls 5 [(4, .int (nI 0)), (0, .ref (ad 110)), (1, .int (nI u)), (2, .ref (ad (nTx u))), (3, .ref (ad (nSt sh ri)))] := hl
  exact lp _ 0 _ (Nat.zero_add _) (fun n _ => rfl) (fun w j _ => by rw [if_neg (by omega), gx_w_row _ _ _ (by decide)]) _ _ ls hP hS (lv_sub hl [0, 1, 2, 3, 4] rfl)
