/-! contracts: replicas -/
section CA
variable {p : Program} {l : Launch} {e : Env} {R : Room} {s : State} {m : MethodId} {args : Array Value} {below : List Frame} {meth : Method} {c : Code} {H : Heap} {locs : List Loc} {cells slots : Nat} {Q : State → Prop}
variable {cc : ByteArray} {pc : Nat} {ls : Array Slot} {rest st0 : List Value} {A : Nat → Prop} {H0 : Heap} {dC : Nat → ClassId} {dI : Nat → Nat → Nat} {cx : Nat → ClassId} {ad : Nat → Nat} {σ : gx_M} {own : String} {nL : Nat}
theorem cwA_SS : GoodIn gU (va_wsU "CommitGroups$Replica" 36 R_SS "CommitGroups$State" ⟨"CommitGroups$State", "execute", "(II)V"⟩ y_SS_execute w_SS_execute) := fun w h => (List.mem_append.mp h).elim (fun q => by
  rcases List.mem_cons.mp q with rfl | q
  · exact gU_good _ (gU_mem (List.mem_append_right _ (List.mem_append_right _ (List.mem_append_left _ (List.mem_of_getElem? (i := 42) rfl)))) rfl)
  rcases List.mem_cons.mp q with rfl | q
  · exact gU_good _ (gU_mem (List.mem_append_right _ (List.mem_append_right _ (List.mem_append_left _ (List.mem_of_getElem? (i := 44) rfl)))) rfl)
  rcases List.mem_cons.mp q with rfl | q
  · exact gU_good _ (gU_mem (List.mem_append_right _ (List.mem_append_right _ (List.mem_append_left _ (List.mem_of_getElem? (i := 48) rfl)))) rfl)
  rcases List.mem_cons.mp q with rfl | q
  · exact gU_good _ (gU_mem (List.mem_append_right _ (List.mem_append_right _ (List.mem_append_left _ (List.mem_of_getElem? (i := 49) rfl)))) rfl)
  rcases List.mem_cons.mp q with rfl | q
  · exact gU_good _ (gU_mem (List.mem_append_right _ (List.mem_append_left _ (List.mem_of_getElem? (i := 5) rfl))) rfl)
  cases q) (wg_SS_execute w)
theorem cvA_SS {d n : Nat} {As : List Value} {fs : List Value} {post : gx_M → Prop} (X : cg_X cc R_Rp nL dC dI cx p m c s args) (hJ : gx_J gx_N ad A) (hP : cg_P dC dI cx ad σ H) (hS : va_S A H0 H locs) (hn : n < gx_N) (hc : gx_ec cx ad n (σ n) = .inr (kSS, fs)) (hM : cg_Mv l dC dI cx ad y_SS_execute w_SS_execute d (.ref (ad n) :: As) σ post) (hst : st0 = As.reverse ++ .ref (ad n) :: rest) (hlen : As.length = 2) (hR : d + 1 ≤ R.frames ∧ 8 + (3 + 11) + 45 * d ≤ R.locals) (hls : ls.size = nL) (hroom : (rest.map fun v => v.category).sum ≤ 8) (hcs : cells ≤ R.cells ∧ slots ≤ R.slots) (hdg : decode cc pc = .ok (.invokevirtual 36, 3))
    (kk : ∀ (σ' : gx_M) (H : Heap) (locs : List Loc), post σ' → cg_P dC dI cx ad σ' H → va_S A H0 H locs → W p l e R s m args below meth c H locs cells slots Q (F0 m (pc + 3) ls rest)) : W p l e R s m args below meth c H locs cells slots Q (F0 m pc ls st0) := by
  refine gx_callv hJ hS (va_runU (own := "CommitGroups$Replica") (C := R_SS) (owner := "CommitGroups$State") (index := 36) (x := ⟨"CommitGroups$State", "execute", "(II)V"⟩) (bytes := c_SS_execute) (maxL := 3) (ret := (Option.none : Option Jvm.ClassFile.FieldType)) ⟨X.1, X.2.1, X.2.2.2.2.2.2, X.2.2.1, X.2.2.2.1⟩ hM (va_cwA 2 X.2.2.2.1 cwA_SS rfl rfl rfl X.2.2.2.2.2.1 (by decide +kernel) hR) (gx_preV cg_H X.2.2.2.2.1 X.2.2.2.2.2.1 hP hn hc rfl As) rfl hlen hls hst (lv_room hroom) hdg hcs) kk
theorem cwA_DS : GoodIn gU (va_wsU "CommitGroups$Replica" 36 R_DS "CommitGroups$State" ⟨"CommitGroups$State", "execute", "(II)V"⟩ y_DS_execute w_DS_execute) := fun w h => (List.mem_append.mp h).elim (fun q => by
  rcases List.mem_cons.mp q with rfl | q
  · exact gU_good _ (gU_mem (List.mem_append_right _ (List.mem_append_right _ (List.mem_append_left _ (List.mem_of_getElem? (i := 42) rfl)))) rfl)
  rcases List.mem_cons.mp q with rfl | q
  · exact gU_good _ (gU_mem (List.mem_append_right _ (List.mem_append_right _ (List.mem_append_left _ (List.mem_of_getElem? (i := 44) rfl)))) rfl)
  rcases List.mem_cons.mp q with rfl | q
  · exact gU_good _ (gU_mem (List.mem_append_right _ (List.mem_append_right _ (List.mem_append_left _ (List.mem_of_getElem? (i := 45) rfl)))) rfl)
  rcases List.mem_cons.mp q with rfl | q
  · exact gU_good _ (gU_mem (List.mem_append_right _ (List.mem_append_right _ (List.mem_append_left _ (List.mem_of_getElem? (i := 46) rfl)))) rfl)
  rcases List.mem_cons.mp q with rfl | q
  · exact gU_good _ (gU_mem (List.mem_append_right _ (List.mem_append_left _ (List.mem_of_getElem? (i := 8) rfl))) rfl)
  cases q) (wg_DS_execute w)
theorem cvA_DS {d n : Nat} {As : List Value} {fs : List Value} {post : gx_M → Prop} (X : cg_X cc R_Rp nL dC dI cx p m c s args) (hJ : gx_J gx_N ad A) (hP : cg_P dC dI cx ad σ H) (hS : va_S A H0 H locs) (hn : n < gx_N) (hc : gx_ec cx ad n (σ n) = .inr (kDS, fs)) (hM : cg_Mv l dC dI cx ad y_DS_execute w_DS_execute d (.ref (ad n) :: As) σ post) (hst : st0 = As.reverse ++ .ref (ad n) :: rest) (hlen : As.length = 2) (hR : d + 1 ≤ R.frames ∧ 8 + (3 + 11) + 45 * d ≤ R.locals) (hls : ls.size = nL) (hroom : (rest.map fun v => v.category).sum ≤ 8) (hcs : cells ≤ R.cells ∧ slots ≤ R.slots) (hdg : decode cc pc = .ok (.invokevirtual 36, 3))
    (kk : ∀ (σ' : gx_M) (H : Heap) (locs : List Loc), post σ' → cg_P dC dI cx ad σ' H → va_S A H0 H locs → W p l e R s m args below meth c H locs cells slots Q (F0 m (pc + 3) ls rest)) : W p l e R s m args below meth c H locs cells slots Q (F0 m pc ls st0) := by
  refine gx_callv hJ hS (va_runU (own := "CommitGroups$Replica") (C := R_DS) (owner := "CommitGroups$State") (index := 36) (x := ⟨"CommitGroups$State", "execute", "(II)V"⟩) (bytes := c_DS_execute) (maxL := 3) (ret := (Option.none : Option Jvm.ClassFile.FieldType)) ⟨X.1, X.2.1, X.2.2.2.2.2.2, X.2.2.1, X.2.2.2.1⟩ hM (va_cwA 2 X.2.2.2.1 cwA_DS rfl rfl rfl X.2.2.2.2.2.1 (by decide +kernel) hR) (gx_preV cg_H X.2.2.2.2.1 X.2.2.2.2.2.1 hP hn hc rfl As) rfl hlen hls hst (lv_room hroom) hdg hcs) kk
end CA
set_option maxRecDepth 100000 in
set_option maxHeartbeats 4000000 in
theorem K_DS_execute (l : Launch) (dC : Nat → ClassId) (dI : Nat → Nat → Nat) (cx : Nat → ClassId) (ad : Nat → Nat) (hJ : gx_J gx_N ad (gx_A gx_N ad)) (σ : gx_M) (ri t k : Nat) (h1 : ri < 3) (ht : t < 21) (hv : σ (nDd ri) t ≤ 2) : cg_Mv l dC dI cx ad y_DS_execute w_DS_execute 0 [.ref (ad (nSt 3 ri)), .int (nI k), .int (nI t)] σ (fun σ' => σ' = if σ (nDd ri) t = 0 then gx_w σ (nDd ri) t k else σ) := by
  refine gx_ofW (cc := c_DS_execute) (maxL := 3) (ret := (Option.none : Option Jvm.ClassFile.FieldType)) (by decide) rfl (Nat.le_of_ble_eq_true rfl) ?_
  intro p e s m below meth c ls S hr hlk hK hN hl hP
  have X : cg_X c_DS_execute "CommitGroups$DecisionState" 3 dC dI cx p m c s _ := ⟨S.1, S.2.1, S.2.2.2.1, fun w h => S.2.2.2.2 w (List.mem_cons_of_mem _ h), hK, hN, S.2.2.1⟩
  have hS : va_S (gx_A gx_N ad) s.heap s.heap [] := va_S.rf
  have hl : lv_has ls 3 [(0, .ref (ad (nSt 3 ri))), (1, .int (nI k)), (2, .int (nI t))] := hl
  refine lv_aload_n X.1 X.2.1 d_DS_execute_0 rfl (lv_at hl 0 rfl) ?_
  refine gg_DS_9 (by omega) X hP d_DS_execute_1 ?_
  refine lv_iload_n X.1 X.2.1 d_DS_execute_4 rfl (lv_at hl 2 rfl) ?_
  refine ga_nDd (by omega) (by omega) X hP d_DS_execute_5 ?_
  refine gx_if_ne X.1 X.2.1 (tgt := 16) d_DS_execute_6 (by decide) (by omega) (fun h6 => ?_) (fun h6 => ?_)
  · skip
    refine gx_vret X.1 X.2.1 hr hlk hP hS d_DS_execute_16 ?_
    exact (if_neg h6).symm
  · skip
    refine lv_aload_n X.1 X.2.1 d_DS_execute_9 rfl (lv_at hl 0 rfl) ?_
    refine gg_DS_9 (by omega) X hP d_DS_execute_10 ?_
    refine lv_iload_n X.1 X.2.1 d_DS_execute_13 rfl (lv_at hl 2 rfl) ?_
    refine lv_iload_n X.1 X.2.1 d_DS_execute_14 rfl (lv_at hl 1 rfl) ?_
    refine gs_nDd (by omega) (by omega) X hJ hP hS d_DS_execute_15 (fun H locs hP hS => ?_)
    refine gx_vret X.1 X.2.1 hr hlk hP hS d_DS_execute_16 ?_
    exact (if_pos h6).symm
set_option maxRecDepth 100000 in
set_option maxHeartbeats 4000000 in
theorem K_Rp_append (l : Launch) (dC : Nat → ClassId) (dI : Nat → Nat → Nat) (cx : Nat → ClassId) (ad : Nat → Nat) (hJ : gx_J gx_N ad (gx_A gx_N ad)) (σ : gx_M) (gi ri x : Nat) (h0 : gi < 4) (h1 : ri < 3) (hl0 : σ (nRp gi ri) 4 < 60) : cg_Mv l dC dI cx ad y_Rp_append w_Rp_append 0 [.ref (ad (nRp gi ri)), .int (nI x)] σ (fun σ' => σ' = gx_w (gx_w σ (nLg gi ri) (σ (nRp gi ri) 4) x) (nRp gi ri) 4 (σ (nRp gi ri) 4 + 1)) := by
  refine gx_ofW (cc := c_Rp_append) (maxL := 2) (ret := (Option.none : Option Jvm.ClassFile.FieldType)) (by decide) rfl (Nat.le_of_ble_eq_true rfl) ?_
  intro p e s m below meth c ls S hr hlk hK hN hl hP
  have X : cg_X c_Rp_append "CommitGroups$Replica" 2 dC dI cx p m c s _ := ⟨S.1, S.2.1, S.2.2.2.1, fun w h => S.2.2.2.2 w (List.mem_cons_of_mem _ h), hK, hN, S.2.2.1⟩
  have hS : va_S (gx_A gx_N ad) s.heap s.heap [] := va_S.rf
  have hl : lv_has ls 2 [(0, .ref (ad (nRp gi ri))), (1, .int (nI x))] := hl
  refine lv_aload_n X.1 X.2.1 d_Rp_append_0 rfl (lv_at hl 0 rfl) ?_
  refine gg_Rp_23 (by omega) (by omega) X hP d_Rp_append_1 ?_
  refine lv_bipush (v := nI 60) X.1 X.2.1 d_Rp_append_4 (by decide) ?_
  refine gx_icmp_ge X.1 X.2.1 (tgt := 29) d_Rp_append_6 (by decide) (by omega) (by omega) (fun h6 => absurd h6 (by omega)) (fun h6 => ?_)
  refine lv_aload_n X.1 X.2.1 d_Rp_append_9 rfl (lv_at hl 0 rfl) ?_
  refine gg_Rp_9 (by omega) (by omega) X hP d_Rp_append_10 ?_
  refine lv_aload_n X.1 X.2.1 d_Rp_append_13 rfl (lv_at hl 0 rfl) ?_
  refine gg_Rp_23 (by omega) (by omega) X hP d_Rp_append_14 ?_
  refine lv_iload_n X.1 X.2.1 d_Rp_append_17 rfl (lv_at hl 1 rfl) ?_
  refine gs_nLg (by omega) (by omega) (by omega) X hJ hP hS d_Rp_append_18 (fun H locs hP hS => ?_)
  refine lv_aload_n X.1 X.2.1 d_Rp_append_19 rfl (lv_at hl 0 rfl) ?_
  refine lv_dup X.1 X.2.1 d_Rp_append_20 rfl ?_
  refine gg_Rp_23 (by omega) (by omega) X hP d_Rp_append_21 ?_
  rw [gx_w_row _ _ _ (nRp_Lg h0 h1 h0 h1)]
  refine lv_iconst (v := nI 1) X.1 X.2.1 d_Rp_append_24 (by decide) ?_
  refine gx_iadd X.1 X.2.1 d_Rp_append_25 ?_
  refine gp_Rp_23 (by omega) (by omega) X hJ hP hS d_Rp_append_26 (fun H locs hP hS => ?_)
  refine gx_vret X.1 X.2.1 hr hlk hP hS d_Rp_append_29 ?_
  rfl
set_option maxRecDepth 100000 in
set_option maxHeartbeats 4000000 in
theorem K_Rp_copyLog (l : Launch) (dC : Nat → ClassId) (dI : Nat → Nat → Nat) (cx : Nat → ClassId) (ad : Nat → Nat) (hJ : gx_J gx_N ad (gx_A gx_N ad)) (σ : gx_M) (gi ri f : Nat) (h0 : gi < 4) (h1 : ri < 3) (hf : f < 3) (hl0 : σ (nRp gi f) 4 ≤ 60) : cg_Mv l dC dI cx ad y_Rp_copyLog w_Rp_copyLog 1 [.ref (ad (nRp gi ri)), .ref (ad (nRp gi f))] σ (fun σ' => σ' = gx_w (gx_cp σ (nLg gi f) (nLg gi ri) (σ (nRp gi f) 4)) (nRp gi ri) 4 (σ (nRp gi f) 4)) := by
  refine gx_ofW (cc := c_Rp_copyLog) (maxL := 2) (ret := (Option.none : Option Jvm.ClassFile.FieldType)) (by decide) rfl (Nat.le_of_ble_eq_true rfl) ?_
  intro p e s m below meth c ls S hr hlk hK hN hl hP
  have X : cg_X c_Rp_copyLog "CommitGroups$Replica" 2 dC dI cx p m c s _ := ⟨S.1, S.2.1, S.2.2.2.1, fun w h => S.2.2.2.2 w (List.mem_cons_of_mem _ h), hK, hN, S.2.2.1⟩
  have hS : va_S (gx_A gx_N ad) s.heap s.heap [] := va_S.rf
  have hl : lv_has ls 2 [(0, .ref (ad (nRp gi ri))), (1, .ref (ad (nRp gi f)))] := hl
  refine lv_aload_n X.1 X.2.1 d_Rp_copyLog_0 rfl (lv_at hl 1 rfl) ?_
  refine gg_Rp_9 (by omega) (by omega) X hP d_Rp_copyLog_1 ?_
  refine lv_iconst (v := nI 0) X.1 X.2.1 d_Rp_copyLog_4 (by decide) ?_
  refine lv_aload_n X.1 X.2.1 d_Rp_copyLog_5 rfl (lv_at hl 0 rfl) ?_
  refine gg_Rp_9 (by omega) (by omega) X hP d_Rp_copyLog_6 ?_
  refine lv_iconst (v := nI 0) X.1 X.2.1 d_Rp_copyLog_9 (by decide) ?_
  refine lv_aload_n X.1 X.2.1 d_Rp_copyLog_10 rfl (lv_at hl 1 rfl) ?_
  refine gg_Rp_23 (by omega) (by omega) X hP d_Rp_copyLog_11 ?_
  refine gx_copy X hl.1 hJ hP hS (nLg_lt h0 hf) (nLg_lt h0 h1) (ec_nLg h0 hf _) (fun f' => ec_nLg h0 h1 f') hl0 (by decide) (X.2.2.2.1 _ (gU_mem (List.mem_append_right _ (List.mem_append_right _ (List.mem_append_left _ (List.mem_of_getElem? (i := 35) rfl)))) rfl)) (X.2.2.2.1 _ (gU_mem (List.mem_append_right _ (List.mem_append_right _ (List.mem_append_left _ (List.mem_of_getElem? (i := 37) rfl)))) rfl)) (X.2.2.2.1 _ (gU_mem (List.mem_append_right _ (List.mem_append_right _ (List.mem_append_left _ (List.mem_of_getElem? (i := 36) rfl)))) rfl)) (X.2.2.2.1 _ (gU_mem (List.mem_append_right _ (List.mem_append_left _ (List.mem_of_getElem? (i := 11) rfl))) rfl)) (by decide) (by decide +kernel) d_Rp_copyLog_14 (fun H locs hP hS => ?_)
  refine lv_aload_n X.1 X.2.1 d_Rp_copyLog_17 rfl (lv_at hl 0 rfl) ?_
  refine lv_aload_n X.1 X.2.1 d_Rp_copyLog_18 rfl (lv_at hl 1 rfl) ?_
  refine gg_Rp_23 (by omega) (by omega) X hP d_Rp_copyLog_19 ?_
  have ecp : gx_cp σ (nLg gi f) (nLg gi ri) (σ (nRp gi f) 4) (nRp gi f) = σ (nRp gi f) := va_up_ne _ _ (nRp_Lg h0 hf h0 h1)
  rw [ecp]
  refine gp_Rp_23 (by omega) (by omega) X hJ hP hS d_Rp_copyLog_22 (fun H locs hP hS => ?_)
  refine gx_vret X.1 X.2.1 hr hlk hP hS d_Rp_copyLog_25 ?_
  rfl
set_option maxRecDepth 100000 in
set_option maxHeartbeats 4000000 in
theorem K_Rp_catchUp_s (l : Launch) (dC : Nat → ClassId) (dI : Nat → Nat → Nat) (cx : Nat → ClassId) (ad : Nat → Nat) (hJ : gx_J gx_N ad (gx_A gx_N ad)) (σ : gx_M) (a : ab_S) (gi ri : Nat) (h0 : gi < 3) (h1 : ri < 3) (hx : xr σ a) (hw : ab_W a) : cg_Mv l dC dI cx ad y_Rp_catchUp w_Rp_catchUp 3 [.ref (ad (nRp gi ri))] σ (fun σ' => xr σ' (ab_setdn a gi ri (ab_lg a gi ri).length) ∧ ∀ n, 224 ≤ n → σ' n = σ n) := by
  refine gx_ofW (cc := c_Rp_catchUp) (maxL := 1) (ret := (Option.none : Option Jvm.ClassFile.FieldType)) (by decide) rfl (Nat.le_of_ble_eq_true rfl) ?_
  intro p e s m below meth c ls S hr hlk hK hN hl hP
  have X : cg_X c_Rp_catchUp "CommitGroups$Replica" 1 dC dI cx p m c s _ := ⟨S.1, S.2.1, S.2.2.2.1, fun w h => S.2.2.2.2 w (List.mem_cons_of_mem _ h), hK, hN, S.2.2.1⟩
  have hS : va_S (gx_A gx_N ad) s.heap s.heap [] := va_S.rf
  have hl : lv_has ls 1 [(0, .ref (ad (nRp gi ri)))] := hl
  obtain ⟨hw1, hw2, hw3, hw4⟩ := hw.2.2 gi ri (by omega) h1
  have lp : ∀ (k : Nat) (dd : Nat) (τ : gx_M), dd + k = (ab_lg a gi ri).length → xr τ (ab_setdn a gi ri dd) → (∀ n, 224 ≤ n → τ n = σ n) → ∀ (H : Heap) (locs : List Loc) (ls : Array Slot), cg_P dC dI cx ad τ H → va_S (gx_A gx_N ad) s.heap H locs → lv_has ls 1 [(0, .ref (ad (nRp gi ri)))] → W p l e (rmL 3) s m ([.ref (ad (nRp gi ri))] : List Value).toArray below meth c H locs 0 0 (cg_Qv dC dI cx ad (fun σ' => xr σ' (ab_setdn a gi ri (ab_lg a gi ri).length) ∧ ∀ n, 224 ≤ n → σ' n = σ n) below [.ref (ad (nRp gi ri))] s) (F0 m 0 ls []) := by
    intro k
    induction k with
    | zero =>
      intro dd τ hik hxt hfr H locs ls hP hS hl
      have hwd : ab_W (ab_setdn a gi ri dd) := ab_W_dn hw (by omega)
      obtain ⟨y1, y2, y3, y4, y5⟩ := hxt.2.2.1 gi ri (by omega) h1
      rw [ab_setdn_dn] at y4
      have eD : τ (nRp gi ri) 5 = dd := y4
      have eL : τ (nRp gi ri) 4 = (ab_lg a gi ri).length := y3
      refine lv_aload_n X.1 X.2.1 d_Rp_catchUp_0 rfl (lv_at hl 0 rfl) ?_
      refine gg_Rp_33 (by omega) (by omega) X hP d_Rp_catchUp_1 ?_
      rw [eD]
      refine lv_aload_n X.1 X.2.1 d_Rp_catchUp_4 rfl (lv_at hl 0 rfl) ?_
      refine gg_Rp_23 (by omega) (by omega) X hP d_Rp_catchUp_5 ?_
      rw [eL]
      refine gx_icmp_ge X.1 X.2.1 (tgt := 53) d_Rp_catchUp_8 (by decide) (by omega) (by omega) (fun h8 => ?_) (fun h8 => absurd h8 (by omega))
      refine gx_vret X.1 X.2.1 hr hlk hP hS d_Rp_catchUp_53 ?_
      exact ⟨by rw [← (show dd = (ab_lg a gi ri).length by omega)]; exact hxt, hfr⟩
    | succ k ih =>
      intro dd τ hik hxt hfr H locs ls hP hS hl
      have hwd : ab_W (ab_setdn a gi ri dd) := ab_W_dn hw (by omega)
      obtain ⟨y1, y2, y3, y4, y5⟩ := hxt.2.2.1 gi ri (by omega) h1
      rw [ab_setdn_dn] at y4
      have eD : τ (nRp gi ri) 5 = dd := y4
      have eL : τ (nRp gi ri) 4 = (ab_lg a gi ri).length := y3
      refine lv_aload_n X.1 X.2.1 d_Rp_catchUp_0 rfl (lv_at hl 0 rfl) ?_
      refine gg_Rp_33 (by omega) (by omega) X hP d_Rp_catchUp_1 ?_
      rw [eD]
      refine lv_aload_n X.1 X.2.1 d_Rp_catchUp_4 rfl (lv_at hl 0 rfl) ?_
      refine gg_Rp_23 (by omega) (by omega) X hP d_Rp_catchUp_5 ?_
      rw [eL]
      refine gx_icmp_ge X.1 X.2.1 (tgt := 53) d_Rp_catchUp_8 (by decide) (by omega) (by omega) (fun h8 => absurd h8 (by omega)) (fun h8 => ?_)
      obtain ⟨en, hen⟩ : ∃ en, (ab_lg a gi ri)[dd]? = some en := ⟨(ab_lg a gi ri)[dd], List.getElem?_eq_getElem (by omega)⟩
      obtain ⟨w1, w2, w3⟩ := hw4 en (List.mem_of_getElem? hen)
      have eE : τ (nLg gi ri) dd = 3 * en.2 + en.1 := y5 dd en hen
      have hen2 : (ab_lg (ab_setdn a gi ri dd) gi ri)[ab_dn (ab_setdn a gi ri dd) gi ri]? = some en := by rw [ab_setdn_dn]; exact hen
      refine lv_aload_n X.1 X.2.1 d_Rp_catchUp_11 rfl (lv_at hl 0 rfl) ?_
      refine gg_Rp_19 (by omega) (by omega) X hP d_Rp_catchUp_12 ?_
      refine lv_aload_n X.1 X.2.1 d_Rp_catchUp_15 rfl (lv_at hl 0 rfl) ?_
      refine gg_Rp_9 (by omega) (by omega) X hP d_Rp_catchUp_16 ?_
      refine lv_aload_n X.1 X.2.1 d_Rp_catchUp_19 rfl (lv_at hl 0 rfl) ?_
      refine gg_Rp_33 (by omega) (by omega) X hP d_Rp_catchUp_20 ?_
      rw [eD]
      refine ga_nLg (by omega) (by omega) (by omega) X hP d_Rp_catchUp_23 ?_
      rw [eE]
      refine lv_iconst (v := nI 3) X.1 X.2.1 d_Rp_catchUp_24 (by decide) ?_
      refine gx_irem X.1 X.2.1 d_Rp_catchUp_25 (by omega) (by decide) (by decide) ?_
      rw [show (3 * en.2 + en.1) % 3 = en.1 by omega]
      refine lv_aload_n X.1 X.2.1 d_Rp_catchUp_26 rfl (lv_at hl 0 rfl) ?_
      refine gg_Rp_9 (by omega) (by omega) X hP d_Rp_catchUp_27 ?_
      refine lv_aload_n X.1 X.2.1 d_Rp_catchUp_30 rfl (lv_at hl 0 rfl) ?_
      refine gg_Rp_33 (by omega) (by omega) X hP d_Rp_catchUp_31 ?_
      rw [eD]
      refine ga_nLg (by omega) (by omega) (by omega) X hP d_Rp_catchUp_34 ?_
      rw [eE]
      refine lv_iconst (v := nI 3) X.1 X.2.1 d_Rp_catchUp_35 (by decide) ?_
      refine gx_idiv X.1 X.2.1 d_Rp_catchUp_36 (by omega) (by decide) (by decide) ?_
      rw [show (3 * en.2 + en.1) / 3 = en.2 by omega]
      refine cvA_SS (rest := []) X hJ hP hS (nSt_lt (by omega) h1) (ec_nSS h0 h1 _) (K_SS_execute l dC dI cx ad hJ τ (ab_op a) (ab_ex (ab_setdn a gi ri dd) gi ri) gi ri en.2 en.1 h0 h1 w1 (by omega) (hxt.2.2.2.1 gi ri h0 h1).1 (xr_tx_ok hxt.2.1 hwd (by omega)) (hxt.2.2.2.1 gi ri h0 h1).2 (fun u => pu_ex_vo_le _ _ _ _) (by omega)) rfl rfl (by decide) hl.1 (by decide) ⟨Nat.le_refl _, Nat.le_refl _⟩ d_Rp_catchUp_37 (fun σ' H locs hq hP hS => ?_)
      obtain ⟨q1, q2⟩ := hq
      have eR : σ' (nRp gi ri) = τ (nRp gi ri) := q2 _ (fun z => ap_RS ⟨gi, ri, by omega, h1, Or.inl rfl⟩ ⟨gi, ri, h0, h1, z.1, z.2⟩)
      have hstep := xs_step hxt h0 h1 hen2 q1 q2
      rw [ab_setdn_dn, ab_setdn_two] at hstep
      refine lv_aload_n X.1 X.2.1 d_Rp_catchUp_40 rfl (lv_at hl 0 rfl) ?_
      refine lv_dup X.1 X.2.1 d_Rp_catchUp_41 rfl ?_
      refine gg_Rp_33 (by omega) (by omega) X hP d_Rp_catchUp_42 ?_
      rw [eR, eD]
      refine lv_iconst (v := nI 1) X.1 X.2.1 d_Rp_catchUp_45 (by decide) ?_
      refine gx_iadd X.1 X.2.1 d_Rp_catchUp_46 ?_
      refine gp_Rp_33 (by omega) (by omega) X hJ hP hS d_Rp_catchUp_47 (fun H locs hP hS => ?_)
      refine lv_goto (tgt := 0) X.1 X.2.1 d_Rp_catchUp_50 (by decide) ?_
      exact ih (dd + 1) _ (by omega) hstep (fun n hn => by rw [gx_w_row _ _ _ (fun z => by have := nRp_lt (g := gi) (r := ri) (by omega) h1; obtain ⟨g', r', b1, b2, b3⟩ := fR_num (n := n) (z ▸ ⟨gi, ri, by omega, h1, Or.inl rfl⟩); omega), q2 n (fun z => by obtain ⟨z1, z2⟩ := z; omega)]; exact hfr n hn) H locs ls hP hS hl
  exact lp ((ab_lg a gi ri).length - ab_dn a gi ri) (ab_dn a gi ri) σ (by omega) (by rw [ab_setdn_id]; exact hx) (fun n _ => rfl) _ _ ls hP hS hl
set_option maxRecDepth 100000 in
set_option maxHeartbeats 4000000 in
theorem K_Rp_catchUp_d (l : Launch) (dC : Nat → ClassId) (dI : Nat → Nat → Nat) (cx : Nat → ClassId) (ad : Nat → Nat) (hJ : gx_J gx_N ad (gx_A gx_N ad)) (σ : gx_M) (a : ab_S) (ri : Nat) (h1 : ri < 3) (hx : xr σ a) (hw : ab_W a) (hds : ∀ t dd, ab_ds (ab_setdn a 3 ri dd) ri t ≤ 2) : cg_Mv l dC dI cx ad y_Rp_catchUp w_Rp_catchUp 3 [.ref (ad (nRp 3 ri))] σ (fun σ' => xr σ' (ab_setdn a 3 ri (ab_lg a 3 ri).length) ∧ ∀ n, 224 ≤ n → σ' n = σ n) := by
  refine gx_ofW (cc := c_Rp_catchUp) (maxL := 1) (ret := (Option.none : Option Jvm.ClassFile.FieldType)) (by decide) rfl (Nat.le_of_ble_eq_true rfl) ?_
  intro p e s m below meth c ls S hr hlk hK hN hl hP
  have X : cg_X c_Rp_catchUp "CommitGroups$Replica" 1 dC dI cx p m c s _ := ⟨S.1, S.2.1, S.2.2.2.1, fun w h => S.2.2.2.2 w (List.mem_cons_of_mem _ h), hK, hN, S.2.2.1⟩
  have hS : va_S (gx_A gx_N ad) s.heap s.heap [] := va_S.rf
  have hl : lv_has ls 1 [(0, .ref (ad (nRp 3 ri)))] := hl
  obtain ⟨hw1, hw2, hw3, hw4⟩ := hw.2.2 3 ri (by omega) h1
  have lp : ∀ (k : Nat) (dd : Nat) (τ : gx_M), dd + k = (ab_lg a 3 ri).length → xr τ (ab_setdn a 3 ri dd) → (∀ n, 224 ≤ n → τ n = σ n) → ∀ (H : Heap) (locs : List Loc) (ls : Array Slot), cg_P dC dI cx ad τ H → va_S (gx_A gx_N ad) s.heap H locs → lv_has ls 1 [(0, .ref (ad (nRp 3 ri)))] → W p l e (rmL 3) s m ([.ref (ad (nRp 3 ri))] : List Value).toArray below meth c H locs 0 0 (cg_Qv dC dI cx ad (fun σ' => xr σ' (ab_setdn a 3 ri (ab_lg a 3 ri).length) ∧ ∀ n, 224 ≤ n → σ' n = σ n) below [.ref (ad (nRp 3 ri))] s) (F0 m 0 ls []) := by
    intro k
    induction k with
    | zero =>
      intro dd τ hik hxt hfr H locs ls hP hS hl
      have hwd : ab_W (ab_setdn a 3 ri dd) := ab_W_dn hw (by omega)
      obtain ⟨y1, y2, y3, y4, y5⟩ := hxt.2.2.1 3 ri (by omega) h1
      rw [ab_setdn_dn] at y4
      have eD : τ (nRp 3 ri) 5 = dd := y4
      have eL : τ (nRp 3 ri) 4 = (ab_lg a 3 ri).length := y3
      refine lv_aload_n X.1 X.2.1 d_Rp_catchUp_0 rfl (lv_at hl 0 rfl) ?_
      refine gg_Rp_33 (by omega) (by omega) X hP d_Rp_catchUp_1 ?_
      rw [eD]
      refine lv_aload_n X.1 X.2.1 d_Rp_catchUp_4 rfl (lv_at hl 0 rfl) ?_
      refine gg_Rp_23 (by omega) (by omega) X hP d_Rp_catchUp_5 ?_
      rw [eL]
      refine gx_icmp_ge X.1 X.2.1 (tgt := 53) d_Rp_catchUp_8 (by decide) (by omega) (by omega) (fun h8 => ?_) (fun h8 => absurd h8 (by omega))
      refine gx_vret X.1 X.2.1 hr hlk hP hS d_Rp_catchUp_53 ?_
      exact ⟨by rw [← (show dd = (ab_lg a 3 ri).length by omega)]; exact hxt, hfr⟩
    | succ k ih =>
      intro dd τ hik hxt hfr H locs ls hP hS hl
      have hwd : ab_W (ab_setdn a 3 ri dd) := ab_W_dn hw (by omega)
      obtain ⟨y1, y2, y3, y4, y5⟩ := hxt.2.2.1 3 ri (by omega) h1
      rw [ab_setdn_dn] at y4
      have eD : τ (nRp 3 ri) 5 = dd := y4
      have eL : τ (nRp 3 ri) 4 = (ab_lg a 3 ri).length := y3
      refine lv_aload_n X.1 X.2.1 d_Rp_catchUp_0 rfl (lv_at hl 0 rfl) ?_
      refine gg_Rp_33 (by omega) (by omega) X hP d_Rp_catchUp_1 ?_
      rw [eD]
      refine lv_aload_n X.1 X.2.1 d_Rp_catchUp_4 rfl (lv_at hl 0 rfl) ?_
      refine gg_Rp_23 (by omega) (by omega) X hP d_Rp_catchUp_5 ?_
      rw [eL]
      refine gx_icmp_ge X.1 X.2.1 (tgt := 53) d_Rp_catchUp_8 (by decide) (by omega) (by omega) (fun h8 => absurd h8 (by omega)) (fun h8 => ?_)
      obtain ⟨en, hen⟩ : ∃ en, (ab_lg a 3 ri)[dd]? = some en := ⟨(ab_lg a 3 ri)[dd], List.getElem?_eq_getElem (by omega)⟩
      obtain ⟨w1, w2, w3⟩ := hw4 en (List.mem_of_getElem? hen)
      have eE : τ (nLg 3 ri) dd = 3 * en.2 + en.1 := y5 dd en hen
      have hen2 : (ab_lg (ab_setdn a 3 ri dd) 3 ri)[ab_dn (ab_setdn a 3 ri dd) 3 ri]? = some en := by rw [ab_setdn_dn]; exact hen
      refine lv_aload_n X.1 X.2.1 d_Rp_catchUp_11 rfl (lv_at hl 0 rfl) ?_
      refine gg_Rp_19 (by omega) (by omega) X hP d_Rp_catchUp_12 ?_
      refine lv_aload_n X.1 X.2.1 d_Rp_catchUp_15 rfl (lv_at hl 0 rfl) ?_
      refine gg_Rp_9 (by omega) (by omega) X hP d_Rp_catchUp_16 ?_
      refine lv_aload_n X.1 X.2.1 d_Rp_catchUp_19 rfl (lv_at hl 0 rfl) ?_
      refine gg_Rp_33 (by omega) (by omega) X hP d_Rp_catchUp_20 ?_
      rw [eD]
      refine ga_nLg (by omega) (by omega) (by omega) X hP d_Rp_catchUp_23 ?_
      rw [eE]
      refine lv_iconst (v := nI 3) X.1 X.2.1 d_Rp_catchUp_24 (by decide) ?_
      refine gx_irem X.1 X.2.1 d_Rp_catchUp_25 (by omega) (by decide) (by decide) ?_
      rw [show (3 * en.2 + en.1) % 3 = en.1 by omega]
      refine lv_aload_n X.1 X.2.1 d_Rp_catchUp_26 rfl (lv_at hl 0 rfl) ?_
      refine gg_Rp_9 (by omega) (by omega) X hP d_Rp_catchUp_27 ?_
      refine lv_aload_n X.1 X.2.1 d_Rp_catchUp_30 rfl (lv_at hl 0 rfl) ?_
      refine gg_Rp_33 (by omega) (by omega) X hP d_Rp_catchUp_31 ?_
      rw [eD]
      refine ga_nLg (by omega) (by omega) (by omega) X hP d_Rp_catchUp_34 ?_
      rw [eE]
      refine lv_iconst (v := nI 3) X.1 X.2.1 d_Rp_catchUp_35 (by decide) ?_
      refine gx_idiv X.1 X.2.1 d_Rp_catchUp_36 (by omega) (by decide) (by decide) ?_
      rw [show (3 * en.2 + en.1) / 3 = en.2 by omega]
      refine cvA_DS (rest := []) X hJ hP hS (nSt_lt (by decide) h1) (ec_nDS h1 _) (K_DS_execute l dC dI cx ad hJ τ ri en.2 en.1 h1 (by omega) (by rw [hxt.2.2.2.2.1 ri h1 en.2 (by omega)]; exact hds en.2 dd)) rfl rfl (by decide) hl.1 (by decide) ⟨Nat.le_refl _, Nat.le_refl _⟩ d_Rp_catchUp_37 (fun σ' H locs hq hP hS => ?_)
      have q1 := hq
      have q2 : ∀ n, n ≠ nDd ri → σ' n = τ n := by
        intro n hn
        rw [q1]
        split
        · exact gx_w_row _ _ _ hn
        · rfl
      have eR : σ' (nRp 3 ri) = τ (nRp 3 ri) := q2 _ (fun z => ap_RD (n := nRp 3 ri) ⟨3, ri, by decide, h1, Or.inl rfl⟩ ⟨ri, h1, z⟩)
      have hstep := (xd_step hxt h1 hen2).resolve_right (by omega)
      rw [← q1, ab_setdn_dn, ab_setdn_two] at hstep
      refine lv_aload_n X.1 X.2.1 d_Rp_catchUp_40 rfl (lv_at hl 0 rfl) ?_
      refine lv_dup X.1 X.2.1 d_Rp_catchUp_41 rfl ?_
      refine gg_Rp_33 (by omega) (by omega) X hP d_Rp_catchUp_42 ?_
      rw [eR, eD]
      refine lv_iconst (v := nI 1) X.1 X.2.1 d_Rp_catchUp_45 (by decide) ?_
      refine gx_iadd X.1 X.2.1 d_Rp_catchUp_46 ?_
      refine gp_Rp_33 (by omega) (by omega) X hJ hP hS d_Rp_catchUp_47 (fun H locs hP hS => ?_)
      refine lv_goto (tgt := 0) X.1 X.2.1 d_Rp_catchUp_50 (by decide) ?_
      exact ih (dd + 1) _ (by omega) hstep (fun n hn => by rw [gx_w_row _ _ _ (fun z => by obtain ⟨g', r', b1, b2, b3⟩ := fR_num (n := n) (z ▸ ⟨3, ri, by decide, h1, Or.inl rfl⟩); omega), q2 n (fun z => by unfold nDd at z; omega)]; exact hfr n hn) H locs ls hP hS hl
  exact lp ((ab_lg a 3 ri).length - ab_dn a 3 ri) (ab_dn a 3 ri) σ (by omega) (by rw [ab_setdn_id]; exact hx) (fun n _ => rfl) _ _ ls hP hS hl
