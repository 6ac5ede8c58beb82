/-! contracts: a shard's replica votes and executes -/
set_option maxRecDepth 100000 in
set_option maxHeartbeats 4000000 in
theorem K_SS_castVote (l : Launch) (dC : Nat → ClassId) (dI : Nat → Nat → Nat) (cx : Nat → ClassId) (ad : Nat → Nat) (hJ : gx_J gx_N ad (gx_A gx_N ad)) (σ : gx_M) (op : Nat → List pu_Op) (S0 : pu_S) (sh ri t : Nat) (h0 : sh < 3) (h1 : ri < 3) (ht1 : 1 ≤ t) (ht2 : t < 21) (hs0 : σ (nSt sh ri) 0 = sh) (htx : tx_ok σ op t) (hT : pT op sh ri S0 σ) (hv2 : ∀ u, S0.1 u ≤ 2) (hf : S0.2.1 t = false) : cg_Mv l dC dI cx ad y_SS_castVote w_SS_castVote 1 [.ref (ad (nSt sh ri)), .int (nI t)] σ (fun σ' => pT op sh ri (pu_step op sh S0 (0, t)) σ' ∧ chg (sF sh ri) σ σ') := by
  refine gx_ofW (cc := c_SS_castVote) (maxL := 2) (ret := (Option.none : Option Jvm.ClassFile.FieldType)) (by decide) rfl (Nat.le_of_ble_eq_true rfl) ?_
  intro p e s m below meth c ls S hr hlk hK hN hl hP
  have X : cg_X c_SS_castVote "CommitGroups$ShardState" 2 dC dI cx p m c s _ := ⟨S.1, S.2.1, S.2.2.2.1, fun w h => S.2.2.2.2 w (List.mem_cons_of_mem _ h), hK, hN, S.2.2.1⟩
  have hS : va_S (gx_A gx_N ad) s.heap s.heap [] := va_S.rf
  have hl : lv_has ls 2 [(0, .ref (ad (nSt sh ri))), (1, .int (nI t))] := hl
  obtain ⟨x1, x2, x3, x4, x5⟩ := htx
  obtain ⟨n1, n2, n3, n4, n5, n6, n7, n8, n9, n10, n11, n12, n13, n14, n15, n16, n17, n18, n19, n20, n21⟩ := sr_ne sh ri
  obtain ⟨b1, b2⟩ := pT_bd hT
  have hT0 := hT
  obtain ⟨p1, p2, p3, p4, p5, p6, p7, p8⟩ := hT
  have hnd : ∀ k, k < 12 → σ (nTn t) k ≤ 2 := fun k hk => by rw [x5 k hk]; exact pu_need_le _ _
  have hvt : σ (nSo sh ri) t ≤ 2 := by rw [p2 t ht2]; exact hv2 t
  have hne : ∀ n, fT n → n ≠ nSo sh ri := fun n q z => sF_T q (z ▸ sF_o sh ri)
  have hstO : nSt sh ri ≠ nSo sh ri := fun z => sF_St (ri := ri) h0 (z ▸ sF_o sh ri)
  refine lv_aload_n X.1 X.2.1 d_SS_castVote_0 rfl (lv_at hl 0 rfl) ?_
  refine gg_SS_24 (by omega) (by omega) X hP d_SS_castVote_1 ?_
  refine lv_iload_n X.1 X.2.1 d_SS_castVote_4 rfl (lv_at hl 1 rfl) ?_
  refine ga_nSo (by omega) (by omega) (by omega) X hP d_SS_castVote_5 ?_
  refine gx_if_eq X.1 X.2.1 (tgt := 10) d_SS_castVote_6 (by decide) (by omega) (fun h6 => ?_) (fun h6 => ?_)
  · skip
    refine lv_aload_n X.1 X.2.1 d_SS_castVote_10 rfl (lv_at hl 0 rfl) ?_
    refine lv_iload_n X.1 X.2.1 d_SS_castVote_11 rfl (lv_at hl 1 rfl) ?_
    refine cv_SS_62 (rest := []) X hJ hP hS (nSt_lt (by omega) (by omega)) (ec_nSS (by omega) (by omega) _) (K_SS_isHindered l dC dI cx ad hJ σ sh ri t h0 h1 ht2 hs0 hnd b1 b2) rfl rfl (by decide) hl.1 (Nat.le_of_ble_eq_true rfl) ⟨Nat.le_refl _, Nat.le_refl _⟩ d_SS_castVote_12 (fun r σ' H locs hq hP hS => ?_)
    obtain ⟨hq0, bb, rfl, hb1, hbP⟩ := hq
    rw [hq0] at hP
    have hz : S0.1 t = 0 := by rw [← p2 t ht2]; exact h6
    have hfree : bb = 1 ↔ ¬ pu_free op sh S0 t := by
      rw [hbP, ← pt_hind h0 hT0 ht2]
      constructor
      · rintro ⟨k, k1, k2⟩
        refine ⟨k, k1, ?_⟩
        rw [hs0, show k * 3 + sh = 3 * k + sh by omega, x5 _ (by omega)] at k2
        exact k2
      · rintro ⟨k, k1, k2⟩
        refine ⟨k, k1, ?_⟩
        rw [hs0, show k * 3 + sh = 3 * k + sh by omega, x5 _ (by omega)]
        exact k2
    refine gx_if_eq X.1 X.2.1 (tgt := 26) d_SS_castVote_15 (by decide) (by omega) (fun h15 => ?_) (fun h15 => ?_)
    · skip
      refine lv_aload_n X.1 X.2.1 d_SS_castVote_26 rfl (lv_at hl 0 rfl) ?_
      refine gg_SS_24 (by omega) (by omega) X hP d_SS_castVote_27 ?_
      refine lv_iload_n X.1 X.2.1 d_SS_castVote_30 rfl (lv_at hl 1 rfl) ?_
      refine lv_iconst (v := nI 1) X.1 X.2.1 d_SS_castVote_31 (by decide) ?_
      refine gs_nSo (by omega) (by omega) (by omega) X hJ hP hS d_SS_castVote_32 (fun H locs hP hS => ?_)
      refine lv_aload_n X.1 X.2.1 d_SS_castVote_33 rfl (lv_at hl 0 rfl) ?_
      refine lv_iload_n X.1 X.2.1 d_SS_castVote_34 rfl (lv_at hl 1 rfl) ?_
      refine cv_SS_66 (rest := []) X hJ hP hS (nSt_lt (by omega) (by omega)) (ec_nSS (by omega) (by omega) _) (K_SS_takeKeys l dC dI cx ad hJ (gx_w σ (nSo sh ri) t 1) sh ri t h0 h1 ht2 (by rw [gx_w_row _ _ _ hstO]; exact hs0) (by intro k hk; rw [gx_w_row _ _ _ (hne _ ⟨by unfold nTn; omega, by unfold nTn; omega⟩)]; exact hnd k hk)) rfl rfl (by decide) hl.1 (Nat.le_of_ble_eq_true rfl) ⟨Nat.le_refl _, Nat.le_refl _⟩ d_SS_castVote_35 (fun σ' H locs hq hP hS => ?_)
      obtain ⟨q1, q2, q3⟩ := hq
      have r1 : σ' (nSv sh ri) = σ (nSv sh ri) := by rw [q3 _ n2 n3, gx_w_row _ _ _ n4]
      refine lv_aload_n X.1 X.2.1 d_SS_castVote_38 rfl (lv_at hl 0 rfl) ?_
      refine gg_SS_9 (by omega) (by omega) X hP d_SS_castVote_39 ?_
      refine lv_iconst (v := nI 0) X.1 X.2.1 d_SS_castVote_42 (by decide) ?_
      refine lv_aload_n X.1 X.2.1 d_SS_castVote_43 rfl (lv_at hl 0 rfl) ?_
      refine gg_SS_15 (by omega) (by omega) X hP d_SS_castVote_44 ?_
      refine lv_iconst (v := nI 0) X.1 X.2.1 d_SS_castVote_47 (by decide) ?_
      refine lv_iconst (v := nI 4) X.1 X.2.1 d_SS_castVote_48 (by decide) ?_
      refine gx_copy X hl.1 hJ hP hS (nSv_lt h0 h1) (nSd_lt h0 h1) (ec_nSv h0 h1 _) (fun f => ec_nSd h0 h1 f) (by decide) (by decide) (X.2.2.2.1 _ (gU_mem (List.mem_append_right _ (List.mem_append_right _ (List.mem_append_left _ (List.mem_of_getElem? (i := 63) rfl)))) rfl)) (X.2.2.2.1 _ (gU_mem (List.mem_append_right _ (List.mem_append_right _ (List.mem_append_left _ (List.mem_of_getElem? (i := 37) rfl)))) rfl)) (X.2.2.2.1 _ (gU_mem (List.mem_append_right _ (List.mem_append_right _ (List.mem_append_left _ (List.mem_of_getElem? (i := 36) rfl)))) rfl)) (X.2.2.2.1 _ (gU_mem (List.mem_append_right _ (List.mem_append_left _ (List.mem_of_getElem? (i := 11) rfl))) rfl)) (by decide) (by decide +kernel) d_SS_castVote_49 (fun H locs hP hS => ?_)
      have c1 : ∀ n, n ≠ (nSd sh ri) → gx_cp σ' (nSv sh ri) (nSd sh ri) 4 n = σ' n := fun n q => va_up_ne _ _ q
      have c2 : ∀ n, ¬ sF sh ri n → σ' n = σ n := fun n q => by rw [q3 n (fun z => q (z ▸ sF_a sh ri)) (fun z => q (z ▸ sF_h sh ri)), gx_w_row σ (n := nSo sh ri) (m := n) t 1 (fun z => q (z ▸ sF_o sh ri))]
      have cT : ∀ n, fT n → gx_cp σ' (nSv sh ri) (nSd sh ri) 4 n = σ n := fun n q => by rw [c1 n (fun z => sF_T q (z ▸ sF_d sh ri)), c2 n (fun z => sF_T q z)]
      refine lv_aload_n X.1 X.2.1 d_SS_castVote_52 rfl (lv_at hl 0 rfl) ?_
      refine lv_iload_n X.1 X.2.1 d_SS_castVote_53 rfl (lv_at hl 1 rfl) ?_
      refine lv_aload_n X.1 X.2.1 d_SS_castVote_54 rfl (lv_at hl 0 rfl) ?_
      refine gg_SS_15 (by omega) (by omega) X hP d_SS_castVote_55 ?_
      refine cv_SS_46 (rest := []) X hJ hP hS (nSt_lt (by omega) (by omega)) (ec_nSS (by omega) (by omega) _) (K_SS_doOperations_d l dC dI cx ad hJ (gx_cp σ' (nSv sh ri) (nSd sh ri) 4) sh ri t (op t) S0.2.2.1 h0 h1 ht2 (by rw [c1 (nSt sh ri) (fun z => sF_St (ri := ri) h0 (z ▸ sF_d sh ri)), c2 (nSt sh ri) (sF_St h0)]; exact hs0) (by rw [cT _ ⟨by unfold nTx; omega, by unfold nTx; omega⟩]; exact x1) x2 (by rw [cT _ ⟨by unfold nTk; omega, by unfold nTk; omega⟩, cT _ ⟨by unfold nTy; omega, by unfold nTy; omega⟩, cT _ ⟨by unfold nTa; omega, by unfold nTa; omega⟩]; exact x3) x4 (by intro k hk; show va_up σ' (nSd sh ri) _ (nSd sh ri) k = _; rw [va_up_self, if_pos hk, r1]; exact p1 k hk)) rfl rfl (by decide) hl.1 (Nat.le_of_ble_eq_true rfl) ⟨Nat.le_refl _, Nat.le_refl _⟩ d_SS_castVote_58 (fun υ H locs hq hP hS => ?_)
      obtain ⟨w1, w2, w3⟩ := hq
      refine gx_vret X.1 X.2.1 hr hlk hP hS d_SS_castVote_61 ?_
      have hfr : pu_free op sh S0 t := Classical.byContradiction (fun z => by have := hfree.mpr z; omega)
      have f1 : ∀ n, n ≠ (nSd sh ri) → n ≠ (nSn sh ri) → υ n = σ' n := fun n z1 z2 => by rw [w3 n z1 z2, c1 n z1]
      have eN : σ' (nSn sh ri) = σ (nSn sh ri) := by rw [q3 _ n15.symm n18.symm, gx_w_row _ _ _ n20.symm]
      refine ⟨?_, fun n q => by rw [f1 n (fun z => q (z ▸ sF_d sh ri)) (fun z => q (z ▸ sF_n sh ri)), c2 n q]⟩
      have hT1 := pt_yes h0 hT0 ht1 ht2 hf hz hfr (al' := υ (nSa sh ri)) (sh' := υ (nSh sh ri)) (vo' := υ (nSo sh ri)) (no' := υ (nSn sh ri))
        (by
          intro k hk
          rw [f1 _ n7.symm n15, q1 k hk, gx_w_row _ _ _ hstO, hs0, gx_w_row _ _ _ (hne _ ⟨by unfold nTn; omega, by unfold nTn; omega⟩), gx_w_row _ _ _ n13, show k * 3 + sh = 3 * k + sh by omega, x5 _ (by omega)])
        (by
          intro k hk
          rw [f1 _ n8.symm n18, q2 k hk, gx_w_row _ _ _ hstO, hs0, gx_w_row _ _ _ (hne _ ⟨by unfold nTn; omega, by unfold nTn; omega⟩), gx_w_row _ _ _ n16, show k * 3 + sh = 3 * k + sh by omega, x5 _ (by omega)])
        (by
          intro u hu
          rw [f1 _ n9.symm n20, q3 _ n13.symm n16.symm]
          by_cases z : u = t
          · rw [if_pos z, z, gx_w_self]
          · rw [if_neg z, gx_w_col _ _ _ z])
        (by
          intro u hu i hi
          rw [w2 u i hi, c1 _ n11.symm, eN])
      have eV : υ (nSv sh ri) = σ (nSv sh ri) := by rw [f1 _ n1 n6, r1]
      have eF : υ (nSf sh ri) = σ (nSf sh ri) := by rw [f1 _ n10.symm n21, q3 _ n14.symm n17.symm, gx_w_row _ _ _ n19.symm]
      show pt_T op sh _ (υ (nSv sh ri)) (υ (nSa sh ri)) (υ (nSh sh ri)) (υ (nSo sh ri)) (υ (nSf sh ri)) (υ (nSn sh ri))
      rw [eV, eF]
      exact hT1
    · skip
      refine lv_aload_n X.1 X.2.1 d_SS_castVote_18 rfl (lv_at hl 0 rfl) ?_
      refine gg_SS_24 (by omega) (by omega) X hP d_SS_castVote_19 ?_
      refine lv_iload_n X.1 X.2.1 d_SS_castVote_22 rfl (lv_at hl 1 rfl) ?_
      refine lv_iconst (v := nI 2) X.1 X.2.1 d_SS_castVote_23 (by decide) ?_
      refine gs_nSo (by omega) (by omega) (by omega) X hJ hP hS d_SS_castVote_24 (fun H locs hP hS => ?_)
      refine gx_vret X.1 X.2.1 hr hlk hP hS d_SS_castVote_25 ?_
      refine ⟨?_, chg_w _ _ _ (sF_o sh ri)⟩
      have hT1 := pt_no hT0 ht1 ht2 hf hz (hfree.mp (by omega)) (vo' := gx_w σ (nSo sh ri) t 2 (nSo sh ri)) (by
        intro u hu
        by_cases z : u = t
        · rw [if_pos z, z, gx_w_self]
        · rw [if_neg z, gx_w_col _ _ _ z])
      show pt_T op sh _ (gx_w σ (nSo sh ri) t 2 (nSv sh ri)) (gx_w σ (nSo sh ri) t 2 (nSa sh ri)) (gx_w σ (nSo sh ri) t 2 (nSh sh ri)) (gx_w σ (nSo sh ri) t 2 (nSo sh ri)) (gx_w σ (nSo sh ri) t 2 (nSf sh ri)) (gx_w σ (nSo sh ri) t 2 (nSn sh ri))
      rw [gx_w_row _ _ _ n4, gx_w_row _ _ _ n13, gx_w_row _ _ _ n16, gx_w_row _ _ _ n19.symm, gx_w_row _ _ _ n20.symm]
      exact hT1
  · skip
    refine gx_vret X.1 X.2.1 hr hlk hP hS d_SS_castVote_9 ?_
    rw [pu_step_voted hf (by rw [← p2 t ht2]; exact h6)]
    exact ⟨hT0, chg_rfl _ _⟩
set_option maxRecDepth 100000 in
set_option maxHeartbeats 4000000 in
theorem K_SS_execute (l : Launch) (dC : Nat → ClassId) (dI : Nat → Nat → Nat) (cx : Nat → ClassId) (ad : Nat → Nat) (hJ : gx_J gx_N ad (gx_A gx_N ad)) (σ : gx_M) (op : Nat → List pu_Op) (S0 : pu_S) (sh ri t : Nat) (kd : Nat) (h0 : sh < 3) (h1 : ri < 3) (ht1 : 1 ≤ t) (ht2 : t < 21) (hs0 : σ (nSt sh ri) 0 = sh) (htx : tx_ok σ op t) (hT : pT op sh ri S0 σ) (hv2 : ∀ u, S0.1 u ≤ 2) (hkd : kd < 3) : cg_Mv l dC dI cx ad y_SS_execute w_SS_execute 2 [.ref (ad (nSt sh ri)), .int (nI kd), .int (nI t)] σ (fun σ' => pT op sh ri (pu_step op sh S0 (kd, t)) σ' ∧ chg (sF sh ri) σ σ') := by
  refine gx_ofW (cc := c_SS_execute) (maxL := 3) (ret := (Option.none : Option Jvm.ClassFile.FieldType)) (by decide) rfl (Nat.le_of_ble_eq_true rfl) ?_
  intro p e s m below meth c ls S hr hlk hK hN hl hP
  have X : cg_X c_SS_execute "CommitGroups$ShardState" 3 dC dI cx p m c s _ := ⟨S.1, S.2.1, S.2.2.2.1, fun w h => S.2.2.2.2 w (List.mem_cons_of_mem _ h), hK, hN, S.2.2.1⟩
  have hS : va_S (gx_A gx_N ad) s.heap s.heap [] := va_S.rf
  have hl : lv_has ls 3 [(0, .ref (ad (nSt sh ri))), (1, .int (nI kd)), (2, .int (nI t))] := hl
  obtain ⟨x1, x2, x3, x4, x5⟩ := htx
  obtain ⟨n1, n2, n3, n4, n5, n6, n7, n8, n9, n10, n11, n12, n13, n14, n15, n16, n17, n18, n19, n20, n21⟩ := sr_ne sh ri
  obtain ⟨b1, b2⟩ := pT_bd hT
  have hT0 := hT
  obtain ⟨p1, p2, p3, p4, p5, p6, p7, p8⟩ := hT
  have hnd : ∀ k, k < 12 → σ (nTn t) k ≤ 2 := fun k hk => by rw [x5 k hk]; exact pu_need_le _ _
  have hvt : σ (nSo sh ri) t ≤ 2 := by rw [p2 t ht2]; exact hv2 t
  have hne : ∀ n, fT n → n ≠ nSo sh ri := fun n q z => sF_T q (z ▸ sF_o sh ri)
  have hstO : nSt sh ri ≠ nSo sh ri := fun z => sF_St (ri := ri) h0 (z ▸ sF_o sh ri)
  have hft : σ (nSf sh ri) t = if S0.2.1 t = true then 1 else 0 := p3 t ht2
  have hft2 : σ (nSf sh ri) t ≤ 1 := by rw [hft]; split <;> decide
  refine lv_aload_n X.1 X.2.1 d_SS_execute_0 rfl (lv_at hl 0 rfl) ?_
  refine gg_SS_27 (by omega) (by omega) X hP d_SS_execute_1 ?_
  refine lv_iload_n X.1 X.2.1 d_SS_execute_4 rfl (lv_at hl 2 rfl) ?_
  refine ga_nSf (by omega) (by omega) (by omega) X hP d_SS_execute_5 ?_
  refine gx_if_eq X.1 X.2.1 (tgt := 10) d_SS_execute_6 (by decide) (by omega) (fun h6 => ?_) (fun h6 => ?_)
  · skip
    have hf : S0.2.1 t = false := by
      rw [hft] at h6
      cases q : S0.2.1 t with
      | false => rfl
      | true => rw [q, if_pos rfl] at h6; omega
    refine lv_iload_n X.1 X.2.1 d_SS_execute_10 rfl (lv_at hl 1 rfl) ?_
    refine gx_if_ne X.1 X.2.1 (tgt := 22) d_SS_execute_11 (by decide) (by omega) (fun h11 => ?_) (fun h11 => ?_)
    · skip
      refine lv_iload_n X.1 X.2.1 d_SS_execute_22 rfl (lv_at hl 1 rfl) ?_
      refine lv_iconst (v := nI 1) X.1 X.2.1 d_SS_execute_23 (by decide) ?_
      refine gx_icmp_ne X.1 X.2.1 (tgt := 44) d_SS_execute_24 (by decide) (by omega) (by omega) (fun h24 => ?_) (fun h24 => ?_)
      · skip
        refine lv_aload_n X.1 X.2.1 d_SS_execute_44 rfl (lv_at hl 0 rfl) ?_
        refine lv_iload_n X.1 X.2.1 d_SS_execute_45 rfl (lv_at hl 2 rfl) ?_
        refine cv_SS_53 (rest := []) X hJ hP hS (nSt_lt (by omega) (by omega)) (ec_nSS (by omega) (by omega) _) (K_SS_refuseUnvoted l dC dI cx ad hJ σ sh ri t h0 h1 ht2 hvt) rfl rfl (by decide) hl.1 (Nat.le_of_ble_eq_true rfl) ⟨Nat.le_refl _, Nat.le_refl _⟩ d_SS_execute_46 (fun σ' H locs hq hP hS => ?_)
        have hq1 := hq
        have w3 : ∀ n, n ≠ (nSo sh ri) → σ' n = σ n := by
          intro n hn
          rw [hq1]
          split
          · exact gx_w_row _ _ _ hn
          · rfl
        refine lv_aload_n X.1 X.2.1 d_SS_execute_49 rfl (lv_at hl 0 rfl) ?_
        refine lv_iload_n X.1 X.2.1 d_SS_execute_50 rfl (lv_at hl 2 rfl) ?_
        refine cv_SS_50 (rest := []) X hJ hP hS (nSt_lt (by omega) (by omega)) (ec_nSS (by omega) (by omega) _) (K_SS_release l dC dI cx ad hJ σ' sh ri t h0 h1 ht2 (by rw [w3 _ n13]; exact b1)) rfl rfl (by decide) hl.1 (Nat.le_of_ble_eq_true rfl) ⟨Nat.le_refl _, Nat.le_refl _⟩ d_SS_execute_51 (fun υ H locs hq hP hS => ?_)
        obtain ⟨q1, q2, q3, q4⟩ := hq
        refine gx_vret X.1 X.2.1 hr hlk hP hS d_SS_execute_54 ?_
        refine ⟨?_, fun n q => by rw [q4 n (fun z => q (z ▸ sF_a sh ri)) (fun z => q (z ▸ sF_h sh ri)) (fun z => q (z ▸ sF_f sh ri)), w3 n (fun z => q (z ▸ sF_o sh ri))]⟩
        rw [pu_step_abort hf h11 h24]
        have eV : υ (nSv sh ri) = σ (nSv sh ri) := by rw [q4 _ n2 n3 n5, w3 _ n4]
        have eO : υ (nSo sh ri) = σ' (nSo sh ri) := q4 _ n13.symm n16.symm n19
        have eN : υ (nSn sh ri) = σ (nSn sh ri) := by rw [q4 _ n15.symm n18.symm n21.symm, w3 _ n20.symm]
        refine pt_end (P := (pu_up S0.1 t (if S0.1 t = 0 then 2 else S0.1 t), pu_up S0.2.1 t true, S0.2.2.1, S0.2.2.2)) (va' := υ (nSv sh ri)) (al' := υ (nSa sh ri)) (sh' := υ (nSh sh ri)) (vo' := υ (nSo sh ri)) (fi' := υ (nSf sh ri)) (no' := υ (nSn sh ri)) hT0 ht1 ht2 (fun u hu => pu_up_ne _ _ hu) rfl (by rw [eV]; exact p1) ?_ (by intro u hu; rw [q3 u, w3 _ n19.symm]) (by rw [eN]; exact p4) (by intro k hk; rw [q1 k hk, w3 _ n13]) (by intro k hk; rw [q2 k hk, w3 _ n16])
        intro u hu
        rw [eO, hq1]
        show _ = pu_up S0.1 t (if S0.1 t = 0 then 2 else S0.1 t) u
        by_cases z : u = t
        · subst z
          rw [pu_up_self, ← p2 u hu]
          by_cases y : σ (nSo sh ri) u = 0
          · rw [if_pos y, if_pos y, gx_w_self]
          · rw [if_neg y, if_neg y]
        · rw [pu_up_ne _ _ z, ← p2 u hu]
          split
          · exact gx_w_col _ _ _ z
          · rfl
      · skip
        refine lv_aload_n X.1 X.2.1 d_SS_execute_27 rfl (lv_at hl 0 rfl) ?_
        refine lv_iload_n X.1 X.2.1 d_SS_execute_28 rfl (lv_at hl 2 rfl) ?_
        refine lv_aload_n X.1 X.2.1 d_SS_execute_29 rfl (lv_at hl 0 rfl) ?_
        refine gg_SS_9 (by omega) (by omega) X hP d_SS_execute_30 ?_
        refine cv_SS_46 (rest := []) X hJ hP hS (nSt_lt (by omega) (by omega)) (ec_nSS (by omega) (by omega) _) (K_SS_doOperations_v l dC dI cx ad hJ σ sh ri t (op t) S0.2.2.1 h0 h1 ht2 hs0 x1 x2 x3 x4 p1) rfl rfl (by decide) hl.1 (Nat.le_of_ble_eq_true rfl) ⟨Nat.le_refl _, Nat.le_refl _⟩ d_SS_execute_33 (fun σ' H locs hq hP hS => ?_)
        obtain ⟨w1, w2, w3⟩ := hq
        refine lv_aload_n X.1 X.2.1 d_SS_execute_36 rfl (lv_at hl 0 rfl) ?_
        refine lv_iload_n X.1 X.2.1 d_SS_execute_37 rfl (lv_at hl 2 rfl) ?_
        refine cv_SS_50 (rest := []) X hJ hP hS (nSt_lt (by omega) (by omega)) (ec_nSS (by omega) (by omega) _) (K_SS_release l dC dI cx ad hJ σ' sh ri t h0 h1 ht2 (by rw [w3 _ n2.symm n15]; exact b1)) rfl rfl (by decide) hl.1 (Nat.le_of_ble_eq_true rfl) ⟨Nat.le_refl _, Nat.le_refl _⟩ d_SS_execute_38 (fun υ H locs hq hP hS => ?_)
        obtain ⟨q1, q2, q3, q4⟩ := hq
        refine lv_goto (tgt := 54) X.1 X.2.1 d_SS_execute_41 (by decide) ?_
        refine gx_vret X.1 X.2.1 hr hlk hP hS d_SS_execute_54 ?_
        rw [h24]
        refine ⟨?_, fun n q => by rw [q4 n (fun z => q (z ▸ sF_a sh ri)) (fun z => q (z ▸ sF_h sh ri)) (fun z => q (z ▸ sF_f sh ri)), w3 n (fun z => q (z ▸ sF_v sh ri)) (fun z => q (z ▸ sF_n sh ri))]⟩
        rw [pu_step_commit hf]
        have eV : υ (nSv sh ri) = σ' (nSv sh ri) := q4 _ n2 n3 n5
        have eO : υ (nSo sh ri) = σ (nSo sh ri) := by rw [q4 _ n13.symm n16.symm n19, w3 _ n4.symm n20]
        have eN : υ (nSn sh ri) = σ' (nSn sh ri) := q4 _ n15.symm n18.symm n21.symm
        refine pt_end (P := (S0.1, pu_up S0.2.1 t true, pu_run (pu_q sh) (op t) S0.2.2.1, pu_up S0.2.2.2 t (pu_note sh (op t) S0.2.2.1 (S0.2.2.2 t)))) (va' := υ (nSv sh ri)) (al' := υ (nSa sh ri)) (sh' := υ (nSh sh ri)) (vo' := υ (nSo sh ri)) (fi' := υ (nSf sh ri)) (no' := υ (nSn sh ri)) hT0 ht1 ht2 (fun u _ => rfl) rfl (by rw [eV]; exact w1) (by rw [eO]; exact p2) (by intro u hu; rw [q3 u, w3 _ n5.symm n21]) ?_ (by intro k hk; rw [q1 k hk, w3 _ n2.symm n15]) (by intro k hk; rw [q2 k hk, w3 _ n3.symm n18])
        intro u hu i hi
        rw [eN, w2 u i hi]
        show _ = pu_up S0.2.2.2 t _ u i
        by_cases z : u = t
        · subst z
          rw [pu_up_self]
          unfold pu_note
          by_cases his : pu_sh (op u) i = sh
          · rw [if_pos ⟨rfl, his⟩, if_pos his]
          · rw [if_neg (fun w => his w.2), if_neg his]; exact p4 u hu i hi
        · rw [if_neg (fun y => z y.1), pu_up_ne _ _ z]
          exact p4 u hu i hi
    · skip
      refine lv_aload_n X.1 X.2.1 d_SS_execute_14 rfl (lv_at hl 0 rfl) ?_
      refine lv_iload_n X.1 X.2.1 d_SS_execute_15 rfl (lv_at hl 2 rfl) ?_
      refine cv_SS_42 (rest := []) X hJ hP hS (nSt_lt (by omega) (by omega)) (ec_nSS (by omega) (by omega) _) (K_SS_castVote l dC dI cx ad hJ σ op S0 sh ri t h0 h1 ht1 ht2 hs0 ⟨x1, x2, x3, x4, x5⟩ hT0 hv2 hf) rfl rfl (by decide) hl.1 (Nat.le_of_ble_eq_true rfl) ⟨Nat.le_refl _, Nat.le_refl _⟩ d_SS_execute_16 (fun σ' H locs hq hP hS => ?_)
      have hfin := hq
      refine lv_goto (tgt := 54) X.1 X.2.1 d_SS_execute_19 (by decide) ?_
      refine gx_vret X.1 X.2.1 hr hlk hP hS d_SS_execute_54 ?_
      rw [h11]
      exact hfin
  · skip
    refine gx_vret X.1 X.2.1 hr hlk hP hS d_SS_execute_9 ?_
    have hf : S0.2.1 t = true := by
      cases q : S0.2.1 t with
      | true => rfl
      | false => rw [hft, q] at h6; simp at h6
    rw [pu_step_done hf]
    exact ⟨hT0, chg_rfl _ _⟩
