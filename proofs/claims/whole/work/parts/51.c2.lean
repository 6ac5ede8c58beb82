/-! contracts: the JDK's four, transactions, the coordinator's reads, decisions -/
set_option maxRecDepth 100000 in
set_option maxHeartbeats 4000000 in
theorem K_Ma_max (l : Launch) (dC : Nat → ClassId) (dI : Nat → Nat → Nat) (cx : Nat → ClassId) (ad : Nat → Nat) (hJ : gx_J gx_N ad (gx_A gx_N ad)) (σ : gx_M) (x y : Nat) (hx : x < 2 ^ 31) (hy : y < 2 ^ 31) : cg_Mi l dC dI cx ad y_Ma_max w_Ma_max 0 [.int (nI x), .int (nI y)] σ (fun r σ' => σ' = σ ∧ r = nI (max x y)) := by
  refine gx_ofWF (cc := c_Ma_max) (maxL := 2) (ret := (Option.some Jvm.ClassFile.FieldType.int)) (by decide +kernel) rfl (Nat.le_of_ble_eq_true rfl) ?_
  intro p e s m below meth c ls S hr hlk hK hN hl hP
  have X : cg_X c_Ma_max "java/lang/Math" 2 dC dI cx p m c s _ := ⟨S.1, S.2.1, S.2.2.2.1, fun w h => S.2.2.2.2 w (List.mem_cons_of_mem _ h), hK, hN, S.2.2.1⟩
  have hS : va_S (gx_A gx_N ad) s.heap s.heap [] := va_S.rf
  have hl : lv_has ls 2 [(0, .int (nI x)), (1, .int (nI y))] := hl
  refine lv_iload_n X.1 X.2.1 d_Ma_max_0 rfl (lv_at hl 0 rfl) ?_
  refine lv_iload_n X.1 X.2.1 d_Ma_max_1 rfl (lv_at hl 1 rfl) ?_
  refine gx_icmp_lt X.1 X.2.1 (tgt := 9) d_Ma_max_2 (by decide) (by omega) (by omega) (fun h2 => ?_) (fun h2 => ?_)
  · skip
    refine lv_iload_n X.1 X.2.1 d_Ma_max_9 rfl (lv_at hl 1 rfl) ?_
    refine gx_iret X.1 X.2.1 hr hlk hP hS d_Ma_max_10 ?_
    exact ⟨rfl, by rw [Nat.max_eq_right (by omega)]⟩
  · skip
    refine lv_iload_n X.1 X.2.1 d_Ma_max_5 rfl (lv_at hl 0 rfl) ?_
    refine lv_goto (tgt := 10) X.1 X.2.1 d_Ma_max_6 (by decide) ?_
    refine gx_iret X.1 X.2.1 hr hlk hP hS d_Ma_max_10 ?_
    exact ⟨rfl, by rw [Nat.max_eq_left (by omega)]⟩
set_option maxRecDepth 100000 in
set_option maxHeartbeats 4000000 in
theorem K_Ma_floorMod (l : Launch) (dC : Nat → ClassId) (dI : Nat → Nat → Nat) (cx : Nat → ClassId) (ad : Nat → Nat) (hJ : gx_J gx_N ad (gx_A gx_N ad)) (σ : gx_M) (x : Nat) (hx : x < 2 ^ 31) : cg_Mi l dC dI cx ad y_Ma_floorMod w_Ma_floorMod 0 [.int (nI x), .int (nI 3)] σ (fun r σ' => σ' = σ ∧ r = nI (x % 3)) := by
  refine gx_ofWF (cc := c_Ma_floorMod) (maxL := 3) (ret := (Option.some Jvm.ClassFile.FieldType.int)) (by decide +kernel) rfl (Nat.le_of_ble_eq_true rfl) ?_
  intro p e s m below meth c ls S hr hlk hK hN hl hP
  have X : cg_X c_Ma_floorMod "java/lang/Math" 3 dC dI cx p m c s _ := ⟨S.1, S.2.1, S.2.2.2.1, fun w h => S.2.2.2.2 w (List.mem_cons_of_mem _ h), hK, hN, S.2.2.1⟩
  have hS : va_S (gx_A gx_N ad) s.heap s.heap [] := va_S.rf
  have hl : lv_has ls 3 [(0, .int (nI x)), (1, .int (nI 3))] := hl
  refine lv_iload_n X.1 X.2.1 d_Ma_floorMod_0 rfl (lv_at hl 0 rfl) ?_
  refine lv_iload_n X.1 X.2.1 d_Ma_floorMod_1 rfl (lv_at hl 1 rfl) ?_
  refine gx_irem X.1 X.2.1 d_Ma_floorMod_2 (by omega) (by decide) (by decide) ?_
  refine lv_istore_n X.1 X.2.1 d_Ma_floorMod_3 rfl hl (by decide) rfl (fun ls hl => ?_)
  have hl : lv_has ls 3 [(2, .int (nI (x % 3))), (0, .int (nI x)), (1, .int (nI 3))] := hl
  refine lv_iload_n X.1 X.2.1 d_Ma_floorMod_4 rfl (lv_at hl 1 rfl) ?_
  refine lv_iload_n X.1 X.2.1 d_Ma_floorMod_5 rfl (lv_at hl 2 rfl) ?_
  refine gx_ixor X.1 X.2.1 d_Ma_floorMod_6 ?_
  refine gx_if_ge X.1 X.2.1 (tgt := 18) d_Ma_floorMod_7 (by decide) (Nat.xor_lt_two_pow hx (by decide)) ?_
  refine lv_iload_n X.1 X.2.1 d_Ma_floorMod_18 rfl (lv_at hl 0 rfl) ?_
  refine gx_iret X.1 X.2.1 hr hlk hP hS d_Ma_floorMod_19 ?_
  exact ⟨rfl, rfl⟩
set_option maxRecDepth 100000 in
set_option maxHeartbeats 4000000 in
theorem K_In_bitCount (l : Launch) (dC : Nat → ClassId) (dI : Nat → Nat → Nat) (cx : Nat → ClassId) (ad : Nat → Nat) (hJ : gx_J gx_N ad (gx_A gx_N ad)) (σ : gx_M) (x : Nat) (hx : x < 2 ^ 21) : cg_Mi l dC dI cx ad y_In_bitCount w_In_bitCount 0 [.int (nI x)] σ (fun r σ' => σ' = σ ∧ r = nI (bc_pop 24 x)) := by
  refine gx_ofW (cc := c_In_bitCount) (maxL := 1) (ret := (Option.some Jvm.ClassFile.FieldType.int)) (by decide) rfl (Nat.le_of_ble_eq_true rfl) ?_
  intro p e s m below meth c ls S hr hlk hK hN hl hP
  have X : cg_X c_In_bitCount "java/lang/Integer" 1 dC dI cx p m c s _ := ⟨S.1, S.2.1, S.2.2.2.1, fun w h => S.2.2.2.2 w (List.mem_cons_of_mem _ h), hK, hN, S.2.2.1⟩
  have hS : va_S (gx_A gx_N ad) s.heap s.heap [] := va_S.rf
  have hl : lv_has ls 1 [(0, .int (nI x))] := hl
  have q1 : ∀ a b : Nat, (a &&& b) ≤ a := fun a b => Nat.and_le_left
  have q2 : ∀ a b : Nat, a / b ≤ a := fun a b => Nat.div_le_self a b
  have hA : x - (x / 2 ^ 1 &&& 1431655765) ≤ x := Nat.sub_le _ _
  generalize hAe : x - (x / 2 ^ 1 &&& 1431655765) = A at hA
  have hB : (A &&& 858993459) + (A / 2 ^ 2 &&& 858993459) ≤ A + A := by
    have := q1 A 858993459
    have := q1 (A / 2 ^ 2) 858993459
    have := q2 A (2 ^ 2)
    omega
  generalize hBe : (A &&& 858993459) + (A / 2 ^ 2 &&& 858993459) = B at hB
  have hC : (B + B / 2 ^ 4 &&& 252645135) ≤ B + B := by
    have := q1 (B + B / 2 ^ 4) 252645135
    have := q2 B (2 ^ 4)
    omega
  generalize hCe : (B + B / 2 ^ 4 &&& 252645135) = C at hC
  have hD : C + C / 2 ^ 8 ≤ C + C := by
    have := q2 C (2 ^ 8)
    omega
  have hfin : ((C + C / 2 ^ 8 + (C + C / 2 ^ 8) / 2 ^ 16) &&& 63) = bc_pop 24 x := by
    have := bc_main x (by omega)
    rw [← hCe, ← hBe, ← hAe]
    exact this
  refine lv_iload_n X.1 X.2.1 d_In_bitCount_0 rfl (lv_at hl 0 rfl) ?_
  refine lv_iload_n X.1 X.2.1 d_In_bitCount_1 rfl (lv_at hl 0 rfl) ?_
  refine lv_iconst (v := nI 1) X.1 X.2.1 d_In_bitCount_2 (by decide) ?_
  refine gx_iushr X.1 X.2.1 d_In_bitCount_3 (by omega) (by decide) ?_
  refine lv_ldcw (v := nI 1431655765) X.1 X.2.1 X.2.2.1 (X.2.2.2.1 _ (gU_mem (List.mem_append_right _ (List.mem_append_right _ (List.mem_append_left _ (List.mem_of_getElem? (i := 202) rfl)))) rfl)) d_In_bitCount_4 ?_
  refine gx_iand X.1 X.2.1 d_In_bitCount_7 ?_
  refine gx_isub X.1 X.2.1 d_In_bitCount_8 (Nat.le_trans Nat.and_le_left (Nat.div_le_self _ _)) ?_
  rw [hAe]
  refine lv_istore_n X.1 X.2.1 d_In_bitCount_9 rfl hl (by decide) rfl (fun ls hl => ?_)
  have hl : lv_has ls 1 [(0, .int (nI A))] := hl
  refine lv_iload_n X.1 X.2.1 d_In_bitCount_10 rfl (lv_at hl 0 rfl) ?_
  refine lv_ldcw (v := nI 858993459) X.1 X.2.1 X.2.2.1 (X.2.2.2.1 _ (gU_mem (List.mem_append_right _ (List.mem_append_right _ (List.mem_append_left _ (List.mem_of_getElem? (i := 203) rfl)))) rfl)) d_In_bitCount_11 ?_
  refine gx_iand X.1 X.2.1 d_In_bitCount_14 ?_
  refine lv_iload_n X.1 X.2.1 d_In_bitCount_15 rfl (lv_at hl 0 rfl) ?_
  refine lv_iconst (v := nI 2) X.1 X.2.1 d_In_bitCount_16 (by decide) ?_
  refine gx_iushr X.1 X.2.1 d_In_bitCount_17 (by omega) (by decide) ?_
  refine lv_ldcw (v := nI 858993459) X.1 X.2.1 X.2.2.1 (X.2.2.2.1 _ (gU_mem (List.mem_append_right _ (List.mem_append_right _ (List.mem_append_left _ (List.mem_of_getElem? (i := 203) rfl)))) rfl)) d_In_bitCount_18 ?_
  refine gx_iand X.1 X.2.1 d_In_bitCount_21 ?_
  refine gx_iadd X.1 X.2.1 d_In_bitCount_22 ?_
  rw [hBe]
  refine lv_istore_n X.1 X.2.1 d_In_bitCount_23 rfl hl (by decide) rfl (fun ls hl => ?_)
  have hl : lv_has ls 1 [(0, .int (nI B))] := hl
  refine lv_iload_n X.1 X.2.1 d_In_bitCount_24 rfl (lv_at hl 0 rfl) ?_
  refine lv_iload_n X.1 X.2.1 d_In_bitCount_25 rfl (lv_at hl 0 rfl) ?_
  refine lv_iconst (v := nI 4) X.1 X.2.1 d_In_bitCount_26 (by decide) ?_
  refine gx_iushr X.1 X.2.1 d_In_bitCount_27 (by omega) (by decide) ?_
  refine gx_iadd X.1 X.2.1 d_In_bitCount_28 ?_
  refine lv_ldcw (v := nI 252645135) X.1 X.2.1 X.2.2.1 (X.2.2.2.1 _ (gU_mem (List.mem_append_right _ (List.mem_append_right _ (List.mem_append_left _ (List.mem_of_getElem? (i := 204) rfl)))) rfl)) d_In_bitCount_29 ?_
  refine gx_iand X.1 X.2.1 d_In_bitCount_32 ?_
  rw [hCe]
  refine lv_istore_n X.1 X.2.1 d_In_bitCount_33 rfl hl (by decide) rfl (fun ls hl => ?_)
  have hl : lv_has ls 1 [(0, .int (nI C))] := hl
  refine lv_iload_n X.1 X.2.1 d_In_bitCount_34 rfl (lv_at hl 0 rfl) ?_
  refine lv_iload_n X.1 X.2.1 d_In_bitCount_35 rfl (lv_at hl 0 rfl) ?_
  refine lv_bipush (v := nI 8) X.1 X.2.1 d_In_bitCount_36 (by decide) ?_
  refine gx_iushr X.1 X.2.1 d_In_bitCount_38 (by omega) (by decide) ?_
  refine gx_iadd X.1 X.2.1 d_In_bitCount_39 ?_
  refine lv_istore_n X.1 X.2.1 d_In_bitCount_40 rfl hl (by decide) rfl (fun ls hl => ?_)
  have hl : lv_has ls 1 [(0, .int (nI (C + (C / 2 ^ 8))))] := hl
  refine lv_iload_n X.1 X.2.1 d_In_bitCount_41 rfl (lv_at hl 0 rfl) ?_
  refine lv_iload_n X.1 X.2.1 d_In_bitCount_42 rfl (lv_at hl 0 rfl) ?_
  refine lv_bipush (v := nI 16) X.1 X.2.1 d_In_bitCount_43 (by decide) ?_
  refine gx_iushr X.1 X.2.1 d_In_bitCount_45 (by omega) (by decide) ?_
  refine gx_iadd X.1 X.2.1 d_In_bitCount_46 ?_
  refine lv_istore_n X.1 X.2.1 d_In_bitCount_47 rfl hl (by decide) rfl (fun ls hl => ?_)
  have hl : lv_has ls 1 [(0, .int (nI ((C + (C / 2 ^ 8)) + ((C + (C / 2 ^ 8)) / 2 ^ 16))))] := hl
  refine lv_iload_n X.1 X.2.1 d_In_bitCount_48 rfl (lv_at hl 0 rfl) ?_
  refine lv_bipush (v := nI 63) X.1 X.2.1 d_In_bitCount_49 (by decide) ?_
  refine gx_iand X.1 X.2.1 d_In_bitCount_51 ?_
  refine gx_iret X.1 X.2.1 hr hlk hP hS d_In_bitCount_52 ?_
  exact ⟨rfl, by rw [hfin]⟩
set_option maxRecDepth 100000 in
set_option maxHeartbeats 4000000 in
theorem K_Ar_fill_111 (l : Launch) (dC : Nat → ClassId) (dI : Nat → Nat → Nat) (cx : Nat → ClassId) (ad : Nat → Nat) (hJ : gx_J gx_N ad (gx_A gx_N ad)) (σ : gx_M)   : cg_Mv l dC dI cx ad y_Ar_fill w_Ar_fill 0 [.ref (ad 111), .int (nI 0)] σ (fun σ' => chg (fun q => q = 111) σ σ' ∧ ∀ j, j < 63 → σ' 111 j = 0) := by
  refine gx_ofW (cc := c_Ar_fill) (maxL := 4) (ret := (Option.none : Option Jvm.ClassFile.FieldType)) (by decide) rfl (Nat.le_of_ble_eq_true rfl) ?_
  intro p e s m below meth c ls S hr hlk hK hN hl hP
  have X : cg_X c_Ar_fill "java/util/Arrays" 4 dC dI cx p m c s _ := ⟨S.1, S.2.1, S.2.2.2.1, fun w h => S.2.2.2.2 w (List.mem_cons_of_mem _ h), hK, hN, S.2.2.1⟩
  have hS : va_S (gx_A gx_N ad) s.heap s.heap [] := va_S.rf
  have hl : lv_has ls 4 [(0, .ref (ad 111)), (1, .int (nI 0))] := hl
  have lp : ∀ (k : Nat) (i : Nat) (τ : gx_M), i + k = 63 → (∀ j, j < i → τ 111 j = 0) → chg (fun q => q = 111) σ τ → ∀ (H : Heap) (locs : List Loc) (ls : Array Slot), cg_P dC dI cx ad τ H → va_S (gx_A gx_N ad) s.heap H locs → lv_has ls 4 [(3, .int (nI 63)), (2, .int (nI i)), (0, .ref (ad 111)), (1, .int (nI 0))] → W p l e (rmL 0) s m ([.ref (ad 111), .int (nI 0)] : List Value).toArray below meth c H locs 0 0 (cg_Qv dC dI cx ad (fun σ' => chg (fun q => q = 111) σ σ' ∧ ∀ j, j < 63 → σ' 111 j = 0) below [.ref (ad 111), .int (nI 0)] s) (F0 m 5 ls []) := by
    intro k
    induction k with
    | zero =>
      intro i τ hik hz hc H locs ls hP hS hl
      refine lv_iload_n X.1 X.2.1 d_Ar_fill_5 rfl (lv_at hl 1 rfl) ?_
      refine lv_iload_n X.1 X.2.1 d_Ar_fill_6 rfl (lv_at hl 0 rfl) ?_
      refine gx_icmp_ge X.1 X.2.1 (tgt := 20) d_Ar_fill_7 (by decide) (by omega) (by decide) (fun h7 => ?_) (fun h7 => absurd h7 (by omega))
      refine gx_vret X.1 X.2.1 hr hlk hP hS d_Ar_fill_20 ?_
      exact ⟨hc, fun j hj => hz j (by omega)⟩
    | succ k ih =>
      intro i τ hik hz hc H locs ls hP hS hl
      refine lv_iload_n X.1 X.2.1 d_Ar_fill_5 rfl (lv_at hl 1 rfl) ?_
      refine lv_iload_n X.1 X.2.1 d_Ar_fill_6 rfl (lv_at hl 0 rfl) ?_
      refine gx_icmp_ge X.1 X.2.1 (tgt := 20) d_Ar_fill_7 (by decide) (by omega) (by decide) (fun h7 => absurd h7 (by omega)) (fun h7 => ?_)
      refine lv_aload_n X.1 X.2.1 d_Ar_fill_10 rfl (lv_at hl 2 rfl) ?_
      refine lv_iload_n X.1 X.2.1 d_Ar_fill_11 rfl (lv_at hl 1 rfl) ?_
      refine lv_iload_n X.1 X.2.1 d_Ar_fill_12 rfl (lv_at hl 3 rfl) ?_
      refine gs_111 (by omega) X hJ hP hS d_Ar_fill_13 (fun H locs hP hS => ?_)
      refine lv_iinc (k := 1) (v := nI (i + 1)) X.1 X.2.1 d_Ar_fill_14 hl rfl (nI_add _ _) (by decide) rfl (fun ls hl => ?_)
      have hl : lv_has ls 4 [(2, .int (nI (i + 1))), (3, .int (nI 63)), (0, .ref (ad 111)), (1, .int (nI 0))] := hl
      refine lv_goto (tgt := 5) X.1 X.2.1 d_Ar_fill_17 (by decide) ?_
      refine ih (i + 1) _ (by omega) ?_ ?_ H locs ls hP hS (lv_sub hl [1, 0, 2, 3] rfl)
      · intro j hj
        by_cases q : j = i
        · subst q; exact gx_w_self _ _ _ _
        · rw [gx_w_col _ _ _ q]; exact hz j (by omega)
      · exact chg_trans hc (chg_w _ _ _ rfl)
  refine lv_iconst (v := nI 0) X.1 X.2.1 d_Ar_fill_0 (by decide) ?_
  refine lv_istore_n X.1 X.2.1 d_Ar_fill_1 rfl hl (by decide) rfl (fun ls hl => ?_)
  have hl : lv_has ls 4 [(2, .int (nI 0)), (0, .ref (ad 111)), (1, .int (nI 0))] := hl
  refine lv_aload_n X.1 X.2.1 d_Ar_fill_2 rfl (lv_at hl 1 rfl) ?_
  refine gx_alen X hP (by decide) (ec_Cv _) d_Ar_fill_3 ?_
  refine lv_istore_n X.1 X.2.1 d_Ar_fill_4 rfl hl (by decide) rfl (fun ls hl => ?_)
  have hl : lv_has ls 4 [(3, .int (nI 63)), (2, .int (nI 0)), (0, .ref (ad 111)), (1, .int (nI 0))] := hl
  exact lp 63 0 σ rfl (fun j hj => absurd hj (Nat.not_lt_zero j)) (chg_rfl _ _) _ _ ls hP hS (lv_sub hl [0, 1, 2, 3] rfl)
set_option maxRecDepth 100000 in
set_option maxHeartbeats 4000000 in
theorem K_Ar_fill_112 (l : Launch) (dC : Nat → ClassId) (dI : Nat → Nat → Nat) (cx : Nat → ClassId) (ad : Nat → Nat) (hJ : gx_J gx_N ad (gx_A gx_N ad)) (σ : gx_M)   : cg_Mv l dC dI cx ad y_Ar_fill w_Ar_fill 0 [.ref (ad 112), .int (nI 0)] σ (fun σ' => chg (fun q => q = 112) σ σ' ∧ ∀ j, j < 21 → σ' 112 j = 0) := by
  refine gx_ofW (cc := c_Ar_fill) (maxL := 4) (ret := (Option.none : Option Jvm.ClassFile.FieldType)) (by decide) rfl (Nat.le_of_ble_eq_true rfl) ?_
  intro p e s m below meth c ls S hr hlk hK hN hl hP
  have X : cg_X c_Ar_fill "java/util/Arrays" 4 dC dI cx p m c s _ := ⟨S.1, S.2.1, S.2.2.2.1, fun w h => S.2.2.2.2 w (List.mem_cons_of_mem _ h), hK, hN, S.2.2.1⟩
  have hS : va_S (gx_A gx_N ad) s.heap s.heap [] := va_S.rf
  have hl : lv_has ls 4 [(0, .ref (ad 112)), (1, .int (nI 0))] := hl
  have lp : ∀ (k : Nat) (i : Nat) (τ : gx_M), i + k = 21 → (∀ j, j < i → τ 112 j = 0) → chg (fun q => q = 112) σ τ → ∀ (H : Heap) (locs : List Loc) (ls : Array Slot), cg_P dC dI cx ad τ H → va_S (gx_A gx_N ad) s.heap H locs → lv_has ls 4 [(3, .int (nI 21)), (2, .int (nI i)), (0, .ref (ad 112)), (1, .int (nI 0))] → W p l e (rmL 0) s m ([.ref (ad 112), .int (nI 0)] : List Value).toArray below meth c H locs 0 0 (cg_Qv dC dI cx ad (fun σ' => chg (fun q => q = 112) σ σ' ∧ ∀ j, j < 21 → σ' 112 j = 0) below [.ref (ad 112), .int (nI 0)] s) (F0 m 5 ls []) := by
    intro k
    induction k with
    | zero =>
      intro i τ hik hz hc H locs ls hP hS hl
      refine lv_iload_n X.1 X.2.1 d_Ar_fill_5 rfl (lv_at hl 1 rfl) ?_
      refine lv_iload_n X.1 X.2.1 d_Ar_fill_6 rfl (lv_at hl 0 rfl) ?_
      refine gx_icmp_ge X.1 X.2.1 (tgt := 20) d_Ar_fill_7 (by decide) (by omega) (by decide) (fun h7 => ?_) (fun h7 => absurd h7 (by omega))
      refine gx_vret X.1 X.2.1 hr hlk hP hS d_Ar_fill_20 ?_
      exact ⟨hc, fun j hj => hz j (by omega)⟩
    | succ k ih =>
      intro i τ hik hz hc H locs ls hP hS hl
      refine lv_iload_n X.1 X.2.1 d_Ar_fill_5 rfl (lv_at hl 1 rfl) ?_
      refine lv_iload_n X.1 X.2.1 d_Ar_fill_6 rfl (lv_at hl 0 rfl) ?_
      refine gx_icmp_ge X.1 X.2.1 (tgt := 20) d_Ar_fill_7 (by decide) (by omega) (by decide) (fun h7 => absurd h7 (by omega)) (fun h7 => ?_)
      refine lv_aload_n X.1 X.2.1 d_Ar_fill_10 rfl (lv_at hl 2 rfl) ?_
      refine lv_iload_n X.1 X.2.1 d_Ar_fill_11 rfl (lv_at hl 1 rfl) ?_
      refine lv_iload_n X.1 X.2.1 d_Ar_fill_12 rfl (lv_at hl 3 rfl) ?_
      refine gs_112 (by omega) X hJ hP hS d_Ar_fill_13 (fun H locs hP hS => ?_)
      refine lv_iinc (k := 1) (v := nI (i + 1)) X.1 X.2.1 d_Ar_fill_14 hl rfl (nI_add _ _) (by decide) rfl (fun ls hl => ?_)
      have hl : lv_has ls 4 [(2, .int (nI (i + 1))), (3, .int (nI 21)), (0, .ref (ad 112)), (1, .int (nI 0))] := hl
      refine lv_goto (tgt := 5) X.1 X.2.1 d_Ar_fill_17 (by decide) ?_
      refine ih (i + 1) _ (by omega) ?_ ?_ H locs ls hP hS (lv_sub hl [1, 0, 2, 3] rfl)
      · intro j hj
        by_cases q : j = i
        · subst q; exact gx_w_self _ _ _ _
        · rw [gx_w_col _ _ _ q]; exact hz j (by omega)
      · exact chg_trans hc (chg_w _ _ _ rfl)
  refine lv_iconst (v := nI 0) X.1 X.2.1 d_Ar_fill_0 (by decide) ?_
  refine lv_istore_n X.1 X.2.1 d_Ar_fill_1 rfl hl (by decide) rfl (fun ls hl => ?_)
  have hl : lv_has ls 4 [(2, .int (nI 0)), (0, .ref (ad 112)), (1, .int (nI 0))] := hl
  refine lv_aload_n X.1 X.2.1 d_Ar_fill_2 rfl (lv_at hl 1 rfl) ?_
  refine gx_alen X hP (by decide) (ec_Cd _) d_Ar_fill_3 ?_
  refine lv_istore_n X.1 X.2.1 d_Ar_fill_4 rfl hl (by decide) rfl (fun ls hl => ?_)
  have hl : lv_has ls 4 [(3, .int (nI 21)), (2, .int (nI 0)), (0, .ref (ad 112)), (1, .int (nI 0))] := hl
  exact lp 21 0 σ rfl (fun j hj => absurd hj (Nat.not_lt_zero j)) (chg_rfl _ _) _ _ ls hP hS (lv_sub hl [0, 1, 2, 3] rfl)
set_option maxRecDepth 100000 in
set_option maxHeartbeats 4000000 in
theorem K_Tx_reaches (l : Launch) (dC : Nat → ClassId) (dI : Nat → Nat → Nat) (cx : Nat → ClassId) (ad : Nat → Nat) (hJ : gx_J gx_N ad (gx_A gx_N ad)) (σ : gx_M) (t sh : Nat) (ht : t < 21) (hs : sh < 3) (hl4 : σ (nTx t) 4 ≤ 4) (hk : ∀ i, i < σ (nTx t) 4 → σ (nTy t) i < 12) : cg_Mi l dC dI cx ad y_Tx_reaches w_Tx_reaches 0 [.ref (ad (nTx t)), .int (nI sh)] σ (fun r σ' => σ' = σ ∧ gx_bo (∃ i, i < σ (nTx t) 4 ∧ σ (nTy t) i % 3 = sh) r) := by
  refine gx_ofW (cc := c_Tx_reaches) (maxL := 3) (ret := (Option.some Jvm.ClassFile.FieldType.boolean)) (by decide) rfl (Nat.le_of_ble_eq_true rfl) ?_
  intro p e s m below meth c ls S hr hlk hK hN hl hP
  have X : cg_X c_Tx_reaches "CommitGroups$Transaction" 3 dC dI cx p m c s _ := ⟨S.1, S.2.1, S.2.2.2.1, fun w h => S.2.2.2.2 w (List.mem_cons_of_mem _ h), hK, hN, S.2.2.1⟩
  have hS : va_S (gx_A gx_N ad) s.heap s.heap [] := va_S.rf
  have hl : lv_has ls 3 [(0, .ref (ad (nTx t))), (1, .int (nI sh))] := hl
  have lp : ∀ (k : Nat) (i : Nat), i + k = σ (nTx t) 4 → (∀ j, j < i → σ (nTy t) j % 3 ≠ sh) → ∀ (H : Heap) (locs : List Loc) (ls : Array Slot), cg_P dC dI cx ad σ H → va_S (gx_A gx_N ad) s.heap H locs → lv_has ls 3 [(2, .int (nI i)), (0, .ref (ad (nTx t))), (1, .int (nI sh))] → W p l e (rmL 0) s m ([.ref (ad (nTx t)), .int (nI sh)] : List Value).toArray below meth c H locs 0 0 (cg_Qi dC dI cx ad (fun r σ' => σ' = σ ∧ gx_bo (∃ i, i < σ (nTx t) 4 ∧ σ (nTy t) i % 3 = sh) r) below [.ref (ad (nTx t)), .int (nI sh)] s) (F0 m 2 ls []) := by
    intro k
    induction k with
    | zero =>
      intro i hik hz H locs ls hP hS hl
      refine lv_iload_n X.1 X.2.1 d_Tx_reaches_2 rfl (lv_at hl 0 rfl) ?_
      refine lv_aload_n X.1 X.2.1 d_Tx_reaches_3 rfl (lv_at hl 1 rfl) ?_
      refine gg_Tx_28 (by omega) X hP d_Tx_reaches_4 ?_
      refine gx_icmp_ge X.1 X.2.1 (tgt := 30) d_Tx_reaches_7 (by decide) (by omega) (by omega) (fun h7 => ?_) (fun h7 => absurd h7 (by omega))
      refine lv_iconst (v := nI 0) X.1 X.2.1 d_Tx_reaches_30 (by decide) ?_
      refine gx_zret X.1 X.2.1 hr hlk hP hS d_Tx_reaches_31 (by decide) ?_
      exact ⟨rfl, gx_bo0 (by rintro ⟨j, h1, h2⟩; exact hz j (by omega) h2)⟩
    | succ k ih =>
      intro i hik hz H locs ls hP hS hl
      refine lv_iload_n X.1 X.2.1 d_Tx_reaches_2 rfl (lv_at hl 0 rfl) ?_
      refine lv_aload_n X.1 X.2.1 d_Tx_reaches_3 rfl (lv_at hl 1 rfl) ?_
      refine gg_Tx_28 (by omega) X hP d_Tx_reaches_4 ?_
      refine gx_icmp_ge X.1 X.2.1 (tgt := 30) d_Tx_reaches_7 (by decide) (by omega) (by omega) (fun h7 => absurd h7 (by omega)) (fun h7 => ?_)
      refine lv_aload_n X.1 X.2.1 d_Tx_reaches_10 rfl (lv_at hl 1 rfl) ?_
      refine gg_Tx_15 (by omega) X hP d_Tx_reaches_11 ?_
      refine lv_iload_n X.1 X.2.1 d_Tx_reaches_14 rfl (lv_at hl 0 rfl) ?_
      refine ga_nTy (by omega) (by omega) X hP d_Tx_reaches_15 ?_
      refine lv_iconst (v := nI 3) X.1 X.2.1 d_Tx_reaches_16 (by decide) ?_
      refine gx_irem X.1 X.2.1 d_Tx_reaches_17 (by have := hk i (by omega); omega) (by decide) (by decide) ?_
      refine lv_iload_n X.1 X.2.1 d_Tx_reaches_18 rfl (lv_at hl 2 rfl) ?_
      refine gx_icmp_ne X.1 X.2.1 (tgt := 24) d_Tx_reaches_19 (by decide) (by omega) (by omega) (fun h19 => ?_) (fun h19 => ?_)
      · skip
        refine lv_iinc (k := 0) (v := nI (i + 1)) X.1 X.2.1 d_Tx_reaches_24 hl rfl (nI_add _ _) (by decide) rfl (fun ls hl => ?_)
        have hl : lv_has ls 3 [(2, .int (nI (i + 1))), (0, .ref (ad (nTx t))), (1, .int (nI sh))] := hl
        refine lv_goto (tgt := 2) X.1 X.2.1 d_Tx_reaches_27 (by decide) ?_
        refine ih (i + 1) (by omega) ?_ H locs ls hP hS (lv_sub hl [0, 1, 2] rfl)
        intro j hj
        by_cases q : j = i
        · subst q; exact h19
        · exact hz j (by omega)
      · skip
        refine lv_iconst (v := nI 1) X.1 X.2.1 d_Tx_reaches_22 (by decide) ?_
        refine gx_zret X.1 X.2.1 hr hlk hP hS d_Tx_reaches_23 (by decide) ?_
        exact ⟨rfl, gx_bo1 ⟨i, by omega, h19⟩⟩
  refine lv_iconst (v := nI 0) X.1 X.2.1 d_Tx_reaches_0 (by decide) ?_
  refine lv_istore_n X.1 X.2.1 d_Tx_reaches_1 rfl hl (by decide) rfl (fun ls hl => ?_)
  have hl : lv_has ls 3 [(2, .int (nI 0)), (0, .ref (ad (nTx t))), (1, .int (nI sh))] := hl
  exact lp _ 0 (Nat.zero_add _) (fun j hj => absurd hj (Nat.not_lt_zero j)) _ _ ls hP hS (lv_sub hl [0, 1, 2] rfl)
set_option maxRecDepth 100000 in
set_option maxHeartbeats 4000000 in
theorem K_Tx_addOperation (l : Launch) (dC : Nat → ClassId) (dI : Nat → Nat → Nat) (cx : Nat → ClassId) (ad : Nat → Nat) (hJ : gx_J gx_N ad (gx_A gx_N ad)) (σ : gx_M) (t k y v : Nat) (ht : t < 21) (hk : k < 3) (hy : y < 12) (hl4 : σ (nTx t) 4 ≤ 4) (hc : σ (nTx t) 5 ≤ 1) (hn : σ (nTn t) y ≤ 2) : cg_Mi l dC dI cx ad y_Tx_addOperation w_Tx_addOperation 1 [.ref (ad (nTx t)), .int (nI k), .int (nI y), .int (nI v)] σ (fun r σ' => ((σ (nTx t) 5 = 1 ∨ σ (nTx t) 4 = 4) ∧ r = nI 0 ∧ σ' = σ) ∨ (σ (nTx t) 5 = 0 ∧ σ (nTx t) 4 < 4 ∧ r = nI 1 ∧ σ' = gx_w (gx_w (gx_w (gx_w (gx_w σ (nTk t) (σ (nTx t) 4) k) (nTy t) (σ (nTx t) 4) y) (nTa t) (σ (nTx t) 4) v) (nTx t) 4 (σ (nTx t) 4 + 1)) (nTn t) y (max (σ (nTn t) y) (if k = 0 then 1 else 2)))) := by
  refine gx_ofW (cc := c_Tx_addOperation) (maxL := 4) (ret := (Option.some Jvm.ClassFile.FieldType.boolean)) (by decide) rfl (Nat.le_of_ble_eq_true rfl) ?_
  intro p e s m below meth c ls S hr hlk hK hN hl hP
  have X : cg_X c_Tx_addOperation "CommitGroups$Transaction" 4 dC dI cx p m c s _ := ⟨S.1, S.2.1, S.2.2.2.1, fun w h => S.2.2.2.2 w (List.mem_cons_of_mem _ h), hK, hN, S.2.2.1⟩
  have hS : va_S (gx_A gx_N ad) s.heap s.heap [] := va_S.rf
  have hl : lv_has ls 4 [(0, .ref (ad (nTx t))), (1, .int (nI k)), (2, .int (nI y)), (3, .int (nI v))] := hl
  have a1 : nTx t ≠ nTk t := by unfold nTx nTk; omega
  have a2 : nTx t ≠ nTy t := by unfold nTx nTy; omega
  have a3 : nTx t ≠ nTa t := by unfold nTx nTa; omega
  have a4 : nTn t ≠ nTk t := by unfold nTn nTk; omega
  have a5 : nTn t ≠ nTy t := by unfold nTn nTy; omega
  have a6 : nTn t ≠ nTa t := by unfold nTn nTa; omega
  have a7 : nTn t ≠ nTx t := by unfold nTn nTx; omega
  refine lv_aload_n X.1 X.2.1 d_Tx_addOperation_0 rfl (lv_at hl 0 rfl) ?_
  refine gg_Tx_24 (by omega) X hP d_Tx_addOperation_1 ?_
  refine gx_if_ne X.1 X.2.1 (tgt := 15) d_Tx_addOperation_4 (by decide) (by omega) (fun h4 => ?_) (fun h4 => ?_)
  · skip
    refine lv_iconst (v := nI 0) X.1 X.2.1 d_Tx_addOperation_15 (by decide) ?_
    refine gx_zret X.1 X.2.1 hr hlk hP hS d_Tx_addOperation_16 (by decide) ?_
    exact Or.inl ⟨Or.inl (by omega), rfl, rfl⟩
  · skip
    refine lv_aload_n X.1 X.2.1 d_Tx_addOperation_7 rfl (lv_at hl 0 rfl) ?_
    refine gg_Tx_28 (by omega) X hP d_Tx_addOperation_8 ?_
    refine lv_iconst (v := nI 4) X.1 X.2.1 d_Tx_addOperation_11 (by decide) ?_
    refine gx_icmp_lt X.1 X.2.1 (tgt := 17) d_Tx_addOperation_12 (by decide) (by omega) (by omega) (fun h12 => ?_) (fun h12 => ?_)
    · skip
      refine lv_aload_n X.1 X.2.1 d_Tx_addOperation_17 rfl (lv_at hl 0 rfl) ?_
      refine gg_Tx_9 (by omega) X hP d_Tx_addOperation_18 ?_
      refine lv_aload_n X.1 X.2.1 d_Tx_addOperation_21 rfl (lv_at hl 0 rfl) ?_
      refine gg_Tx_28 (by omega) X hP d_Tx_addOperation_22 ?_
      refine lv_iload_n X.1 X.2.1 d_Tx_addOperation_25 rfl (lv_at hl 1 rfl) ?_
      refine gs_nTk (by omega) (by omega) X hJ hP hS d_Tx_addOperation_26 (fun H locs hP hS => ?_)
      refine lv_aload_n X.1 X.2.1 d_Tx_addOperation_27 rfl (lv_at hl 0 rfl) ?_
      refine gg_Tx_15 (by omega) X hP d_Tx_addOperation_28 ?_
      refine lv_aload_n X.1 X.2.1 d_Tx_addOperation_31 rfl (lv_at hl 0 rfl) ?_
      refine gg_Tx_28 (by omega) X hP d_Tx_addOperation_32 ?_
      rw [gx_w_row _ _ _ a1]
      refine lv_iload_n X.1 X.2.1 d_Tx_addOperation_35 rfl (lv_at hl 2 rfl) ?_
      refine gs_nTy (by omega) (by omega) X hJ hP hS d_Tx_addOperation_36 (fun H locs hP hS => ?_)
      refine lv_aload_n X.1 X.2.1 d_Tx_addOperation_37 rfl (lv_at hl 0 rfl) ?_
      refine gg_Tx_18 (by omega) X hP d_Tx_addOperation_38 ?_
      refine lv_aload_n X.1 X.2.1 d_Tx_addOperation_41 rfl (lv_at hl 0 rfl) ?_
      refine gg_Tx_28 (by omega) X hP d_Tx_addOperation_42 ?_
      rw [gx_w_row _ _ _ a2, gx_w_row _ _ _ a1]
      refine lv_iload_n X.1 X.2.1 d_Tx_addOperation_45 rfl (lv_at hl 3 rfl) ?_
      refine gs_nTa (by omega) (by omega) X hJ hP hS d_Tx_addOperation_46 (fun H locs hP hS => ?_)
      refine lv_aload_n X.1 X.2.1 d_Tx_addOperation_47 rfl (lv_at hl 0 rfl) ?_
      refine lv_dup X.1 X.2.1 d_Tx_addOperation_48 rfl ?_
      refine gg_Tx_28 (by omega) X hP d_Tx_addOperation_49 ?_
      rw [gx_w_row _ _ _ a3, gx_w_row _ _ _ a2, gx_w_row _ _ _ a1]
      refine lv_iconst (v := nI 1) X.1 X.2.1 d_Tx_addOperation_52 (by decide) ?_
      refine gx_iadd X.1 X.2.1 d_Tx_addOperation_53 ?_
      refine gp_Tx_28 (by omega) X hJ hP hS d_Tx_addOperation_54 (fun H locs hP hS => ?_)
      refine lv_aload_n X.1 X.2.1 d_Tx_addOperation_57 rfl (lv_at hl 0 rfl) ?_
      refine gg_Tx_21 (by omega) X hP d_Tx_addOperation_58 ?_
      refine lv_iload_n X.1 X.2.1 d_Tx_addOperation_61 rfl (lv_at hl 2 rfl) ?_
      refine lv_aload_n X.1 X.2.1 d_Tx_addOperation_62 rfl (lv_at hl 0 rfl) ?_
      refine gg_Tx_21 (by omega) X hP d_Tx_addOperation_63 ?_
      refine lv_iload_n X.1 X.2.1 d_Tx_addOperation_66 rfl (lv_at hl 2 rfl) ?_
      refine ga_nTn (by omega) (by omega) X hP d_Tx_addOperation_67 ?_
      rw [gx_w_row _ _ _ a7, gx_w_row _ _ _ a6, gx_w_row _ _ _ a5, gx_w_row _ _ _ a4]
      refine lv_iload_n X.1 X.2.1 d_Tx_addOperation_68 rfl (lv_at hl 1 rfl) ?_
      refine gx_if_ne X.1 X.2.1 (tgt := 76) d_Tx_addOperation_69 (by decide) (by omega) (fun h69 => ?_) (fun h69 => ?_)
      · skip
        refine lv_iconst (v := nI 2) X.1 X.2.1 d_Tx_addOperation_76 (by decide) ?_
        refine cv_Tx_32 (rest := [.int (nI y), .ref (ad (nTn t))]) X hJ hP hS (K_Ma_max l dC dI cx ad hJ _ (σ (nTn t) y) 2 (by omega) (by decide)) rfl rfl (by decide) hl.1 (Nat.le_of_ble_eq_true rfl) ⟨Nat.le_refl _, Nat.le_refl _⟩ d_Tx_addOperation_77 (fun r σ' H locs hq hP hS => ?_)
        obtain ⟨hq0, rfl⟩ := hq
        rw [hq0] at hP
        refine gs_nTn (by omega) (by omega) X hJ hP hS d_Tx_addOperation_80 (fun H locs hP hS => ?_)
        refine lv_iconst (v := nI 1) X.1 X.2.1 d_Tx_addOperation_81 (by decide) ?_
        refine gx_zret X.1 X.2.1 hr hlk hP hS d_Tx_addOperation_82 (by decide) ?_
        exact Or.inr ⟨by omega, by omega, rfl, by rw [if_neg h69]⟩
      · skip
        refine lv_iconst (v := nI 1) X.1 X.2.1 d_Tx_addOperation_72 (by decide) ?_
        refine lv_goto (tgt := 77) X.1 X.2.1 d_Tx_addOperation_73 (by decide) ?_
        refine cv_Tx_32 (rest := [.int (nI y), .ref (ad (nTn t))]) X hJ hP hS (K_Ma_max l dC dI cx ad hJ _ (σ (nTn t) y) 1 (by omega) (by decide)) rfl rfl (by decide) hl.1 (Nat.le_of_ble_eq_true rfl) ⟨Nat.le_refl _, Nat.le_refl _⟩ d_Tx_addOperation_77 (fun r σ' H locs hq hP hS => ?_)
        obtain ⟨hq0, rfl⟩ := hq
        rw [hq0] at hP
        refine gs_nTn (by omega) (by omega) X hJ hP hS d_Tx_addOperation_80 (fun H locs hP hS => ?_)
        refine lv_iconst (v := nI 1) X.1 X.2.1 d_Tx_addOperation_81 (by decide) ?_
        refine gx_zret X.1 X.2.1 hr hlk hP hS d_Tx_addOperation_82 (by decide) ?_
        exact Or.inr ⟨by omega, by omega, rfl, by rw [if_pos h69]⟩
    · skip
      refine lv_iconst (v := nI 0) X.1 X.2.1 d_Tx_addOperation_15 (by decide) ?_
      refine gx_zret X.1 X.2.1 hr hlk hP hS d_Tx_addOperation_16 (by decide) ?_
      exact Or.inl ⟨Or.inr (by omega), rfl, rfl⟩
