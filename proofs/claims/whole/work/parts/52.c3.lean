/-! contracts: the tables of a shard's replica -/
set_option maxRecDepth 100000 in
set_option maxHeartbeats 4000000 in
theorem K_SS_refuseUnvoted (l : Launch) (dC : Nat → ClassId) (dI : Nat → Nat → Nat) (cx : Nat → ClassId) (ad : Nat → Nat) (hJ : gx_J gx_N ad (gx_A gx_N ad)) (σ : gx_M) (sh ri t : Nat) (h0 : sh < 3) (h1 : ri < 3) (ht : t < 21) (hv : σ (nSo sh ri) t ≤ 2) : cg_Mv l dC dI cx ad y_SS_refuseUnvoted w_SS_refuseUnvoted 0 [.ref (ad (nSt sh ri)), .int (nI t)] σ (fun σ' => σ' = if σ (nSo sh ri) t = 0 then gx_w σ (nSo sh ri) t 2 else σ) := by
  refine gx_ofW (cc := c_SS_refuseUnvoted) (maxL := 2) (ret := (Option.none : Option Jvm.ClassFile.FieldType)) (by decide) rfl (Nat.le_of_ble_eq_true rfl) ?_
  intro p e s m below meth c ls S hr hlk hK hN hl hP
  have X : cg_X c_SS_refuseUnvoted "CommitGroups$ShardState" 2 dC dI cx p m c s _ := ⟨S.1, S.2.1, S.2.2.2.1, fun w h => S.2.2.2.2 w (List.mem_cons_of_mem _ h), hK, hN, S.2.2.1⟩
  have hS : va_S (gx_A gx_N ad) s.heap s.heap [] := va_S.rf
  have hl : lv_has ls 2 [(0, .ref (ad (nSt sh ri))), (1, .int (nI t))] := hl
  refine lv_aload_n X.1 X.2.1 d_SS_refuseUnvoted_0 rfl (lv_at hl 0 rfl) ?_
  refine gg_SS_24 (by omega) (by omega) X hP d_SS_refuseUnvoted_1 ?_
  refine lv_iload_n X.1 X.2.1 d_SS_refuseUnvoted_4 rfl (lv_at hl 1 rfl) ?_
  refine ga_nSo (by omega) (by omega) (by omega) X hP d_SS_refuseUnvoted_5 ?_
  refine gx_if_ne X.1 X.2.1 (tgt := 16) d_SS_refuseUnvoted_6 (by decide) (by omega) (fun h6 => ?_) (fun h6 => ?_)
  · skip
    refine gx_vret X.1 X.2.1 hr hlk hP hS d_SS_refuseUnvoted_16 ?_
    exact (if_neg h6).symm
  · skip
    refine lv_aload_n X.1 X.2.1 d_SS_refuseUnvoted_9 rfl (lv_at hl 0 rfl) ?_
    refine gg_SS_24 (by omega) (by omega) X hP d_SS_refuseUnvoted_10 ?_
    refine lv_iload_n X.1 X.2.1 d_SS_refuseUnvoted_13 rfl (lv_at hl 1 rfl) ?_
    refine lv_iconst (v := nI 2) X.1 X.2.1 d_SS_refuseUnvoted_14 (by decide) ?_
    refine gs_nSo (by omega) (by omega) (by omega) X hJ hP hS d_SS_refuseUnvoted_15 (fun H locs hP hS => ?_)
    refine gx_vret X.1 X.2.1 hr hlk hP hS d_SS_refuseUnvoted_16 ?_
    exact (if_pos h6).symm
set_option maxRecDepth 100000 in
set_option maxHeartbeats 4000000 in
theorem K_SS_release (l : Launch) (dC : Nat → ClassId) (dI : Nat → Nat → Nat) (cx : Nat → ClassId) (ad : Nat → Nat) (hJ : gx_J gx_N ad (gx_A gx_N ad)) (σ : gx_M) (sh ri t : Nat) (h0 : sh < 3) (h1 : ri < 3) (ht : t < 21) (hal : ∀ k, k < 4 → σ (nSa sh ri) k < 21) : cg_Mv l dC dI cx ad y_SS_release w_SS_release 0 [.ref (ad (nSt sh ri)), .int (nI t)] σ (fun σ' => (∀ k, k < 4 → σ' (nSa sh ri) k = if σ (nSa sh ri) k = t then 0 else σ (nSa sh ri) k) ∧ (∀ k, k < 4 → σ' (nSh sh ri) k = pt_clr (σ (nSh sh ri) k) t) ∧ (∀ u, σ' (nSf sh ri) u = if u = t then 1 else σ (nSf sh ri) u) ∧ ∀ n, n ≠ (nSa sh ri) → n ≠ (nSh sh ri) → n ≠ (nSf sh ri) → σ' n = σ n) := by
  refine gx_ofW (cc := c_SS_release) (maxL := 3) (ret := (Option.none : Option Jvm.ClassFile.FieldType)) (by decide) rfl (Nat.le_of_ble_eq_true rfl) ?_
  intro p e s m below meth c ls S hr hlk hK hN hl hP
  have X : cg_X c_SS_release "CommitGroups$ShardState" 3 dC dI cx p m c s _ := ⟨S.1, S.2.1, S.2.2.2.1, fun w h => S.2.2.2.2 w (List.mem_cons_of_mem _ h), hK, hN, S.2.2.1⟩
  have hS : va_S (gx_A gx_N ad) s.heap s.heap [] := va_S.rf
  have hl : lv_has ls 3 [(0, .ref (ad (nSt sh ri))), (1, .int (nI t))] := hl
  have eAS : (nSa sh ri) ≠ (nSh sh ri) := by unfold nSa nSh; omega
  have eAF : (nSa sh ri) ≠ (nSf sh ri) := by unfold nSa nSf; omega
  have eSF : (nSh sh ri) ≠ (nSf sh ri) := by unfold nSh nSf; omega
  have lp : ∀ (k : Nat) (i : Nat) (τ : gx_M), i + k = 4 → (∀ k, k < 4 → τ (nSa sh ri) k = if k < i ∧ σ (nSa sh ri) k = t then 0 else σ (nSa sh ri) k) → (∀ k, k < 4 → τ (nSh sh ri) k = if k < i then pt_clr (σ (nSh sh ri) k) t else σ (nSh sh ri) k) → (∀ n, n ≠ (nSa sh ri) → n ≠ (nSh sh ri) → τ n = σ n) → ∀ (H : Heap) (locs : List Loc) (ls : Array Slot), cg_P dC dI cx ad τ H → va_S (gx_A gx_N ad) s.heap H locs → lv_has ls 3 [(2, .int (nI i)), (0, .ref (ad (nSt sh ri))), (1, .int (nI t))] → W p l e (rmL 0) s m ([.ref (ad (nSt sh ri)), .int (nI t)] : List Value).toArray below meth c H locs 0 0 (cg_Qv dC dI cx ad (fun σ' => (∀ k, k < 4 → σ' (nSa sh ri) k = if σ (nSa sh ri) k = t then 0 else σ (nSa sh ri) k) ∧ (∀ k, k < 4 → σ' (nSh sh ri) k = pt_clr (σ (nSh sh ri) k) t) ∧ (∀ u, σ' (nSf sh ri) u = if u = t then 1 else σ (nSf sh ri) u) ∧ ∀ n, n ≠ (nSa sh ri) → n ≠ (nSh sh ri) → n ≠ (nSf sh ri) → σ' n = σ n) below [.ref (ad (nSt sh ri)), .int (nI t)] s) (F0 m 2 ls []) := by
    intro k
    induction k with
    | zero =>
      intro i τ hik g1 g2 g3 H locs ls hP hS hl
      refine lv_iload_n X.1 X.2.1 d_SS_release_2 rfl (lv_at hl 0 rfl) ?_
      refine lv_iconst (v := nI 4) X.1 X.2.1 d_SS_release_3 (by decide) ?_
      refine gx_icmp_ge X.1 X.2.1 (tgt := 44) d_SS_release_4 (by decide) (by omega) (by omega) (fun h4 => ?_) (fun h4 => absurd h4 (by omega))
      refine lv_aload_n X.1 X.2.1 d_SS_release_44 rfl (lv_at hl 1 rfl) ?_
      refine gg_SS_27 (by omega) (by omega) X hP d_SS_release_45 ?_
      refine lv_iload_n X.1 X.2.1 d_SS_release_48 rfl (lv_at hl 2 rfl) ?_
      refine lv_iconst (v := nI 1) X.1 X.2.1 d_SS_release_49 (by decide) ?_
      refine gs_nSf (by omega) (by omega) (by omega) (by omega) X hJ hP hS d_SS_release_50 (fun H locs hP hS => ?_)
      refine gx_vret X.1 X.2.1 hr hlk hP hS d_SS_release_51 ?_
      refine ⟨fun k hk => ?_, fun k hk => ?_, fun u => ?_, fun n n1 n2 n3 => ?_⟩
      · rw [gx_w_row _ _ _ eAF, g1 k hk]
        by_cases q : σ (nSa sh ri) k = t
        · rw [if_pos ⟨by omega, q⟩, if_pos q]
        · rw [if_neg (fun z => q z.2), if_neg q]
      · rw [gx_w_row _ _ _ eSF, g2 k hk, if_pos (by omega)]
      · by_cases q : u = t
        · rw [if_pos q, q, gx_w_self]
        · rw [if_neg q, gx_w_col _ _ _ q, g3 _ eAF.symm eSF.symm]
      · rw [gx_w_row _ _ _ n3]; exact g3 n n1 n2
    | succ k ih =>
      intro i τ hik g1 g2 g3 H locs ls hP hS hl
      refine lv_iload_n X.1 X.2.1 d_SS_release_2 rfl (lv_at hl 0 rfl) ?_
      refine lv_iconst (v := nI 4) X.1 X.2.1 d_SS_release_3 (by decide) ?_
      refine gx_icmp_ge X.1 X.2.1 (tgt := 44) d_SS_release_4 (by decide) (by omega) (by omega) (fun h4 => absurd h4 (by omega)) (fun h4 => ?_)
      have ga : τ (nSa sh ri) i = σ (nSa sh ri) i := by rw [g1 i (by omega), if_neg (by omega)]
      have gb := hal i (by omega)
      refine lv_aload_n X.1 X.2.1 d_SS_release_7 rfl (lv_at hl 1 rfl) ?_
      refine gg_SS_18 (by omega) (by omega) X hP d_SS_release_8 ?_
      refine lv_iload_n X.1 X.2.1 d_SS_release_11 rfl (lv_at hl 0 rfl) ?_
      refine ga_nSa (by omega) (by omega) (by omega) X hP d_SS_release_12 ?_
      refine lv_iload_n X.1 X.2.1 d_SS_release_13 rfl (lv_at hl 2 rfl) ?_
      refine gx_icmp_ne X.1 X.2.1 (tgt := 24) d_SS_release_14 (by decide) (by omega) (by omega) (fun h14 => ?_) (fun h14 => ?_)
      · skip
        refine lv_aload_n X.1 X.2.1 d_SS_release_24 rfl (lv_at hl 1 rfl) ?_
        refine gg_SS_21 (by omega) (by omega) X hP d_SS_release_25 ?_
        refine lv_iload_n X.1 X.2.1 d_SS_release_28 rfl (lv_at hl 0 rfl) ?_
        refine lv_dup2_11 X.1 X.2.1 d_SS_release_29 rfl rfl ?_
        refine ga_nSh (by omega) (by omega) (by omega) X hP d_SS_release_30 ?_
        refine lv_iconst (v := nI 1) X.1 X.2.1 d_SS_release_31 (by decide) ?_
        refine lv_iload_n X.1 X.2.1 d_SS_release_32 rfl (lv_at hl 2 rfl) ?_
        refine gx_ishl1 X.1 X.2.1 d_SS_release_33 (by omega) ?_
        refine lv_iconst (v := -1) X.1 X.2.1 d_SS_release_34 (by decide) ?_
        refine lv_ixor X.1 X.2.1 d_SS_release_35 ?_
        refine gx_iandn X.1 X.2.1 d_SS_release_36 ?_
        refine gs_nSh (by omega) (by omega) (by omega) X hJ hP hS d_SS_release_37 (fun H locs hP hS => ?_)
        refine lv_iinc (k := 0) (v := nI (i + 1)) X.1 X.2.1 d_SS_release_38 hl rfl (nI_add _ _) (by decide) rfl (fun ls hl => ?_)
        have hl : lv_has ls 3 [(2, .int (nI (i + 1))), (0, .ref (ad (nSt sh ri))), (1, .int (nI t))] := hl
        refine lv_goto (tgt := 2) X.1 X.2.1 d_SS_release_41 (by decide) ?_
        refine ih (i + 1) _ (by omega) ?_ ?_ ?_ H locs ls hP hS (lv_sub hl [0, 1, 2] rfl)
        · intro k hk
          have q := g1 k hk
          clear ih hP hS hl X S hr hlk hK hN
          try simp only [gx_w_at]
          grind
        · intro k hk
          have q := g2 k hk
          have q3 := g2 i (by omega)
          clear ih hP hS hl X S hr hlk hK hN
          try simp only [gx_w_at]
          grind
        · intro n n1 n2
          have q := g3 n n1 n2
          first
            | (rw [gx_w_row _ _ _ n2, gx_w_row _ _ _ n1]; exact q)
            | (rw [gx_w_row _ _ _ n2]; exact q)
      · skip
        refine lv_aload_n X.1 X.2.1 d_SS_release_17 rfl (lv_at hl 1 rfl) ?_
        refine gg_SS_18 (by omega) (by omega) X hP d_SS_release_18 ?_
        refine lv_iload_n X.1 X.2.1 d_SS_release_21 rfl (lv_at hl 0 rfl) ?_
        refine lv_iconst (v := nI 0) X.1 X.2.1 d_SS_release_22 (by decide) ?_
        refine gs_nSa (by omega) (by omega) (by omega) X hJ hP hS d_SS_release_23 (fun H locs hP hS => ?_)
        refine lv_aload_n X.1 X.2.1 d_SS_release_24 rfl (lv_at hl 1 rfl) ?_
        refine gg_SS_21 (by omega) (by omega) X hP d_SS_release_25 ?_
        refine lv_iload_n X.1 X.2.1 d_SS_release_28 rfl (lv_at hl 0 rfl) ?_
        refine lv_dup2_11 X.1 X.2.1 d_SS_release_29 rfl rfl ?_
        refine ga_nSh (by omega) (by omega) (by omega) X hP d_SS_release_30 ?_
        refine lv_iconst (v := nI 1) X.1 X.2.1 d_SS_release_31 (by decide) ?_
        refine lv_iload_n X.1 X.2.1 d_SS_release_32 rfl (lv_at hl 2 rfl) ?_
        refine gx_ishl1 X.1 X.2.1 d_SS_release_33 (by omega) ?_
        refine lv_iconst (v := -1) X.1 X.2.1 d_SS_release_34 (by decide) ?_
        refine lv_ixor X.1 X.2.1 d_SS_release_35 ?_
        refine gx_iandn X.1 X.2.1 d_SS_release_36 ?_
        refine gs_nSh (by omega) (by omega) (by omega) X hJ hP hS d_SS_release_37 (fun H locs hP hS => ?_)
        refine lv_iinc (k := 0) (v := nI (i + 1)) X.1 X.2.1 d_SS_release_38 hl rfl (nI_add _ _) (by decide) rfl (fun ls hl => ?_)
        have hl : lv_has ls 3 [(2, .int (nI (i + 1))), (0, .ref (ad (nSt sh ri))), (1, .int (nI t))] := hl
        refine lv_goto (tgt := 2) X.1 X.2.1 d_SS_release_41 (by decide) ?_
        refine ih (i + 1) _ (by omega) ?_ ?_ ?_ H locs ls hP hS (lv_sub hl [0, 1, 2] rfl)
        · intro k hk
          have q := g1 k hk
          clear ih hP hS hl X S hr hlk hK hN
          try simp only [gx_w_at]
          grind
        · intro k hk
          have q := g2 k hk
          have q3 := g2 i (by omega)
          clear ih hP hS hl X S hr hlk hK hN
          try simp only [gx_w_at]
          grind
        · intro n n1 n2
          have q := g3 n n1 n2
          first
            | (rw [gx_w_row _ _ _ n2, gx_w_row _ _ _ n1]; exact q)
            | (rw [gx_w_row _ _ _ n2]; exact q)
  refine lv_iconst (v := nI 0) X.1 X.2.1 d_SS_release_0 (by decide) ?_
  refine lv_istore_n X.1 X.2.1 d_SS_release_1 rfl hl (by decide) rfl (fun ls hl => ?_)
  have hl : lv_has ls 3 [(2, .int (nI 0)), (0, .ref (ad (nSt sh ri))), (1, .int (nI t))] := hl
  exact lp 4 0 σ rfl (fun k _ => by rw [if_neg (by omega)]) (fun k _ => by rw [if_neg (by omega)]) (fun n _ _ => rfl) _ _ ls hP hS (lv_sub hl [0, 1, 2] rfl)
set_option maxRecDepth 100000 in
set_option maxHeartbeats 4000000 in
theorem K_SS_takeKeys (l : Launch) (dC : Nat → ClassId) (dI : Nat → Nat → Nat) (cx : Nat → ClassId) (ad : Nat → Nat) (hJ : gx_J gx_N ad (gx_A gx_N ad)) (σ : gx_M) (sh ri t : Nat) (h0 : sh < 3) (h1 : ri < 3) (ht : t < 21) (hs0 : σ (nSt sh ri) 0 = sh) (hnd : ∀ k, k < 12 → σ (nTn t) k ≤ 2) : cg_Mv l dC dI cx ad y_SS_takeKeys w_SS_takeKeys 0 [.ref (ad (nSt sh ri)), .int (nI t)] σ (fun σ' => (∀ k, k < 4 → σ' (nSa sh ri) k = if σ (nTn t) (k * 3 + σ (nSt sh ri) 0) = 2 then t else σ (nSa sh ri) k) ∧ (∀ k, k < 4 → σ' (nSh sh ri) k = if σ (nTn t) (k * 3 + σ (nSt sh ri) 0) = 1 then σ (nSh sh ri) k ||| 2 ^ t else σ (nSh sh ri) k) ∧ ∀ n, n ≠ (nSa sh ri) → n ≠ (nSh sh ri) → σ' n = σ n) := by
  refine gx_ofW (cc := c_SS_takeKeys) (maxL := 4) (ret := (Option.none : Option Jvm.ClassFile.FieldType)) (by decide) rfl (Nat.le_of_ble_eq_true rfl) ?_
  intro p e s m below meth c ls S hr hlk hK hN hl hP
  have X : cg_X c_SS_takeKeys "CommitGroups$ShardState" 4 dC dI cx p m c s _ := ⟨S.1, S.2.1, S.2.2.2.1, fun w h => S.2.2.2.2 w (List.mem_cons_of_mem _ h), hK, hN, S.2.2.1⟩
  have hS : va_S (gx_A gx_N ad) s.heap s.heap [] := va_S.rf
  have hl : lv_has ls 4 [(0, .ref (ad (nSt sh ri))), (1, .int (nI t))] := hl
  have e1 : nTn t ≠ (nSa sh ri) := by unfold nTn nSa; omega
  have e2 : nTn t ≠ (nSh sh ri) := by unfold nTn nSh; omega
  have e3 : nSt sh ri ≠ (nSa sh ri) := by rw [nSt_num h0]; unfold nSa; omega
  have e4 : nSt sh ri ≠ (nSh sh ri) := by rw [nSt_num h0]; unfold nSh; omega
  have e5 : (nSa sh ri) ≠ (nSh sh ri) := by unfold nSa nSh; omega
  have lp : ∀ (k : Nat) (i : Nat) (τ : gx_M), i + k = 4 → (∀ k, k < 4 → τ (nSa sh ri) k = if k < i ∧ σ (nTn t) (k * 3 + σ (nSt sh ri) 0) = 2 then t else σ (nSa sh ri) k) → (∀ k, k < 4 → τ (nSh sh ri) k = if k < i ∧ σ (nTn t) (k * 3 + σ (nSt sh ri) 0) = 1 then σ (nSh sh ri) k ||| 2 ^ t else σ (nSh sh ri) k) → (∀ n, n ≠ (nSa sh ri) → n ≠ (nSh sh ri) → τ n = σ n) → ∀ (H : Heap) (locs : List Loc) (ls : Array Slot), cg_P dC dI cx ad τ H → va_S (gx_A gx_N ad) s.heap H locs → lv_has ls 4 [(2, .int (nI i)), (0, .ref (ad (nSt sh ri))), (1, .int (nI t))] → W p l e (rmL 0) s m ([.ref (ad (nSt sh ri)), .int (nI t)] : List Value).toArray below meth c H locs 0 0 (cg_Qv dC dI cx ad (fun σ' => (∀ k, k < 4 → σ' (nSa sh ri) k = if σ (nTn t) (k * 3 + σ (nSt sh ri) 0) = 2 then t else σ (nSa sh ri) k) ∧ (∀ k, k < 4 → σ' (nSh sh ri) k = if σ (nTn t) (k * 3 + σ (nSt sh ri) 0) = 1 then σ (nSh sh ri) k ||| 2 ^ t else σ (nSh sh ri) k) ∧ ∀ n, n ≠ (nSa sh ri) → n ≠ (nSh sh ri) → σ' n = σ n) below [.ref (ad (nSt sh ri)), .int (nI t)] s) (F0 m 2 ls []) := by
    intro k
    induction k with
    | zero =>
      intro i τ hik g1 g2 g3 H locs ls hP hS hl
      refine lv_iload_n X.1 X.2.1 d_SS_takeKeys_2 rfl (lv_at hl 0 rfl) ?_
      refine lv_iconst (v := nI 4) X.1 X.2.1 d_SS_takeKeys_3 (by decide) ?_
      refine gx_icmp_ge X.1 X.2.1 (tgt := 64) d_SS_takeKeys_4 (by decide) (by omega) (by omega) (fun h4 => ?_) (fun h4 => absurd h4 (by omega))
      refine gx_vret X.1 X.2.1 hr hlk hP hS d_SS_takeKeys_64 ?_
      refine ⟨fun k hk => ?_, fun k hk => ?_, g3⟩
      · have q := g1 k hk
        grind
      · have q := g2 k hk
        grind
    | succ k ih =>
      intro i τ hik g1 g2 g3 H locs ls hP hS hl
      refine lv_iload_n X.1 X.2.1 d_SS_takeKeys_2 rfl (lv_at hl 0 rfl) ?_
      refine lv_iconst (v := nI 4) X.1 X.2.1 d_SS_takeKeys_3 (by decide) ?_
      refine gx_icmp_ge X.1 X.2.1 (tgt := 64) d_SS_takeKeys_4 (by decide) (by omega) (by omega) (fun h4 => absurd h4 (by omega)) (fun h4 => ?_)
      have hn1 : τ (nTn t) = σ (nTn t) := g3 _ e1 e2
      have hn2 : τ (nSt sh ri) = σ (nSt sh ri) := g3 _ e3 e4
      have gb := hnd (i * 3 + σ (nSt sh ri) 0) (by omega)
      refine lv_aload_n X.1 X.2.1 d_SS_takeKeys_7 rfl (lv_at hl 1 rfl) ?_
      refine gg_SS_38 (by omega) (by omega) X hP d_SS_takeKeys_8 ?_
      refine lv_iload_n X.1 X.2.1 d_SS_takeKeys_11 rfl (lv_at hl 2 rfl) ?_
      refine gr_bk (by omega) X hP d_SS_takeKeys_12 ?_
      refine gg_SS_75 (by omega) X hP d_SS_takeKeys_13 ?_
      refine lv_iload_n X.1 X.2.1 d_SS_takeKeys_16 rfl (lv_at hl 0 rfl) ?_
      refine lv_iconst (v := nI 3) X.1 X.2.1 d_SS_takeKeys_17 (by decide) ?_
      refine gx_imul X.1 X.2.1 d_SS_takeKeys_18 ?_
      refine lv_aload_n X.1 X.2.1 d_SS_takeKeys_19 rfl (lv_at hl 1 rfl) ?_
      refine gg_SS_34 (by omega) (by omega) X hP d_SS_takeKeys_20 ?_
      refine gx_iadd X.1 X.2.1 d_SS_takeKeys_23 ?_
      rw [hn2]
      refine ga_nTn (by omega) (by omega) X hP d_SS_takeKeys_24 ?_
      rw [hn1]
      refine lv_istore_n X.1 X.2.1 d_SS_takeKeys_25 rfl hl (by decide) rfl (fun ls hl => ?_)
      have hl : lv_has ls 4 [(3, .int (nI (σ (nTn t) (i * 3 + σ (nSt sh ri) 0)))), (2, .int (nI i)), (0, .ref (ad (nSt sh ri))), (1, .int (nI t))] := hl
      refine lv_iload_n X.1 X.2.1 d_SS_takeKeys_26 rfl (lv_at hl 0 rfl) ?_
      refine lv_iconst (v := nI 2) X.1 X.2.1 d_SS_takeKeys_27 (by decide) ?_
      refine gx_icmp_ne X.1 X.2.1 (tgt := 41) d_SS_takeKeys_28 (by decide) (by omega) (by decide) (fun h28 => ?_) (fun h28 => ?_)
      · skip
        refine lv_iload_n X.1 X.2.1 d_SS_takeKeys_41 rfl (lv_at hl 0 rfl) ?_
        refine lv_iconst (v := nI 1) X.1 X.2.1 d_SS_takeKeys_42 (by decide) ?_
        refine gx_icmp_ne X.1 X.2.1 (tgt := 58) d_SS_takeKeys_43 (by decide) (by omega) (by decide) (fun h43 => ?_) (fun h43 => ?_)
        · skip
          refine lv_iinc (k := 1) (v := nI (i + 1)) X.1 X.2.1 d_SS_takeKeys_58 hl rfl (nI_add _ _) (by decide) rfl (fun ls hl => ?_)
          have hl : lv_has ls 4 [(2, .int (nI (i + 1))), (3, .int (nI (σ (nTn t) (i * 3 + σ (nSt sh ri) 0)))), (0, .ref (ad (nSt sh ri))), (1, .int (nI t))] := hl
          refine lv_goto (tgt := 2) X.1 X.2.1 d_SS_takeKeys_61 (by decide) ?_
          refine ih (i + 1) _ (by omega) ?_ ?_ ?_ H locs ls hP hS (lv_sub hl [0, 2, 3] rfl)
          · intro k hk
            have q := g1 k hk
            have q3 := g1 i (by omega)
            clear ih hP hS hl X S hr hlk hK hN
            try simp only [gx_w_at]
            grind
          · intro k hk
            have q := g2 k hk
            have q3 := g2 i (by omega)
            clear ih hP hS hl X S hr hlk hK hN
            try simp only [gx_w_at]
            grind
          · intro n n1 n2
            have q := g3 n n1 n2
            first
              | exact q
              | (rw [gx_w_row _ _ _ n1]; exact q)
              | (rw [gx_w_row _ _ _ n2]; exact q)
        · skip
          refine lv_aload_n X.1 X.2.1 d_SS_takeKeys_46 rfl (lv_at hl 2 rfl) ?_
          refine gg_SS_21 (by omega) (by omega) X hP d_SS_takeKeys_47 ?_
          refine lv_iload_n X.1 X.2.1 d_SS_takeKeys_50 rfl (lv_at hl 1 rfl) ?_
          refine lv_dup2_11 X.1 X.2.1 d_SS_takeKeys_51 rfl rfl ?_
          refine ga_nSh (by omega) (by omega) (by omega) X hP d_SS_takeKeys_52 ?_
          refine lv_iconst (v := nI 1) X.1 X.2.1 d_SS_takeKeys_53 (by decide) ?_
          refine lv_iload_n X.1 X.2.1 d_SS_takeKeys_54 rfl (lv_at hl 3 rfl) ?_
          refine gx_ishl1 X.1 X.2.1 d_SS_takeKeys_55 (by omega) ?_
          refine gx_ior X.1 X.2.1 d_SS_takeKeys_56 ?_
          refine gs_nSh (by omega) (by omega) (by omega) X hJ hP hS d_SS_takeKeys_57 (fun H locs hP hS => ?_)
          refine lv_iinc (k := 1) (v := nI (i + 1)) X.1 X.2.1 d_SS_takeKeys_58 hl rfl (nI_add _ _) (by decide) rfl (fun ls hl => ?_)
          have hl : lv_has ls 4 [(2, .int (nI (i + 1))), (3, .int (nI (σ (nTn t) (i * 3 + σ (nSt sh ri) 0)))), (0, .ref (ad (nSt sh ri))), (1, .int (nI t))] := hl
          refine lv_goto (tgt := 2) X.1 X.2.1 d_SS_takeKeys_61 (by decide) ?_
          refine ih (i + 1) _ (by omega) ?_ ?_ ?_ H locs ls hP hS (lv_sub hl [0, 2, 3] rfl)
          · intro k hk
            have q := g1 k hk
            have q3 := g1 i (by omega)
            clear ih hP hS hl X S hr hlk hK hN
            try simp only [gx_w_at]
            grind
          · intro k hk
            have q := g2 k hk
            have q3 := g2 i (by omega)
            clear ih hP hS hl X S hr hlk hK hN
            try simp only [gx_w_at]
            grind
          · intro n n1 n2
            have q := g3 n n1 n2
            first
              | exact q
              | (rw [gx_w_row _ _ _ n1]; exact q)
              | (rw [gx_w_row _ _ _ n2]; exact q)
      · skip
        refine lv_aload_n X.1 X.2.1 d_SS_takeKeys_31 rfl (lv_at hl 2 rfl) ?_
        refine gg_SS_18 (by omega) (by omega) X hP d_SS_takeKeys_32 ?_
        refine lv_iload_n X.1 X.2.1 d_SS_takeKeys_35 rfl (lv_at hl 1 rfl) ?_
        refine lv_iload_n X.1 X.2.1 d_SS_takeKeys_36 rfl (lv_at hl 3 rfl) ?_
        refine gs_nSa (by omega) (by omega) (by omega) X hJ hP hS d_SS_takeKeys_37 (fun H locs hP hS => ?_)
        refine lv_goto (tgt := 58) X.1 X.2.1 d_SS_takeKeys_38 (by decide) ?_
        refine lv_iinc (k := 1) (v := nI (i + 1)) X.1 X.2.1 d_SS_takeKeys_58 hl rfl (nI_add _ _) (by decide) rfl (fun ls hl => ?_)
        have hl : lv_has ls 4 [(2, .int (nI (i + 1))), (3, .int (nI (σ (nTn t) (i * 3 + σ (nSt sh ri) 0)))), (0, .ref (ad (nSt sh ri))), (1, .int (nI t))] := hl
        refine lv_goto (tgt := 2) X.1 X.2.1 d_SS_takeKeys_61 (by decide) ?_
        refine ih (i + 1) _ (by omega) ?_ ?_ ?_ H locs ls hP hS (lv_sub hl [0, 2, 3] rfl)
        · intro k hk
          have q := g1 k hk
          have q3 := g1 i (by omega)
          clear ih hP hS hl X S hr hlk hK hN
          try simp only [gx_w_at]
          grind
        · intro k hk
          have q := g2 k hk
          have q3 := g2 i (by omega)
          clear ih hP hS hl X S hr hlk hK hN
          try simp only [gx_w_at]
          grind
        · intro n n1 n2
          have q := g3 n n1 n2
          first
            | exact q
            | (rw [gx_w_row _ _ _ n1]; exact q)
            | (rw [gx_w_row _ _ _ n2]; exact q)
  refine lv_iconst (v := nI 0) X.1 X.2.1 d_SS_takeKeys_0 (by decide) ?_
  refine lv_istore_n X.1 X.2.1 d_SS_takeKeys_1 rfl hl (by decide) rfl (fun ls hl => ?_)
  have hl : lv_has ls 4 [(2, .int (nI 0)), (0, .ref (ad (nSt sh ri))), (1, .int (nI t))] := hl
  exact lp 4 0 σ rfl (fun k _ => by rw [if_neg (by omega)]) (fun k _ => by rw [if_neg (by omega)]) (fun n _ _ => rfl) _ _ ls hP hS (lv_sub hl [0, 1, 2] rfl)
set_option maxRecDepth 100000 in
set_option maxHeartbeats 4000000 in
theorem K_SS_isHindered (l : Launch) (dC : Nat → ClassId) (dI : Nat → Nat → Nat) (cx : Nat → ClassId) (ad : Nat → Nat) (hJ : gx_J gx_N ad (gx_A gx_N ad)) (σ : gx_M) (sh ri t : Nat) (h0 : sh < 3) (h1 : ri < 3) (ht : t < 21) (hs0 : σ (nSt sh ri) 0 = sh) (hnd : ∀ k, k < 12 → σ (nTn t) k ≤ 2) (hal : ∀ k, k < 4 → σ (nSa sh ri) k < 21) (hsh : ∀ k, k < 4 → σ (nSh sh ri) k < 2 ^ 21) : cg_Mi l dC dI cx ad y_SS_isHindered w_SS_isHindered 0 [.ref (ad (nSt sh ri)), .int (nI t)] σ (fun r σ' => σ' = σ ∧ gx_bo (∃ k, k < 4 ∧ ((σ (nTn t) (k * 3 + σ (nSt sh ri) 0) ≠ 0 ∧ σ (nSa sh ri) k ≠ 0 ∧ σ (nSa sh ri) k ≠ t) ∨ (σ (nTn t) (k * 3 + σ (nSt sh ri) 0) = 2 ∧ pt_clr (σ (nSh sh ri) k) t ≠ 0))) r) := by
  refine gx_ofW (cc := c_SS_isHindered) (maxL := 6) (ret := (Option.some Jvm.ClassFile.FieldType.boolean)) (by decide) rfl (Nat.le_of_ble_eq_true rfl) ?_
  intro p e s m below meth c ls S hr hlk hK hN hl hP
  have X : cg_X c_SS_isHindered "CommitGroups$ShardState" 6 dC dI cx p m c s _ := ⟨S.1, S.2.1, S.2.2.2.1, fun w h => S.2.2.2.2 w (List.mem_cons_of_mem _ h), hK, hN, S.2.2.1⟩
  have hS : va_S (gx_A gx_N ad) s.heap s.heap [] := va_S.rf
  have hl : lv_has ls 6 [(0, .ref (ad (nSt sh ri))), (1, .int (nI t))] := hl
  have lp : ∀ (k : Nat) (i : Nat), i + k = 4 → (∀ k, k < i → ¬ ((σ (nTn t) (k * 3 + σ (nSt sh ri) 0) ≠ 0 ∧ σ (nSa sh ri) k ≠ 0 ∧ σ (nSa sh ri) k ≠ t) ∨ (σ (nTn t) (k * 3 + σ (nSt sh ri) 0) = 2 ∧ pt_clr (σ (nSh sh ri) k) t ≠ 0))) → ∀ (H : Heap) (locs : List Loc) (ls : Array Slot), cg_P dC dI cx ad σ H → va_S (gx_A gx_N ad) s.heap H locs → lv_has ls 6 [(2, .int (nI i)), (0, .ref (ad (nSt sh ri))), (1, .int (nI t))] → W p l e (rmL 0) s m ([.ref (ad (nSt sh ri)), .int (nI t)] : List Value).toArray below meth c H locs 0 0 (cg_Qi dC dI cx ad (fun r σ' => σ' = σ ∧ gx_bo (∃ k, k < 4 ∧ ((σ (nTn t) (k * 3 + σ (nSt sh ri) 0) ≠ 0 ∧ σ (nSa sh ri) k ≠ 0 ∧ σ (nSa sh ri) k ≠ t) ∨ (σ (nTn t) (k * 3 + σ (nSt sh ri) 0) = 2 ∧ pt_clr (σ (nSh sh ri) k) t ≠ 0))) r) below [.ref (ad (nSt sh ri)), .int (nI t)] s) (F0 m 2 ls []) := by
    intro k
    induction k with
    | zero =>
      intro i hik hz H locs ls hP hS hl
      refine lv_iload_n X.1 X.2.1 d_SS_isHindered_2 rfl (lv_at hl 0 rfl) ?_
      refine lv_iconst (v := nI 4) X.1 X.2.1 d_SS_isHindered_3 (by decide) ?_
      refine gx_icmp_ge X.1 X.2.1 (tgt := 101) d_SS_isHindered_4 (by decide) (by omega) (by omega) (fun h4 => ?_) (fun h4 => absurd h4 (by omega))
      refine lv_iconst (v := nI 0) X.1 X.2.1 d_SS_isHindered_101 (by decide) ?_
      refine gx_zret X.1 X.2.1 hr hlk hP hS d_SS_isHindered_102 (by decide) ?_
      exact ⟨rfl, gx_bo0 (by rintro ⟨k, k1, k2⟩; exact hz k (by omega) k2)⟩
    | succ k ih =>
      intro i hik hz H locs ls hP hS hl
      refine lv_iload_n X.1 X.2.1 d_SS_isHindered_2 rfl (lv_at hl 0 rfl) ?_
      refine lv_iconst (v := nI 4) X.1 X.2.1 d_SS_isHindered_3 (by decide) ?_
      refine gx_icmp_ge X.1 X.2.1 (tgt := 101) d_SS_isHindered_4 (by decide) (by omega) (by omega) (fun h4 => absurd h4 (by omega)) (fun h4 => ?_)
      have gb := hnd (i * 3 + σ (nSt sh ri) 0) (by omega)
      have gc := hal i (by omega)
      have gd : pt_clr (σ (nSh sh ri) i) t < 2 ^ 21 := pt_clr_lt (hsh i (by omega)) ht
      refine lv_aload_n X.1 X.2.1 d_SS_isHindered_7 rfl (lv_at hl 1 rfl) ?_
      refine gg_SS_38 (by omega) (by omega) X hP d_SS_isHindered_8 ?_
      refine lv_iload_n X.1 X.2.1 d_SS_isHindered_11 rfl (lv_at hl 2 rfl) ?_
      refine gr_bk (by omega) X hP d_SS_isHindered_12 ?_
      refine gg_SS_75 (by omega) X hP d_SS_isHindered_13 ?_
      refine lv_iload_n X.1 X.2.1 d_SS_isHindered_16 rfl (lv_at hl 0 rfl) ?_
      refine lv_iconst (v := nI 3) X.1 X.2.1 d_SS_isHindered_17 (by decide) ?_
      refine gx_imul X.1 X.2.1 d_SS_isHindered_18 ?_
      refine lv_aload_n X.1 X.2.1 d_SS_isHindered_19 rfl (lv_at hl 1 rfl) ?_
      refine gg_SS_34 (by omega) (by omega) X hP d_SS_isHindered_20 ?_
      refine gx_iadd X.1 X.2.1 d_SS_isHindered_23 ?_
      refine ga_nTn (by omega) (by omega) X hP d_SS_isHindered_24 ?_
      refine lv_istore_n X.1 X.2.1 d_SS_isHindered_25 rfl hl (by decide) rfl (fun ls hl => ?_)
      have hl : lv_has ls 6 [(3, .int (nI (σ (nTn t) ((i * 3) + (σ (nSt sh ri) 0))))), (2, .int (nI i)), (0, .ref (ad (nSt sh ri))), (1, .int (nI t))] := hl
      refine lv_aload_n X.1 X.2.1 d_SS_isHindered_26 rfl (lv_at hl 2 rfl) ?_
      refine gg_SS_18 (by omega) (by omega) X hP d_SS_isHindered_27 ?_
      refine lv_iload_n X.1 X.2.1 d_SS_isHindered_30 rfl (lv_at hl 1 rfl) ?_
      refine ga_nSa (by omega) (by omega) (by omega) X hP d_SS_isHindered_31 ?_
      refine gx_if_eq X.1 X.2.1 (tgt := 49) d_SS_isHindered_32 (by decide) (by omega) (fun h32 => ?_) (fun h32 => ?_)
      · skip
        refine lv_iconst (v := nI 0) X.1 X.2.1 d_SS_isHindered_49 (by decide) ?_
        refine lv_istore X.1 X.2.1 d_SS_isHindered_50 hl (by decide) rfl (fun ls hl => ?_)
        have hl : lv_has ls 6 [(4, .int (nI 0)), (3, .int (nI (σ (nTn t) ((i * 3) + (σ (nSt sh ri) 0))))), (2, .int (nI i)), (0, .ref (ad (nSt sh ri))), (1, .int (nI t))] := hl
        refine lv_aload_n X.1 X.2.1 d_SS_isHindered_52 rfl (lv_at hl 3 rfl) ?_
        refine gg_SS_21 (by omega) (by omega) X hP d_SS_isHindered_53 ?_
        refine lv_iload_n X.1 X.2.1 d_SS_isHindered_56 rfl (lv_at hl 2 rfl) ?_
        refine ga_nSh (by omega) (by omega) (by omega) X hP d_SS_isHindered_57 ?_
        refine lv_iconst (v := nI 1) X.1 X.2.1 d_SS_isHindered_58 (by decide) ?_
        refine lv_iload_n X.1 X.2.1 d_SS_isHindered_59 rfl (lv_at hl 4 rfl) ?_
        refine gx_ishl1 X.1 X.2.1 d_SS_isHindered_60 (by omega) ?_
        refine lv_iconst (v := -1) X.1 X.2.1 d_SS_isHindered_61 (by decide) ?_
        refine lv_ixor X.1 X.2.1 d_SS_isHindered_62 ?_
        refine gx_iandn X.1 X.2.1 d_SS_isHindered_63 ?_
        refine gx_if_eq X.1 X.2.1 (tgt := 71) d_SS_isHindered_64 (by decide) (by omega) (fun h64 => ?_) (fun h64 => ?_)
        · skip
          refine lv_iconst (v := nI 0) X.1 X.2.1 d_SS_isHindered_71 (by decide) ?_
          refine lv_istore X.1 X.2.1 d_SS_isHindered_72 hl (by decide) rfl (fun ls hl => ?_)
          have hl : lv_has ls 6 [(5, .int (nI 0)), (4, .int (nI 0)), (3, .int (nI (σ (nTn t) ((i * 3) + (σ (nSt sh ri) 0))))), (2, .int (nI i)), (0, .ref (ad (nSt sh ri))), (1, .int (nI t))] := hl
          refine lv_iload_n X.1 X.2.1 d_SS_isHindered_74 rfl (lv_at hl 2 rfl) ?_
          refine gx_if_eq X.1 X.2.1 (tgt := 83) d_SS_isHindered_75 (by decide) (by omega) (fun h75 => ?_) (fun h75 => ?_)
          · skip
            refine lv_iload_n X.1 X.2.1 d_SS_isHindered_83 rfl (lv_at hl 2 rfl) ?_
            refine lv_iconst (v := nI 2) X.1 X.2.1 d_SS_isHindered_84 (by decide) ?_
            refine gx_icmp_ne X.1 X.2.1 (tgt := 95) d_SS_isHindered_85 (by decide) (by omega) (by omega) (fun h85 => ?_) (fun h85 => ?_)
            · skip
              refine lv_iinc (k := 3) (v := nI (i + 1)) X.1 X.2.1 d_SS_isHindered_95 hl rfl (nI_add _ _) (by decide) rfl (fun ls hl => ?_)
              have hl : lv_has ls 6 [(2, .int (nI (i + 1))), (5, .int (nI 0)), (4, .int (nI 0)), (3, .int (nI (σ (nTn t) ((i * 3) + (σ (nSt sh ri) 0))))), (0, .ref (ad (nSt sh ri))), (1, .int (nI t))] := hl
              refine lv_goto (tgt := 2) X.1 X.2.1 d_SS_isHindered_98 (by decide) ?_
              refine ih (i + 1) (by omega) ?_ H locs ls hP hS (lv_sub hl [0, 4, 5] rfl)
              intro k hk
              by_cases q : k = i
              · subst q
                rintro (⟨z1, z2, z3⟩ | ⟨z1, z2⟩)
                · first | exact h75 z1 | exact z1 h75 | exact z2 h32 | exact z3 h42 | omega
                · first | exact h85 z1 | exact z2 h64 | omega
              · exact hz k (by omega)
            · skip
              refine lv_iload X.1 X.2.1 d_SS_isHindered_88 (lv_at hl 0 rfl) ?_
              refine gx_if_eq X.1 X.2.1 (tgt := 95) d_SS_isHindered_90 (by decide) (by omega) (fun h90 => ?_) (fun h90 => absurd h90 (by decide))
              refine lv_iinc (k := 3) (v := nI (i + 1)) X.1 X.2.1 d_SS_isHindered_95 hl rfl (nI_add _ _) (by decide) rfl (fun ls hl => ?_)
              have hl : lv_has ls 6 [(2, .int (nI (i + 1))), (5, .int (nI 0)), (4, .int (nI 0)), (3, .int (nI (σ (nTn t) ((i * 3) + (σ (nSt sh ri) 0))))), (0, .ref (ad (nSt sh ri))), (1, .int (nI t))] := hl
              refine lv_goto (tgt := 2) X.1 X.2.1 d_SS_isHindered_98 (by decide) ?_
              refine ih (i + 1) (by omega) ?_ H locs ls hP hS (lv_sub hl [0, 4, 5] rfl)
              intro k hk
              by_cases q : k = i
              · subst q
                rintro (⟨z1, z2, z3⟩ | ⟨z1, z2⟩)
                · first | exact h75 z1 | exact z1 h75 | exact z2 h32 | exact z3 h42 | omega
                · first | exact h85 z1 | exact z2 h64 | omega
              · exact hz k (by omega)
          · skip
            refine lv_iload X.1 X.2.1 d_SS_isHindered_78 (lv_at hl 1 rfl) ?_
            refine gx_if_ne X.1 X.2.1 (tgt := 93) d_SS_isHindered_80 (by decide) (by omega) (fun h80 => absurd h80 (by decide)) (fun h80 => ?_)
            refine lv_iload_n X.1 X.2.1 d_SS_isHindered_83 rfl (lv_at hl 2 rfl) ?_
            refine lv_iconst (v := nI 2) X.1 X.2.1 d_SS_isHindered_84 (by decide) ?_
            refine gx_icmp_ne X.1 X.2.1 (tgt := 95) d_SS_isHindered_85 (by decide) (by omega) (by omega) (fun h85 => ?_) (fun h85 => ?_)
            · skip
              refine lv_iinc (k := 3) (v := nI (i + 1)) X.1 X.2.1 d_SS_isHindered_95 hl rfl (nI_add _ _) (by decide) rfl (fun ls hl => ?_)
              have hl : lv_has ls 6 [(2, .int (nI (i + 1))), (5, .int (nI 0)), (4, .int (nI 0)), (3, .int (nI (σ (nTn t) ((i * 3) + (σ (nSt sh ri) 0))))), (0, .ref (ad (nSt sh ri))), (1, .int (nI t))] := hl
              refine lv_goto (tgt := 2) X.1 X.2.1 d_SS_isHindered_98 (by decide) ?_
              refine ih (i + 1) (by omega) ?_ H locs ls hP hS (lv_sub hl [0, 4, 5] rfl)
              intro k hk
              by_cases q : k = i
              · subst q
                rintro (⟨z1, z2, z3⟩ | ⟨z1, z2⟩)
                · first | exact h75 z1 | exact z1 h75 | exact z2 h32 | exact z3 h42 | omega
                · first | exact h85 z1 | exact z2 h64 | omega
              · exact hz k (by omega)
            · skip
              refine lv_iload X.1 X.2.1 d_SS_isHindered_88 (lv_at hl 0 rfl) ?_
              refine gx_if_eq X.1 X.2.1 (tgt := 95) d_SS_isHindered_90 (by decide) (by omega) (fun h90 => ?_) (fun h90 => absurd h90 (by decide))
              refine lv_iinc (k := 3) (v := nI (i + 1)) X.1 X.2.1 d_SS_isHindered_95 hl rfl (nI_add _ _) (by decide) rfl (fun ls hl => ?_)
              have hl : lv_has ls 6 [(2, .int (nI (i + 1))), (5, .int (nI 0)), (4, .int (nI 0)), (3, .int (nI (σ (nTn t) ((i * 3) + (σ (nSt sh ri) 0))))), (0, .ref (ad (nSt sh ri))), (1, .int (nI t))] := hl
              refine lv_goto (tgt := 2) X.1 X.2.1 d_SS_isHindered_98 (by decide) ?_
              refine ih (i + 1) (by omega) ?_ H locs ls hP hS (lv_sub hl [0, 4, 5] rfl)
              intro k hk
              by_cases q : k = i
              · subst q
                rintro (⟨z1, z2, z3⟩ | ⟨z1, z2⟩)
                · first | exact h75 z1 | exact z1 h75 | exact z2 h32 | exact z3 h42 | omega
                · first | exact h85 z1 | exact z2 h64 | omega
              · exact hz k (by omega)
        · skip
          refine lv_iconst (v := nI 1) X.1 X.2.1 d_SS_isHindered_67 (by decide) ?_
          refine lv_goto (tgt := 72) X.1 X.2.1 d_SS_isHindered_68 (by decide) ?_
          refine lv_istore X.1 X.2.1 d_SS_isHindered_72 hl (by decide) rfl (fun ls hl => ?_)
          have hl : lv_has ls 6 [(5, .int (nI 1)), (4, .int (nI 0)), (3, .int (nI (σ (nTn t) ((i * 3) + (σ (nSt sh ri) 0))))), (2, .int (nI i)), (0, .ref (ad (nSt sh ri))), (1, .int (nI t))] := hl
          refine lv_iload_n X.1 X.2.1 d_SS_isHindered_74 rfl (lv_at hl 2 rfl) ?_
          refine gx_if_eq X.1 X.2.1 (tgt := 83) d_SS_isHindered_75 (by decide) (by omega) (fun h75 => ?_) (fun h75 => ?_)
          · skip
            refine lv_iload_n X.1 X.2.1 d_SS_isHindered_83 rfl (lv_at hl 2 rfl) ?_
            refine lv_iconst (v := nI 2) X.1 X.2.1 d_SS_isHindered_84 (by decide) ?_
            refine gx_icmp_ne X.1 X.2.1 (tgt := 95) d_SS_isHindered_85 (by decide) (by omega) (by omega) (fun h85 => ?_) (fun h85 => ?_)
            · skip
              refine lv_iinc (k := 3) (v := nI (i + 1)) X.1 X.2.1 d_SS_isHindered_95 hl rfl (nI_add _ _) (by decide) rfl (fun ls hl => ?_)
              have hl : lv_has ls 6 [(2, .int (nI (i + 1))), (5, .int (nI 1)), (4, .int (nI 0)), (3, .int (nI (σ (nTn t) ((i * 3) + (σ (nSt sh ri) 0))))), (0, .ref (ad (nSt sh ri))), (1, .int (nI t))] := hl
              refine lv_goto (tgt := 2) X.1 X.2.1 d_SS_isHindered_98 (by decide) ?_
              refine ih (i + 1) (by omega) ?_ H locs ls hP hS (lv_sub hl [0, 4, 5] rfl)
              intro k hk
              by_cases q : k = i
              · subst q
                rintro (⟨z1, z2, z3⟩ | ⟨z1, z2⟩)
                · first | exact h75 z1 | exact z1 h75 | exact z2 h32 | exact z3 h42 | omega
                · first | exact h85 z1 | exact z2 h64 | omega
              · exact hz k (by omega)
            · skip
              refine lv_iload X.1 X.2.1 d_SS_isHindered_88 (lv_at hl 0 rfl) ?_
              refine gx_if_eq X.1 X.2.1 (tgt := 95) d_SS_isHindered_90 (by decide) (by omega) (fun h90 => absurd h90 (by decide)) (fun h90 => ?_)
              refine lv_iconst (v := nI 1) X.1 X.2.1 d_SS_isHindered_93 (by decide) ?_
              refine gx_zret X.1 X.2.1 hr hlk hP hS d_SS_isHindered_94 (by decide) ?_
              exact ⟨rfl, gx_bo1 ⟨i, by omega, by first | exact Or.inl ⟨h75, h32, h42⟩ | exact Or.inr ⟨h85, h64⟩⟩⟩
          · skip
            refine lv_iload X.1 X.2.1 d_SS_isHindered_78 (lv_at hl 1 rfl) ?_
            refine gx_if_ne X.1 X.2.1 (tgt := 93) d_SS_isHindered_80 (by decide) (by omega) (fun h80 => absurd h80 (by decide)) (fun h80 => ?_)
            refine lv_iload_n X.1 X.2.1 d_SS_isHindered_83 rfl (lv_at hl 2 rfl) ?_
            refine lv_iconst (v := nI 2) X.1 X.2.1 d_SS_isHindered_84 (by decide) ?_
            refine gx_icmp_ne X.1 X.2.1 (tgt := 95) d_SS_isHindered_85 (by decide) (by omega) (by omega) (fun h85 => ?_) (fun h85 => ?_)
            · skip
              refine lv_iinc (k := 3) (v := nI (i + 1)) X.1 X.2.1 d_SS_isHindered_95 hl rfl (nI_add _ _) (by decide) rfl (fun ls hl => ?_)
              have hl : lv_has ls 6 [(2, .int (nI (i + 1))), (5, .int (nI 1)), (4, .int (nI 0)), (3, .int (nI (σ (nTn t) ((i * 3) + (σ (nSt sh ri) 0))))), (0, .ref (ad (nSt sh ri))), (1, .int (nI t))] := hl
              refine lv_goto (tgt := 2) X.1 X.2.1 d_SS_isHindered_98 (by decide) ?_
              refine ih (i + 1) (by omega) ?_ H locs ls hP hS (lv_sub hl [0, 4, 5] rfl)
              intro k hk
              by_cases q : k = i
              · subst q
                rintro (⟨z1, z2, z3⟩ | ⟨z1, z2⟩)
                · first | exact h75 z1 | exact z1 h75 | exact z2 h32 | exact z3 h42 | omega
                · first | exact h85 z1 | exact z2 h64 | omega
              · exact hz k (by omega)
            · skip
              refine lv_iload X.1 X.2.1 d_SS_isHindered_88 (lv_at hl 0 rfl) ?_
              refine gx_if_eq X.1 X.2.1 (tgt := 95) d_SS_isHindered_90 (by decide) (by omega) (fun h90 => absurd h90 (by decide)) (fun h90 => ?_)
              refine lv_iconst (v := nI 1) X.1 X.2.1 d_SS_isHindered_93 (by decide) ?_
              refine gx_zret X.1 X.2.1 hr hlk hP hS d_SS_isHindered_94 (by decide) ?_
              exact ⟨rfl, gx_bo1 ⟨i, by omega, by first | exact Or.inl ⟨h75, h32, h42⟩ | exact Or.inr ⟨h85, h64⟩⟩⟩
      · skip
        refine lv_aload_n X.1 X.2.1 d_SS_isHindered_35 rfl (lv_at hl 2 rfl) ?_
        refine gg_SS_18 (by omega) (by omega) X hP d_SS_isHindered_36 ?_
        refine lv_iload_n X.1 X.2.1 d_SS_isHindered_39 rfl (lv_at hl 1 rfl) ?_
        refine ga_nSa (by omega) (by omega) (by omega) X hP d_SS_isHindered_40 ?_
        refine lv_iload_n X.1 X.2.1 d_SS_isHindered_41 rfl (lv_at hl 3 rfl) ?_
        refine gx_icmp_eq X.1 X.2.1 (tgt := 49) d_SS_isHindered_42 (by decide) (by omega) (by omega) (fun h42 => ?_) (fun h42 => ?_)
        · skip
          refine lv_iconst (v := nI 0) X.1 X.2.1 d_SS_isHindered_49 (by decide) ?_
          refine lv_istore X.1 X.2.1 d_SS_isHindered_50 hl (by decide) rfl (fun ls hl => ?_)
          have hl : lv_has ls 6 [(4, .int (nI 0)), (3, .int (nI (σ (nTn t) ((i * 3) + (σ (nSt sh ri) 0))))), (2, .int (nI i)), (0, .ref (ad (nSt sh ri))), (1, .int (nI t))] := hl
          refine lv_aload_n X.1 X.2.1 d_SS_isHindered_52 rfl (lv_at hl 3 rfl) ?_
          refine gg_SS_21 (by omega) (by omega) X hP d_SS_isHindered_53 ?_
          refine lv_iload_n X.1 X.2.1 d_SS_isHindered_56 rfl (lv_at hl 2 rfl) ?_
          refine ga_nSh (by omega) (by omega) (by omega) X hP d_SS_isHindered_57 ?_
          refine lv_iconst (v := nI 1) X.1 X.2.1 d_SS_isHindered_58 (by decide) ?_
          refine lv_iload_n X.1 X.2.1 d_SS_isHindered_59 rfl (lv_at hl 4 rfl) ?_
          refine gx_ishl1 X.1 X.2.1 d_SS_isHindered_60 (by omega) ?_
          refine lv_iconst (v := -1) X.1 X.2.1 d_SS_isHindered_61 (by decide) ?_
          refine lv_ixor X.1 X.2.1 d_SS_isHindered_62 ?_
          refine gx_iandn X.1 X.2.1 d_SS_isHindered_63 ?_
          refine gx_if_eq X.1 X.2.1 (tgt := 71) d_SS_isHindered_64 (by decide) (by omega) (fun h64 => ?_) (fun h64 => ?_)
          · skip
            refine lv_iconst (v := nI 0) X.1 X.2.1 d_SS_isHindered_71 (by decide) ?_
            refine lv_istore X.1 X.2.1 d_SS_isHindered_72 hl (by decide) rfl (fun ls hl => ?_)
            have hl : lv_has ls 6 [(5, .int (nI 0)), (4, .int (nI 0)), (3, .int (nI (σ (nTn t) ((i * 3) + (σ (nSt sh ri) 0))))), (2, .int (nI i)), (0, .ref (ad (nSt sh ri))), (1, .int (nI t))] := hl
            refine lv_iload_n X.1 X.2.1 d_SS_isHindered_74 rfl (lv_at hl 2 rfl) ?_
            refine gx_if_eq X.1 X.2.1 (tgt := 83) d_SS_isHindered_75 (by decide) (by omega) (fun h75 => ?_) (fun h75 => ?_)
            · skip
              refine lv_iload_n X.1 X.2.1 d_SS_isHindered_83 rfl (lv_at hl 2 rfl) ?_
              refine lv_iconst (v := nI 2) X.1 X.2.1 d_SS_isHindered_84 (by decide) ?_
              refine gx_icmp_ne X.1 X.2.1 (tgt := 95) d_SS_isHindered_85 (by decide) (by omega) (by omega) (fun h85 => ?_) (fun h85 => ?_)
              · skip
                refine lv_iinc (k := 3) (v := nI (i + 1)) X.1 X.2.1 d_SS_isHindered_95 hl rfl (nI_add _ _) (by decide) rfl (fun ls hl => ?_)
                have hl : lv_has ls 6 [(2, .int (nI (i + 1))), (5, .int (nI 0)), (4, .int (nI 0)), (3, .int (nI (σ (nTn t) ((i * 3) + (σ (nSt sh ri) 0))))), (0, .ref (ad (nSt sh ri))), (1, .int (nI t))] := hl
                refine lv_goto (tgt := 2) X.1 X.2.1 d_SS_isHindered_98 (by decide) ?_
                refine ih (i + 1) (by omega) ?_ H locs ls hP hS (lv_sub hl [0, 4, 5] rfl)
                intro k hk
                by_cases q : k = i
                · subst q
                  rintro (⟨z1, z2, z3⟩ | ⟨z1, z2⟩)
                  · first | exact h75 z1 | exact z1 h75 | exact z2 h32 | exact z3 h42 | omega
                  · first | exact h85 z1 | exact z2 h64 | omega
                · exact hz k (by omega)
              · skip
                refine lv_iload X.1 X.2.1 d_SS_isHindered_88 (lv_at hl 0 rfl) ?_
                refine gx_if_eq X.1 X.2.1 (tgt := 95) d_SS_isHindered_90 (by decide) (by omega) (fun h90 => ?_) (fun h90 => absurd h90 (by decide))
                refine lv_iinc (k := 3) (v := nI (i + 1)) X.1 X.2.1 d_SS_isHindered_95 hl rfl (nI_add _ _) (by decide) rfl (fun ls hl => ?_)
                have hl : lv_has ls 6 [(2, .int (nI (i + 1))), (5, .int (nI 0)), (4, .int (nI 0)), (3, .int (nI (σ (nTn t) ((i * 3) + (σ (nSt sh ri) 0))))), (0, .ref (ad (nSt sh ri))), (1, .int (nI t))] := hl
                refine lv_goto (tgt := 2) X.1 X.2.1 d_SS_isHindered_98 (by decide) ?_
                refine ih (i + 1) (by omega) ?_ H locs ls hP hS (lv_sub hl [0, 4, 5] rfl)
                intro k hk
                by_cases q : k = i
                · subst q
                  rintro (⟨z1, z2, z3⟩ | ⟨z1, z2⟩)
                  · first | exact h75 z1 | exact z1 h75 | exact z2 h32 | exact z3 h42 | omega
                  · first | exact h85 z1 | exact z2 h64 | omega
                · exact hz k (by omega)
            · skip
              refine lv_iload X.1 X.2.1 d_SS_isHindered_78 (lv_at hl 1 rfl) ?_
              refine gx_if_ne X.1 X.2.1 (tgt := 93) d_SS_isHindered_80 (by decide) (by omega) (fun h80 => absurd h80 (by decide)) (fun h80 => ?_)
              refine lv_iload_n X.1 X.2.1 d_SS_isHindered_83 rfl (lv_at hl 2 rfl) ?_
              refine lv_iconst (v := nI 2) X.1 X.2.1 d_SS_isHindered_84 (by decide) ?_
              refine gx_icmp_ne X.1 X.2.1 (tgt := 95) d_SS_isHindered_85 (by decide) (by omega) (by omega) (fun h85 => ?_) (fun h85 => ?_)
              · skip
                refine lv_iinc (k := 3) (v := nI (i + 1)) X.1 X.2.1 d_SS_isHindered_95 hl rfl (nI_add _ _) (by decide) rfl (fun ls hl => ?_)
                have hl : lv_has ls 6 [(2, .int (nI (i + 1))), (5, .int (nI 0)), (4, .int (nI 0)), (3, .int (nI (σ (nTn t) ((i * 3) + (σ (nSt sh ri) 0))))), (0, .ref (ad (nSt sh ri))), (1, .int (nI t))] := hl
                refine lv_goto (tgt := 2) X.1 X.2.1 d_SS_isHindered_98 (by decide) ?_
                refine ih (i + 1) (by omega) ?_ H locs ls hP hS (lv_sub hl [0, 4, 5] rfl)
                intro k hk
                by_cases q : k = i
                · subst q
                  rintro (⟨z1, z2, z3⟩ | ⟨z1, z2⟩)
                  · first | exact h75 z1 | exact z1 h75 | exact z2 h32 | exact z3 h42 | omega
                  · first | exact h85 z1 | exact z2 h64 | omega
                · exact hz k (by omega)
              · skip
                refine lv_iload X.1 X.2.1 d_SS_isHindered_88 (lv_at hl 0 rfl) ?_
                refine gx_if_eq X.1 X.2.1 (tgt := 95) d_SS_isHindered_90 (by decide) (by omega) (fun h90 => ?_) (fun h90 => absurd h90 (by decide))
                refine lv_iinc (k := 3) (v := nI (i + 1)) X.1 X.2.1 d_SS_isHindered_95 hl rfl (nI_add _ _) (by decide) rfl (fun ls hl => ?_)
                have hl : lv_has ls 6 [(2, .int (nI (i + 1))), (5, .int (nI 0)), (4, .int (nI 0)), (3, .int (nI (σ (nTn t) ((i * 3) + (σ (nSt sh ri) 0))))), (0, .ref (ad (nSt sh ri))), (1, .int (nI t))] := hl
                refine lv_goto (tgt := 2) X.1 X.2.1 d_SS_isHindered_98 (by decide) ?_
                refine ih (i + 1) (by omega) ?_ H locs ls hP hS (lv_sub hl [0, 4, 5] rfl)
                intro k hk
                by_cases q : k = i
                · subst q
                  rintro (⟨z1, z2, z3⟩ | ⟨z1, z2⟩)
                  · first | exact h75 z1 | exact z1 h75 | exact z2 h32 | exact z3 h42 | omega
                  · first | exact h85 z1 | exact z2 h64 | omega
                · exact hz k (by omega)
          · skip
            refine lv_iconst (v := nI 1) X.1 X.2.1 d_SS_isHindered_67 (by decide) ?_
            refine lv_goto (tgt := 72) X.1 X.2.1 d_SS_isHindered_68 (by decide) ?_
            refine lv_istore X.1 X.2.1 d_SS_isHindered_72 hl (by decide) rfl (fun ls hl => ?_)
            have hl : lv_has ls 6 [(5, .int (nI 1)), (4, .int (nI 0)), (3, .int (nI (σ (nTn t) ((i * 3) + (σ (nSt sh ri) 0))))), (2, .int (nI i)), (0, .ref (ad (nSt sh ri))), (1, .int (nI t))] := hl
            refine lv_iload_n X.1 X.2.1 d_SS_isHindered_74 rfl (lv_at hl 2 rfl) ?_
            refine gx_if_eq X.1 X.2.1 (tgt := 83) d_SS_isHindered_75 (by decide) (by omega) (fun h75 => ?_) (fun h75 => ?_)
            · skip
              refine lv_iload_n X.1 X.2.1 d_SS_isHindered_83 rfl (lv_at hl 2 rfl) ?_
              refine lv_iconst (v := nI 2) X.1 X.2.1 d_SS_isHindered_84 (by decide) ?_
              refine gx_icmp_ne X.1 X.2.1 (tgt := 95) d_SS_isHindered_85 (by decide) (by omega) (by omega) (fun h85 => ?_) (fun h85 => ?_)
              · skip
                refine lv_iinc (k := 3) (v := nI (i + 1)) X.1 X.2.1 d_SS_isHindered_95 hl rfl (nI_add _ _) (by decide) rfl (fun ls hl => ?_)
                have hl : lv_has ls 6 [(2, .int (nI (i + 1))), (5, .int (nI 1)), (4, .int (nI 0)), (3, .int (nI (σ (nTn t) ((i * 3) + (σ (nSt sh ri) 0))))), (0, .ref (ad (nSt sh ri))), (1, .int (nI t))] := hl
                refine lv_goto (tgt := 2) X.1 X.2.1 d_SS_isHindered_98 (by decide) ?_
                refine ih (i + 1) (by omega) ?_ H locs ls hP hS (lv_sub hl [0, 4, 5] rfl)
                intro k hk
                by_cases q : k = i
                · subst q
                  rintro (⟨z1, z2, z3⟩ | ⟨z1, z2⟩)
                  · first | exact h75 z1 | exact z1 h75 | exact z2 h32 | exact z3 h42 | omega
                  · first | exact h85 z1 | exact z2 h64 | omega
                · exact hz k (by omega)
              · skip
                refine lv_iload X.1 X.2.1 d_SS_isHindered_88 (lv_at hl 0 rfl) ?_
                refine gx_if_eq X.1 X.2.1 (tgt := 95) d_SS_isHindered_90 (by decide) (by omega) (fun h90 => absurd h90 (by decide)) (fun h90 => ?_)
                refine lv_iconst (v := nI 1) X.1 X.2.1 d_SS_isHindered_93 (by decide) ?_
                refine gx_zret X.1 X.2.1 hr hlk hP hS d_SS_isHindered_94 (by decide) ?_
                exact ⟨rfl, gx_bo1 ⟨i, by omega, by first | exact Or.inl ⟨h75, h32, h42⟩ | exact Or.inr ⟨h85, h64⟩⟩⟩
            · skip
              refine lv_iload X.1 X.2.1 d_SS_isHindered_78 (lv_at hl 1 rfl) ?_
              refine gx_if_ne X.1 X.2.1 (tgt := 93) d_SS_isHindered_80 (by decide) (by omega) (fun h80 => absurd h80 (by decide)) (fun h80 => ?_)
              refine lv_iload_n X.1 X.2.1 d_SS_isHindered_83 rfl (lv_at hl 2 rfl) ?_
              refine lv_iconst (v := nI 2) X.1 X.2.1 d_SS_isHindered_84 (by decide) ?_
              refine gx_icmp_ne X.1 X.2.1 (tgt := 95) d_SS_isHindered_85 (by decide) (by omega) (by omega) (fun h85 => ?_) (fun h85 => ?_)
              · skip
                refine lv_iinc (k := 3) (v := nI (i + 1)) X.1 X.2.1 d_SS_isHindered_95 hl rfl (nI_add _ _) (by decide) rfl (fun ls hl => ?_)
                have hl : lv_has ls 6 [(2, .int (nI (i + 1))), (5, .int (nI 1)), (4, .int (nI 0)), (3, .int (nI (σ (nTn t) ((i * 3) + (σ (nSt sh ri) 0))))), (0, .ref (ad (nSt sh ri))), (1, .int (nI t))] := hl
                refine lv_goto (tgt := 2) X.1 X.2.1 d_SS_isHindered_98 (by decide) ?_
                refine ih (i + 1) (by omega) ?_ H locs ls hP hS (lv_sub hl [0, 4, 5] rfl)
                intro k hk
                by_cases q : k = i
                · subst q
                  rintro (⟨z1, z2, z3⟩ | ⟨z1, z2⟩)
                  · first | exact h75 z1 | exact z1 h75 | exact z2 h32 | exact z3 h42 | omega
                  · first | exact h85 z1 | exact z2 h64 | omega
                · exact hz k (by omega)
              · skip
                refine lv_iload X.1 X.2.1 d_SS_isHindered_88 (lv_at hl 0 rfl) ?_
                refine gx_if_eq X.1 X.2.1 (tgt := 95) d_SS_isHindered_90 (by decide) (by omega) (fun h90 => absurd h90 (by decide)) (fun h90 => ?_)
                refine lv_iconst (v := nI 1) X.1 X.2.1 d_SS_isHindered_93 (by decide) ?_
                refine gx_zret X.1 X.2.1 hr hlk hP hS d_SS_isHindered_94 (by decide) ?_
                exact ⟨rfl, gx_bo1 ⟨i, by omega, by first | exact Or.inl ⟨h75, h32, h42⟩ | exact Or.inr ⟨h85, h64⟩⟩⟩
        · skip
          refine lv_iconst (v := nI 1) X.1 X.2.1 d_SS_isHindered_45 (by decide) ?_
          refine lv_goto (tgt := 50) X.1 X.2.1 d_SS_isHindered_46 (by decide) ?_
          refine lv_istore X.1 X.2.1 d_SS_isHindered_50 hl (by decide) rfl (fun ls hl => ?_)
          have hl : lv_has ls 6 [(4, .int (nI 1)), (3, .int (nI (σ (nTn t) ((i * 3) + (σ (nSt sh ri) 0))))), (2, .int (nI i)), (0, .ref (ad (nSt sh ri))), (1, .int (nI t))] := hl
          refine lv_aload_n X.1 X.2.1 d_SS_isHindered_52 rfl (lv_at hl 3 rfl) ?_
          refine gg_SS_21 (by omega) (by omega) X hP d_SS_isHindered_53 ?_
          refine lv_iload_n X.1 X.2.1 d_SS_isHindered_56 rfl (lv_at hl 2 rfl) ?_
          refine ga_nSh (by omega) (by omega) (by omega) X hP d_SS_isHindered_57 ?_
          refine lv_iconst (v := nI 1) X.1 X.2.1 d_SS_isHindered_58 (by decide) ?_
          refine lv_iload_n X.1 X.2.1 d_SS_isHindered_59 rfl (lv_at hl 4 rfl) ?_
          refine gx_ishl1 X.1 X.2.1 d_SS_isHindered_60 (by omega) ?_
          refine lv_iconst (v := -1) X.1 X.2.1 d_SS_isHindered_61 (by decide) ?_
          refine lv_ixor X.1 X.2.1 d_SS_isHindered_62 ?_
          refine gx_iandn X.1 X.2.1 d_SS_isHindered_63 ?_
          refine gx_if_eq X.1 X.2.1 (tgt := 71) d_SS_isHindered_64 (by decide) (by omega) (fun h64 => ?_) (fun h64 => ?_)
          · skip
            refine lv_iconst (v := nI 0) X.1 X.2.1 d_SS_isHindered_71 (by decide) ?_
            refine lv_istore X.1 X.2.1 d_SS_isHindered_72 hl (by decide) rfl (fun ls hl => ?_)
            have hl : lv_has ls 6 [(5, .int (nI 0)), (4, .int (nI 1)), (3, .int (nI (σ (nTn t) ((i * 3) + (σ (nSt sh ri) 0))))), (2, .int (nI i)), (0, .ref (ad (nSt sh ri))), (1, .int (nI t))] := hl
            refine lv_iload_n X.1 X.2.1 d_SS_isHindered_74 rfl (lv_at hl 2 rfl) ?_
            refine gx_if_eq X.1 X.2.1 (tgt := 83) d_SS_isHindered_75 (by decide) (by omega) (fun h75 => ?_) (fun h75 => ?_)
            · skip
              refine lv_iload_n X.1 X.2.1 d_SS_isHindered_83 rfl (lv_at hl 2 rfl) ?_
              refine lv_iconst (v := nI 2) X.1 X.2.1 d_SS_isHindered_84 (by decide) ?_
              refine gx_icmp_ne X.1 X.2.1 (tgt := 95) d_SS_isHindered_85 (by decide) (by omega) (by omega) (fun h85 => ?_) (fun h85 => ?_)
              · skip
                refine lv_iinc (k := 3) (v := nI (i + 1)) X.1 X.2.1 d_SS_isHindered_95 hl rfl (nI_add _ _) (by decide) rfl (fun ls hl => ?_)
                have hl : lv_has ls 6 [(2, .int (nI (i + 1))), (5, .int (nI 0)), (4, .int (nI 1)), (3, .int (nI (σ (nTn t) ((i * 3) + (σ (nSt sh ri) 0))))), (0, .ref (ad (nSt sh ri))), (1, .int (nI t))] := hl
                refine lv_goto (tgt := 2) X.1 X.2.1 d_SS_isHindered_98 (by decide) ?_
                refine ih (i + 1) (by omega) ?_ H locs ls hP hS (lv_sub hl [0, 4, 5] rfl)
                intro k hk
                by_cases q : k = i
                · subst q
                  rintro (⟨z1, z2, z3⟩ | ⟨z1, z2⟩)
                  · first | exact h75 z1 | exact z1 h75 | exact z2 h32 | exact z3 h42 | omega
                  · first | exact h85 z1 | exact z2 h64 | omega
                · exact hz k (by omega)
              · skip
                refine lv_iload X.1 X.2.1 d_SS_isHindered_88 (lv_at hl 0 rfl) ?_
                refine gx_if_eq X.1 X.2.1 (tgt := 95) d_SS_isHindered_90 (by decide) (by omega) (fun h90 => ?_) (fun h90 => absurd h90 (by decide))
                refine lv_iinc (k := 3) (v := nI (i + 1)) X.1 X.2.1 d_SS_isHindered_95 hl rfl (nI_add _ _) (by decide) rfl (fun ls hl => ?_)
                have hl : lv_has ls 6 [(2, .int (nI (i + 1))), (5, .int (nI 0)), (4, .int (nI 1)), (3, .int (nI (σ (nTn t) ((i * 3) + (σ (nSt sh ri) 0))))), (0, .ref (ad (nSt sh ri))), (1, .int (nI t))] := hl
                refine lv_goto (tgt := 2) X.1 X.2.1 d_SS_isHindered_98 (by decide) ?_
                refine ih (i + 1) (by omega) ?_ H locs ls hP hS (lv_sub hl [0, 4, 5] rfl)
                intro k hk
                by_cases q : k = i
                · subst q
                  rintro (⟨z1, z2, z3⟩ | ⟨z1, z2⟩)
                  · first | exact h75 z1 | exact z1 h75 | exact z2 h32 | exact z3 h42 | omega
                  · first | exact h85 z1 | exact z2 h64 | omega
                · exact hz k (by omega)
            · skip
              refine lv_iload X.1 X.2.1 d_SS_isHindered_78 (lv_at hl 1 rfl) ?_
              refine gx_if_ne X.1 X.2.1 (tgt := 93) d_SS_isHindered_80 (by decide) (by omega) (fun h80 => ?_) (fun h80 => absurd h80 (by decide))
              refine lv_iconst (v := nI 1) X.1 X.2.1 d_SS_isHindered_93 (by decide) ?_
              refine gx_zret X.1 X.2.1 hr hlk hP hS d_SS_isHindered_94 (by decide) ?_
              exact ⟨rfl, gx_bo1 ⟨i, by omega, by first | exact Or.inl ⟨h75, h32, h42⟩ | exact Or.inr ⟨h85, h64⟩⟩⟩
          · skip
            refine lv_iconst (v := nI 1) X.1 X.2.1 d_SS_isHindered_67 (by decide) ?_
            refine lv_goto (tgt := 72) X.1 X.2.1 d_SS_isHindered_68 (by decide) ?_
            refine lv_istore X.1 X.2.1 d_SS_isHindered_72 hl (by decide) rfl (fun ls hl => ?_)
            have hl : lv_has ls 6 [(5, .int (nI 1)), (4, .int (nI 1)), (3, .int (nI (σ (nTn t) ((i * 3) + (σ (nSt sh ri) 0))))), (2, .int (nI i)), (0, .ref (ad (nSt sh ri))), (1, .int (nI t))] := hl
            refine lv_iload_n X.1 X.2.1 d_SS_isHindered_74 rfl (lv_at hl 2 rfl) ?_
            refine gx_if_eq X.1 X.2.1 (tgt := 83) d_SS_isHindered_75 (by decide) (by omega) (fun h75 => ?_) (fun h75 => ?_)
            · skip
              refine lv_iload_n X.1 X.2.1 d_SS_isHindered_83 rfl (lv_at hl 2 rfl) ?_
              refine lv_iconst (v := nI 2) X.1 X.2.1 d_SS_isHindered_84 (by decide) ?_
              refine gx_icmp_ne X.1 X.2.1 (tgt := 95) d_SS_isHindered_85 (by decide) (by omega) (by omega) (fun h85 => ?_) (fun h85 => ?_)
              · skip
                refine lv_iinc (k := 3) (v := nI (i + 1)) X.1 X.2.1 d_SS_isHindered_95 hl rfl (nI_add _ _) (by decide) rfl (fun ls hl => ?_)
                have hl : lv_has ls 6 [(2, .int (nI (i + 1))), (5, .int (nI 1)), (4, .int (nI 1)), (3, .int (nI (σ (nTn t) ((i * 3) + (σ (nSt sh ri) 0))))), (0, .ref (ad (nSt sh ri))), (1, .int (nI t))] := hl
                refine lv_goto (tgt := 2) X.1 X.2.1 d_SS_isHindered_98 (by decide) ?_
                refine ih (i + 1) (by omega) ?_ H locs ls hP hS (lv_sub hl [0, 4, 5] rfl)
                intro k hk
                by_cases q : k = i
                · subst q
                  rintro (⟨z1, z2, z3⟩ | ⟨z1, z2⟩)
                  · first | exact h75 z1 | exact z1 h75 | exact z2 h32 | exact z3 h42 | omega
                  · first | exact h85 z1 | exact z2 h64 | omega
                · exact hz k (by omega)
              · skip
                refine lv_iload X.1 X.2.1 d_SS_isHindered_88 (lv_at hl 0 rfl) ?_
                refine gx_if_eq X.1 X.2.1 (tgt := 95) d_SS_isHindered_90 (by decide) (by omega) (fun h90 => absurd h90 (by decide)) (fun h90 => ?_)
                refine lv_iconst (v := nI 1) X.1 X.2.1 d_SS_isHindered_93 (by decide) ?_
                refine gx_zret X.1 X.2.1 hr hlk hP hS d_SS_isHindered_94 (by decide) ?_
                exact ⟨rfl, gx_bo1 ⟨i, by omega, by first | exact Or.inl ⟨h75, h32, h42⟩ | exact Or.inr ⟨h85, h64⟩⟩⟩
            · skip
              refine lv_iload X.1 X.2.1 d_SS_isHindered_78 (lv_at hl 1 rfl) ?_
              refine gx_if_ne X.1 X.2.1 (tgt := 93) d_SS_isHindered_80 (by decide) (by omega) (fun h80 => ?_) (fun h80 => absurd h80 (by decide))
              refine lv_iconst (v := nI 1) X.1 X.2.1 d_SS_isHindered_93 (by decide) ?_
              refine gx_zret X.1 X.2.1 hr hlk hP hS d_SS_isHindered_94 (by decide) ?_
              exact ⟨rfl, gx_bo1 ⟨i, by omega, by first | exact Or.inl ⟨h75, h32, h42⟩ | exact Or.inr ⟨h85, h64⟩⟩⟩
  refine lv_iconst (v := nI 0) X.1 X.2.1 d_SS_isHindered_0 (by decide) ?_
  refine lv_istore_n X.1 X.2.1 d_SS_isHindered_1 rfl hl (by decide) rfl (fun ls hl => ?_)
  have hl : lv_has ls 6 [(2, .int (nI 0)), (0, .ref (ad (nSt sh ri))), (1, .int (nI t))] := hl
  exact lp 4 0 rfl (fun k hk => absurd hk (Nat.not_lt_zero k)) _ _ ls hP hS (lv_sub hl [0, 1, 2] rfl)
set_option maxRecDepth 100000 in
set_option maxHeartbeats 4000000 in
theorem K_SS_holderOf (l : Launch) (dC : Nat → ClassId) (dI : Nat → Nat → Nat) (cx : Nat → ClassId) (ad : Nat → Nat) (hJ : gx_J gx_N ad (gx_A gx_N ad)) (σ : gx_M) (sh ri k : Nat) (h0 : sh < 3) (h1 : ri < 3) (hk : k < 4) (hal : σ (nSa sh ri) k < 21) (hsh : σ (nSh sh ri) k < 2 ^ 21) : cg_Mi l dC dI cx ad y_SS_holderOf w_SS_holderOf 1 [.ref (ad (nSt sh ri)), .int (nI k)] σ (fun r σ' => σ' = σ ∧ r = if σ (nSa sh ri) k ≠ 0 then nI (σ (nSa sh ri) k) else -(nI (bc_pop 24 (σ (nSh sh ri) k)))) := by
  refine gx_ofW (cc := c_SS_holderOf) (maxL := 2) (ret := (Option.some Jvm.ClassFile.FieldType.int)) (by decide) rfl (Nat.le_of_ble_eq_true rfl) ?_
  intro p e s m below meth c ls S hr hlk hK hN hl hP
  have X : cg_X c_SS_holderOf "CommitGroups$ShardState" 2 dC dI cx p m c s _ := ⟨S.1, S.2.1, S.2.2.2.1, fun w h => S.2.2.2.2 w (List.mem_cons_of_mem _ h), hK, hN, S.2.2.1⟩
  have hS : va_S (gx_A gx_N ad) s.heap s.heap [] := va_S.rf
  have hl : lv_has ls 2 [(0, .ref (ad (nSt sh ri))), (1, .int (nI k))] := hl
  refine lv_aload_n X.1 X.2.1 d_SS_holderOf_0 rfl (lv_at hl 0 rfl) ?_
  refine gg_SS_18 (by omega) (by omega) X hP d_SS_holderOf_1 ?_
  refine lv_iload_n X.1 X.2.1 d_SS_holderOf_4 rfl (lv_at hl 1 rfl) ?_
  refine ga_nSa (by omega) (by omega) (by omega) X hP d_SS_holderOf_5 ?_
  refine gx_if_eq X.1 X.2.1 (tgt := 18) d_SS_holderOf_6 (by decide) (by omega) (fun h6 => ?_) (fun h6 => ?_)
  · skip
    refine lv_aload_n X.1 X.2.1 d_SS_holderOf_18 rfl (lv_at hl 0 rfl) ?_
    refine gg_SS_21 (by omega) (by omega) X hP d_SS_holderOf_19 ?_
    refine lv_iload_n X.1 X.2.1 d_SS_holderOf_22 rfl (lv_at hl 1 rfl) ?_
    refine ga_nSh (by omega) (by omega) (by omega) X hP d_SS_holderOf_23 ?_
    refine cv_SS_56 (rest := []) X hJ hP hS (K_In_bitCount l dC dI cx ad hJ _ (σ (nSh sh ri) k) hsh) rfl rfl (by decide) hl.1 (Nat.le_of_ble_eq_true rfl) ⟨Nat.le_refl _, Nat.le_refl _⟩ d_SS_holderOf_24 (fun r σ' H locs hq hP hS => ?_)
    obtain ⟨hq0, rfl⟩ := hq
    rw [hq0] at hP
    refine lv_ineg X.1 X.2.1 d_SS_holderOf_27 ?_
    refine gx_iret X.1 X.2.1 hr hlk hP hS d_SS_holderOf_28 ?_
    exact ⟨rfl, (if_neg (fun q => q h6)).symm⟩
  · skip
    refine lv_aload_n X.1 X.2.1 d_SS_holderOf_9 rfl (lv_at hl 0 rfl) ?_
    refine gg_SS_18 (by omega) (by omega) X hP d_SS_holderOf_10 ?_
    refine lv_iload_n X.1 X.2.1 d_SS_holderOf_13 rfl (lv_at hl 1 rfl) ?_
    refine ga_nSa (by omega) (by omega) (by omega) X hP d_SS_holderOf_14 ?_
    refine lv_goto (tgt := 28) X.1 X.2.1 d_SS_holderOf_15 (by decide) ?_
    refine gx_iret X.1 X.2.1 hr hlk hP hS d_SS_holderOf_28 ?_
    exact ⟨rfl, (if_pos h6).symm⟩
