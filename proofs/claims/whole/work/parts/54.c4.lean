/-! contracts: a shard's replica does operations -/
set_option maxRecDepth 100000 in
set_option maxHeartbeats 4000000 in
theorem K_SS_doOperations_v (l : Launch) (dC : Nat → ClassId) (dI : Nat → Nat → Nat) (cx : Nat → ClassId) (ad : Nat → Nat) (hJ : gx_J gx_N ad (gx_A gx_N ad)) (σ : gx_M) (sh ri t : Nat) (L : List pu_Op) (va : Nat → Nat) (h0 : sh < 3) (h1 : ri < 3) (ht : t < 21) (hs0 : σ (nSt sh ri) 0 = sh) (hlen : σ (nTx t) 4 = L.length) (hl4 : L.length ≤ 4) (hops : ∀ i o, L[i]? = some o → σ (nTk t) i = o.1 ∧ σ (nTy t) i = o.2.1 ∧ σ (nTa t) i = o.2.2) (hko : ∀ o, o ∈ L → o.1 < 3 ∧ o.2.1 < 12) (hva : ∀ k, k < 4 → σ (nSv sh ri) k = va (3 * k + sh)) : cg_Mv l dC dI cx ad y_SS_doOperations w_SS_doOperations 0 [.ref (ad (nSt sh ri)), .int (nI t), .ref (ad (nSv sh ri))] σ (fun σ' => (∀ k, k < 4 → σ' (nSv sh ri) k = pu_run (pu_q sh) L va (3 * k + sh)) ∧ (∀ u j, j < 4 → σ' (nSn sh ri) (4 * u + j) = if u = t ∧ pu_sh L j = sh then pu_rs (pu_q sh) L va j else σ (nSn sh ri) (4 * u + j)) ∧ ∀ n, n ≠ (nSv sh ri) → n ≠ (nSn sh ri) → σ' n = σ n) := by
  refine gx_ofW (cc := c_SS_doOperations) (maxL := 7) (ret := (Option.none : Option Jvm.ClassFile.FieldType)) (by decide) rfl (Nat.le_of_ble_eq_true rfl) ?_
  intro p e s m below meth c ls S hr hlk hK hN hl hP
  have X : cg_X c_SS_doOperations "CommitGroups$ShardState" 7 dC dI cx p m c s _ := ⟨S.1, S.2.1, S.2.2.2.1, fun w h => S.2.2.2.2 w (List.mem_cons_of_mem _ h), hK, hN, S.2.2.1⟩
  have hS : va_S (gx_A gx_N ad) s.heap s.heap [] := va_S.rf
  have hl : lv_has ls 7 [(0, .ref (ad (nSt sh ri))), (1, .int (nI t)), (2, .ref (ad (nSv sh ri)))] := hl
  have a0 : nTx t ≠ (nSv sh ri) := by unfold nTx nSv; omega
  have b0 : nTx t ≠ (nSn sh ri) := by unfold nTx nSn; omega
  have a1 : nTk t ≠ (nSv sh ri) := by unfold nTk nSv; omega
  have b1 : nTk t ≠ (nSn sh ri) := by unfold nTk nSn; omega
  have a2 : nTy t ≠ (nSv sh ri) := by unfold nTy nSv; omega
  have b2 : nTy t ≠ (nSn sh ri) := by unfold nTy nSn; omega
  have a3 : nTa t ≠ (nSv sh ri) := by unfold nTa nSv; omega
  have b3 : nTa t ≠ (nSn sh ri) := by unfold nTa nSn; omega
  have a4 : nSt sh ri ≠ (nSv sh ri) := by rw [nSt_num h0]; unfold nSv; omega
  have b4 : nSt sh ri ≠ (nSn sh ri) := by rw [nSt_num h0]; unfold nSn; omega
  have eCN : (nSv sh ri) ≠ (nSn sh ri) := by unfold nSv nSn; omega
  have lp : ∀ (k : Nat) (i : Nat) (τ : gx_M), i + k = L.length → (∀ k, k < 4 → τ (nSv sh ri) k = pu_run (pu_q sh) (L.take i) va (3 * k + sh)) → (∀ u j, j < 4 → τ (nSn sh ri) (4 * u + j) = if u = t ∧ j < i ∧ pu_sh L j = sh then pu_rs (pu_q sh) L va j else σ (nSn sh ri) (4 * u + j)) → (∀ n, n ≠ (nSv sh ri) → n ≠ (nSn sh ri) → τ n = σ n) → ∀ (H : Heap) (locs : List Loc) (ls : Array Slot), cg_P dC dI cx ad τ H → va_S (gx_A gx_N ad) s.heap H locs → lv_has ls 7 [(4, .int (nI i)), (3, .ref (ad (nTx t))), (0, .ref (ad (nSt sh ri))), (1, .int (nI t)), (2, .ref (ad (nSv sh ri)))] → W p l e (rmL 0) s m ([.ref (ad (nSt sh ri)), .int (nI t), .ref (ad (nSv sh ri))] : List Value).toArray below meth c H locs 0 0 (cg_Qv dC dI cx ad (fun σ' => (∀ k, k < 4 → σ' (nSv sh ri) k = pu_run (pu_q sh) L va (3 * k + sh)) ∧ (∀ u j, j < 4 → σ' (nSn sh ri) (4 * u + j) = if u = t ∧ pu_sh L j = sh then pu_rs (pu_q sh) L va j else σ (nSn sh ri) (4 * u + j)) ∧ ∀ n, n ≠ (nSv sh ri) → n ≠ (nSn sh ri) → σ' n = σ n) below [.ref (ad (nSt sh ri)), .int (nI t), .ref (ad (nSv sh ri))] s) (F0 m 10 ls []) := by
    intro k
    induction k with
    | zero =>
      intro i τ hik g1 g2 g3 H locs ls hP hS hl
      have eTx : τ (nTx t) 4 = L.length := by rw [g3 _ a0 b0]; exact hlen
      refine lv_iload X.1 X.2.1 d_SS_doOperations_10 (lv_at hl 0 rfl) ?_
      refine lv_aload_n X.1 X.2.1 d_SS_doOperations_12 rfl (lv_at hl 1 rfl) ?_
      refine gg_SS_80 (by omega) X hP d_SS_doOperations_13 ?_
      rw [eTx]
      refine gx_icmp_ge X.1 X.2.1 (tgt := 139) d_SS_doOperations_16 (by decide) (by omega) (by omega) (fun h16 => ?_) (fun h16 => absurd h16 (by omega))
      refine gx_vret X.1 X.2.1 hr hlk hP hS d_SS_doOperations_139 ?_
      have e : L.take i = L := List.take_of_length_le (by omega)
      rw [e] at g1
      refine ⟨g1, fun u j hj => ?_, g3⟩
      rw [g2 u j hj]
      by_cases q : u = t ∧ pu_sh L j = sh
      · rw [if_pos q, if_pos ⟨q.1, by have := pd_sh_lt h0 q.2; omega, q.2⟩]
      · rw [if_neg q, if_neg (fun z => q ⟨z.1, z.2.2⟩)]
    | succ k ih =>
      intro i τ hik g1 g2 g3 H locs ls hP hS hl
      have eTx : τ (nTx t) 4 = L.length := by rw [g3 _ a0 b0]; exact hlen
      refine lv_iload X.1 X.2.1 d_SS_doOperations_10 (lv_at hl 0 rfl) ?_
      refine lv_aload_n X.1 X.2.1 d_SS_doOperations_12 rfl (lv_at hl 1 rfl) ?_
      refine gg_SS_80 (by omega) X hP d_SS_doOperations_13 ?_
      rw [eTx]
      refine gx_icmp_ge X.1 X.2.1 (tgt := 139) d_SS_doOperations_16 (by decide) (by omega) (by omega) (fun h16 => absurd h16 (by omega)) (fun h16 => ?_)
      obtain ⟨o, ho⟩ : ∃ o, L[i]? = some o := ⟨L[i], List.getElem?_eq_getElem (by omega)⟩
      obtain ⟨x1, x2, x3⟩ := hops i o ho
      obtain ⟨y1, y2⟩ := hko o (List.mem_of_getElem? ho)
      have eTy : τ (nTy t) i = o.2.1 := by rw [g3 _ a2 b2]; exact x2
      have eTk : τ (nTk t) i = o.1 := by rw [g3 _ a1 b1]; exact x1
      have eTa : τ (nTa t) i = o.2.2 := by rw [g3 _ a3 b3]; exact x3
      have eSt : τ (nSt sh ri) 0 = sh := by rw [g3 _ a4 b4]; exact hs0
      generalize hw : pu_run (pu_q sh) (L.take i) va = w at g1
      have hrun : pu_run (pu_q sh) (L.take (i + 1)) va = if pu_q sh o.2.1 = true then pu_do w o else w := by rw [pu_take_succ ho, pu_run_snoc, hw]
      have hrs : pu_rs (pu_q sh) L va i = pu_res w o := by rw [pu_rs_eq _ _ _ _ _ ho, hw]
      refine lv_aload_n X.1 X.2.1 d_SS_doOperations_19 rfl (lv_at hl 1 rfl) ?_
      refine gg_SS_83 (by omega) X hP d_SS_doOperations_20 ?_
      refine lv_iload X.1 X.2.1 d_SS_doOperations_23 (lv_at hl 0 rfl) ?_
      refine ga_nTy (by omega) (by omega) X hP d_SS_doOperations_25 ?_
      rw [eTy]
      refine lv_iconst (v := nI 3) X.1 X.2.1 d_SS_doOperations_26 (by decide) ?_
      refine gx_irem X.1 X.2.1 d_SS_doOperations_27 (by omega) (by decide) (by decide) ?_
      refine lv_aload_n X.1 X.2.1 d_SS_doOperations_28 rfl (lv_at hl 2 rfl) ?_
      refine gg_SS_34 (by omega) (by omega) X hP d_SS_doOperations_29 ?_
      rw [eSt]
      refine gx_icmp_ne X.1 X.2.1 (tgt := 133) d_SS_doOperations_32 (by decide) (by omega) (by omega) (fun h32 => ?_) (fun h32 => ?_)
      · skip
        refine lv_iinc (k := 0) (v := nI (i + 1)) X.1 X.2.1 d_SS_doOperations_133 hl rfl (nI_add _ _) (by decide) rfl (fun ls hl => ?_)
        have hl : lv_has ls 7 [(4, .int (nI (i + 1))), (3, .ref (ad (nTx t))), (0, .ref (ad (nSt sh ri))), (1, .int (nI t)), (2, .ref (ad (nSv sh ri)))] := hl
        refine lv_goto (tgt := 10) X.1 X.2.1 d_SS_doOperations_136 (by decide) ?_
        refine ih (i + 1) _ (by omega) ?_ ?_ ?_ H locs ls hP hS (lv_sub hl [0, 1, 2, 3, 4] rfl)
        · rw [hrun, if_neg (by unfold pu_q; simp; exact h32)]; exact g1
        · exact pd_no' g2 (by rw [pd_sh ho]; exact h32)
        · exact g3
      · skip
        refine lv_aload_n X.1 X.2.1 d_SS_doOperations_35 rfl (lv_at hl 1 rfl) ?_
        refine gg_SS_83 (by omega) X hP d_SS_doOperations_36 ?_
        refine lv_iload X.1 X.2.1 d_SS_doOperations_39 (lv_at hl 0 rfl) ?_
        refine ga_nTy (by omega) (by omega) X hP d_SS_doOperations_41 ?_
        rw [eTy]
        refine lv_iconst (v := nI 3) X.1 X.2.1 d_SS_doOperations_42 (by decide) ?_
        refine gx_idiv X.1 X.2.1 d_SS_doOperations_43 (by omega) (by decide) (by decide) ?_
        refine lv_istore X.1 X.2.1 d_SS_doOperations_44 hl (by decide) rfl (fun ls hl => ?_)
        have hl : lv_has ls 7 [(5, .int (nI (o.2.1 / 3))), (4, .int (nI i)), (3, .ref (ad (nTx t))), (0, .ref (ad (nSt sh ri))), (1, .int (nI t)), (2, .ref (ad (nSv sh ri)))] := hl
        refine lv_aload_n X.1 X.2.1 d_SS_doOperations_46 rfl (lv_at hl 5 rfl) ?_
        refine lv_iload X.1 X.2.1 d_SS_doOperations_47 (lv_at hl 0 rfl) ?_
        refine ga_nSv (by omega) (by omega) (by omega) X hP d_SS_doOperations_49 ?_
        have eC : τ (nSv sh ri) (o.2.1 / 3) = w o.2.1 := by rw [g1 _ (by omega)]; congr 1; omega
        rw [eC]
        refine lv_istore X.1 X.2.1 d_SS_doOperations_50 hl (by decide) rfl (fun ls hl => ?_)
        have hl : lv_has ls 7 [(6, .int (nI (w o.2.1))), (5, .int (nI (o.2.1 / 3))), (4, .int (nI i)), (3, .ref (ad (nTx t))), (0, .ref (ad (nSt sh ri))), (1, .int (nI t)), (2, .ref (ad (nSv sh ri)))] := hl
        refine lv_aload_n X.1 X.2.1 d_SS_doOperations_52 rfl (lv_at hl 3 rfl) ?_
        refine gg_SS_86 (by omega) X hP d_SS_doOperations_53 ?_
        refine lv_iload X.1 X.2.1 d_SS_doOperations_56 (lv_at hl 2 rfl) ?_
        refine ga_nTk (by omega) (by omega) X hP d_SS_doOperations_58 ?_
        rw [eTk]
        refine lv_iconst (v := nI 1) X.1 X.2.1 d_SS_doOperations_59 (by decide) ?_
        refine gx_icmp_ne X.1 X.2.1 (tgt := 77) d_SS_doOperations_60 (by decide) (by omega) (by omega) (fun h60 => ?_) (fun h60 => ?_)
        · skip
          refine lv_aload_n X.1 X.2.1 d_SS_doOperations_77 rfl (lv_at hl 3 rfl) ?_
          refine gg_SS_86 (by omega) X hP d_SS_doOperations_78 ?_
          refine lv_iload X.1 X.2.1 d_SS_doOperations_81 (lv_at hl 2 rfl) ?_
          refine ga_nTk (by omega) (by omega) X hP d_SS_doOperations_83 ?_
          rw [eTk]
          refine lv_iconst (v := nI 2) X.1 X.2.1 d_SS_doOperations_84 (by decide) ?_
          refine gx_icmp_ne X.1 X.2.1 (tgt := 102) d_SS_doOperations_85 (by decide) (by omega) (by omega) (fun h85 => ?_) (fun h85 => ?_)
          · skip
            refine lv_aload_n X.1 X.2.1 d_SS_doOperations_102 rfl (lv_at hl 4 rfl) ?_
            refine gg_SS_31 (by omega) (by omega) X hP d_SS_doOperations_103 ?_
            refine lv_iload_n X.1 X.2.1 d_SS_doOperations_106 rfl (lv_at hl 5 rfl) ?_
            refine lv_iconst (v := nI 4) X.1 X.2.1 d_SS_doOperations_107 (by decide) ?_
            refine gx_imul X.1 X.2.1 d_SS_doOperations_108 ?_
            refine lv_iload X.1 X.2.1 d_SS_doOperations_109 (lv_at hl 2 rfl) ?_
            refine gx_iadd X.1 X.2.1 d_SS_doOperations_111 ?_
            refine lv_aload_n X.1 X.2.1 d_SS_doOperations_112 rfl (lv_at hl 3 rfl) ?_
            refine gg_SS_86 (by omega) X hP d_SS_doOperations_113 ?_
            refine lv_iload X.1 X.2.1 d_SS_doOperations_116 (lv_at hl 2 rfl) ?_
            refine ga_nTk (by omega) (by omega) X hP d_SS_doOperations_118 ?_
            first | rw [eTk] | rw [gx_w_row _ _ _ a1, eTk]
            refine lv_iconst (v := nI 2) X.1 X.2.1 d_SS_doOperations_119 (by decide) ?_
            refine gx_icmp_ne X.1 X.2.1 (tgt := 130) d_SS_doOperations_120 (by decide) (by omega) (by omega) (fun h120 => ?_) (fun h120 => absurd h120 (by omega))
            refine lv_iload X.1 X.2.1 d_SS_doOperations_130 (lv_at hl 0 rfl) ?_
            refine gs_nSn (by omega) (by omega) (by omega) X hJ hP hS d_SS_doOperations_132 (fun H locs hP hS => ?_)
            refine lv_iinc (k := 2) (v := nI (i + 1)) X.1 X.2.1 d_SS_doOperations_133 hl rfl (nI_add _ _) (by decide) rfl (fun ls hl => ?_)
            have hl : lv_has ls 7 [(4, .int (nI (i + 1))), (6, .int (nI (w o.2.1))), (5, .int (nI (o.2.1 / 3))), (3, .ref (ad (nTx t))), (0, .ref (ad (nSt sh ri))), (1, .int (nI t)), (2, .ref (ad (nSv sh ri)))] := hl
            refine lv_goto (tgt := 10) X.1 X.2.1 d_SS_doOperations_136 (by decide) ?_
            refine ih (i + 1) _ (by omega) ?_ ?_ ?_ H locs ls hP hS (lv_sub hl [0, 3, 4, 5, 6] rfl)
            · rw [hrun, if_pos (by unfold pu_q; simp; exact h32), gx_w_row _ _ _ eCN]; exact pd_do0 g1 h60 h85
            · rw [gx_w_rs]
              exact pd_no g2 (by omega) (by rw [pd_sh ho]; exact h32) (by rw [hrs]; unfold pu_res; rw [if_neg h85])
            · intro n n1 n2
              rw [gx_w_row _ _ _ n2]; exact g3 n n1 n2
          · skip
            refine lv_aload_n X.1 X.2.1 d_SS_doOperations_88 rfl (lv_at hl 6 rfl) ?_
            refine lv_iload X.1 X.2.1 d_SS_doOperations_89 (lv_at hl 1 rfl) ?_
            refine lv_iload X.1 X.2.1 d_SS_doOperations_91 (lv_at hl 0 rfl) ?_
            refine lv_aload_n X.1 X.2.1 d_SS_doOperations_93 rfl (lv_at hl 3 rfl) ?_
            refine gg_SS_89 (by omega) X hP d_SS_doOperations_94 ?_
            refine lv_iload X.1 X.2.1 d_SS_doOperations_97 (lv_at hl 2 rfl) ?_
            refine ga_nTa (by omega) (by omega) X hP d_SS_doOperations_99 ?_
            rw [eTa]
            refine gx_iadd X.1 X.2.1 d_SS_doOperations_100 ?_
            refine gs_nSv (by omega) (by omega) (by omega) X hJ hP hS d_SS_doOperations_101 (fun H locs hP hS => ?_)
            refine lv_aload_n X.1 X.2.1 d_SS_doOperations_102 rfl (lv_at hl 4 rfl) ?_
            refine gg_SS_31 (by omega) (by omega) X hP d_SS_doOperations_103 ?_
            refine lv_iload_n X.1 X.2.1 d_SS_doOperations_106 rfl (lv_at hl 5 rfl) ?_
            refine lv_iconst (v := nI 4) X.1 X.2.1 d_SS_doOperations_107 (by decide) ?_
            refine gx_imul X.1 X.2.1 d_SS_doOperations_108 ?_
            refine lv_iload X.1 X.2.1 d_SS_doOperations_109 (lv_at hl 2 rfl) ?_
            refine gx_iadd X.1 X.2.1 d_SS_doOperations_111 ?_
            refine lv_aload_n X.1 X.2.1 d_SS_doOperations_112 rfl (lv_at hl 3 rfl) ?_
            refine gg_SS_86 (by omega) X hP d_SS_doOperations_113 ?_
            refine lv_iload X.1 X.2.1 d_SS_doOperations_116 (lv_at hl 2 rfl) ?_
            refine ga_nTk (by omega) (by omega) X hP d_SS_doOperations_118 ?_
            first | rw [eTk] | rw [gx_w_row _ _ _ a1, eTk]
            refine lv_iconst (v := nI 2) X.1 X.2.1 d_SS_doOperations_119 (by decide) ?_
            refine gx_icmp_ne X.1 X.2.1 (tgt := 130) d_SS_doOperations_120 (by decide) (by omega) (by omega) (fun h120 => absurd h120 (by omega)) (fun h120 => ?_)
            refine lv_aload_n X.1 X.2.1 d_SS_doOperations_123 rfl (lv_at hl 6 rfl) ?_
            refine lv_iload X.1 X.2.1 d_SS_doOperations_124 (lv_at hl 1 rfl) ?_
            refine ga_nSv (by omega) (by omega) (by omega) X hP d_SS_doOperations_126 ?_
            rw [gx_w_self]
            refine lv_goto (tgt := 132) X.1 X.2.1 d_SS_doOperations_127 (by decide) ?_
            refine gs_nSn (by omega) (by omega) (by omega) X hJ hP hS d_SS_doOperations_132 (fun H locs hP hS => ?_)
            refine lv_iinc (k := 2) (v := nI (i + 1)) X.1 X.2.1 d_SS_doOperations_133 hl rfl (nI_add _ _) (by decide) rfl (fun ls hl => ?_)
            have hl : lv_has ls 7 [(4, .int (nI (i + 1))), (6, .int (nI (w o.2.1))), (5, .int (nI (o.2.1 / 3))), (3, .ref (ad (nTx t))), (0, .ref (ad (nSt sh ri))), (1, .int (nI t)), (2, .ref (ad (nSv sh ri)))] := hl
            refine lv_goto (tgt := 10) X.1 X.2.1 d_SS_doOperations_136 (by decide) ?_
            refine ih (i + 1) _ (by omega) ?_ ?_ ?_ H locs ls hP hS (lv_sub hl [0, 3, 4, 5, 6] rfl)
            · rw [hrun, if_pos (by unfold pu_q; simp; exact h32), gx_w_row _ _ _ eCN, gx_w_rs]; exact pd_do2 h0 h32 g1 h85
            · rw [gx_w_rs, gx_w_row _ _ _ eCN.symm]
              exact pd_no g2 (by omega) (by rw [pd_sh ho]; exact h32) (by rw [hrs]; unfold pu_res; rw [if_pos h85])
            · intro n n1 n2
              rw [gx_w_row _ _ _ n2, gx_w_row _ _ _ n1]; exact g3 n n1 n2
        · skip
          refine lv_aload_n X.1 X.2.1 d_SS_doOperations_63 rfl (lv_at hl 6 rfl) ?_
          refine lv_iload X.1 X.2.1 d_SS_doOperations_64 (lv_at hl 1 rfl) ?_
          refine lv_aload_n X.1 X.2.1 d_SS_doOperations_66 rfl (lv_at hl 3 rfl) ?_
          refine gg_SS_89 (by omega) X hP d_SS_doOperations_67 ?_
          refine lv_iload X.1 X.2.1 d_SS_doOperations_70 (lv_at hl 2 rfl) ?_
          refine ga_nTa (by omega) (by omega) X hP d_SS_doOperations_72 ?_
          rw [eTa]
          refine gs_nSv (by omega) (by omega) (by omega) X hJ hP hS d_SS_doOperations_73 (fun H locs hP hS => ?_)
          refine lv_goto (tgt := 102) X.1 X.2.1 d_SS_doOperations_74 (by decide) ?_
          refine lv_aload_n X.1 X.2.1 d_SS_doOperations_102 rfl (lv_at hl 4 rfl) ?_
          refine gg_SS_31 (by omega) (by omega) X hP d_SS_doOperations_103 ?_
          refine lv_iload_n X.1 X.2.1 d_SS_doOperations_106 rfl (lv_at hl 5 rfl) ?_
          refine lv_iconst (v := nI 4) X.1 X.2.1 d_SS_doOperations_107 (by decide) ?_
          refine gx_imul X.1 X.2.1 d_SS_doOperations_108 ?_
          refine lv_iload X.1 X.2.1 d_SS_doOperations_109 (lv_at hl 2 rfl) ?_
          refine gx_iadd X.1 X.2.1 d_SS_doOperations_111 ?_
          refine lv_aload_n X.1 X.2.1 d_SS_doOperations_112 rfl (lv_at hl 3 rfl) ?_
          refine gg_SS_86 (by omega) X hP d_SS_doOperations_113 ?_
          refine lv_iload X.1 X.2.1 d_SS_doOperations_116 (lv_at hl 2 rfl) ?_
          refine ga_nTk (by omega) (by omega) X hP d_SS_doOperations_118 ?_
          first | rw [eTk] | rw [gx_w_row _ _ _ a1, eTk]
          refine lv_iconst (v := nI 2) X.1 X.2.1 d_SS_doOperations_119 (by decide) ?_
          refine gx_icmp_ne X.1 X.2.1 (tgt := 130) d_SS_doOperations_120 (by decide) (by omega) (by omega) (fun h120 => ?_) (fun h120 => absurd h120 (by omega))
          refine lv_iload X.1 X.2.1 d_SS_doOperations_130 (lv_at hl 0 rfl) ?_
          refine gs_nSn (by omega) (by omega) (by omega) X hJ hP hS d_SS_doOperations_132 (fun H locs hP hS => ?_)
          refine lv_iinc (k := 2) (v := nI (i + 1)) X.1 X.2.1 d_SS_doOperations_133 hl rfl (nI_add _ _) (by decide) rfl (fun ls hl => ?_)
          have hl : lv_has ls 7 [(4, .int (nI (i + 1))), (6, .int (nI (w o.2.1))), (5, .int (nI (o.2.1 / 3))), (3, .ref (ad (nTx t))), (0, .ref (ad (nSt sh ri))), (1, .int (nI t)), (2, .ref (ad (nSv sh ri)))] := hl
          refine lv_goto (tgt := 10) X.1 X.2.1 d_SS_doOperations_136 (by decide) ?_
          refine ih (i + 1) _ (by omega) ?_ ?_ ?_ H locs ls hP hS (lv_sub hl [0, 3, 4, 5, 6] rfl)
          · rw [hrun, if_pos (by unfold pu_q; simp; exact h32), gx_w_row _ _ _ eCN, gx_w_rs]; exact pd_do1 h0 h32 g1 h60
          · rw [gx_w_rs, gx_w_row _ _ _ eCN.symm]
            exact pd_no g2 (by omega) (by rw [pd_sh ho]; exact h32) (by rw [hrs]; unfold pu_res; rw [if_neg (by omega)])
          · intro n n1 n2
            rw [gx_w_row _ _ _ n2, gx_w_row _ _ _ n1]; exact g3 n n1 n2
  refine lv_aload_n X.1 X.2.1 d_SS_doOperations_0 rfl (lv_at hl 0 rfl) ?_
  refine gg_SS_38 (by omega) (by omega) X hP d_SS_doOperations_1 ?_
  refine lv_iload_n X.1 X.2.1 d_SS_doOperations_4 rfl (lv_at hl 1 rfl) ?_
  refine gr_bk (by omega) X hP d_SS_doOperations_5 ?_
  refine lv_astore_n X.1 X.2.1 d_SS_doOperations_6 rfl hl (by decide) rfl (fun ls hl => ?_)
  have hl : lv_has ls 7 [(3, .ref (ad (nTx t))), (0, .ref (ad (nSt sh ri))), (1, .int (nI t)), (2, .ref (ad (nSv sh ri)))] := hl
  refine lv_iconst (v := nI 0) X.1 X.2.1 d_SS_doOperations_7 (by decide) ?_
  refine lv_istore X.1 X.2.1 d_SS_doOperations_8 hl (by decide) rfl (fun ls hl => ?_)
  have hl : lv_has ls 7 [(4, .int (nI 0)), (3, .ref (ad (nTx t))), (0, .ref (ad (nSt sh ri))), (1, .int (nI t)), (2, .ref (ad (nSv sh ri)))] := hl
  exact lp L.length 0 σ (Nat.zero_add _) hva (fun u j _ => by rw [if_neg (by omega)]) (fun n _ _ => rfl) _ _ ls hP hS (lv_sub hl [0, 1, 2, 3, 4] rfl)
set_option maxRecDepth 100000 in
set_option maxHeartbeats 4000000 in
theorem K_SS_doOperations_d (l : Launch) (dC : Nat → ClassId) (dI : Nat → Nat → Nat) (cx : Nat → ClassId) (ad : Nat → Nat) (hJ : gx_J gx_N ad (gx_A gx_N ad)) (σ : gx_M) (sh ri t : Nat) (L : List pu_Op) (va : Nat → Nat) (h0 : sh < 3) (h1 : ri < 3) (ht : t < 21) (hs0 : σ (nSt sh ri) 0 = sh) (hlen : σ (nTx t) 4 = L.length) (hl4 : L.length ≤ 4) (hops : ∀ i o, L[i]? = some o → σ (nTk t) i = o.1 ∧ σ (nTy t) i = o.2.1 ∧ σ (nTa t) i = o.2.2) (hko : ∀ o, o ∈ L → o.1 < 3 ∧ o.2.1 < 12) (hva : ∀ k, k < 4 → σ (nSd sh ri) k = va (3 * k + sh)) : cg_Mv l dC dI cx ad y_SS_doOperations w_SS_doOperations 0 [.ref (ad (nSt sh ri)), .int (nI t), .ref (ad (nSd sh ri))] σ (fun σ' => (∀ k, k < 4 → σ' (nSd sh ri) k = pu_run (pu_q sh) L va (3 * k + sh)) ∧ (∀ u j, j < 4 → σ' (nSn sh ri) (4 * u + j) = if u = t ∧ pu_sh L j = sh then pu_rs (pu_q sh) L va j else σ (nSn sh ri) (4 * u + j)) ∧ ∀ n, n ≠ (nSd sh ri) → n ≠ (nSn sh ri) → σ' n = σ n) := by
  refine gx_ofW (cc := c_SS_doOperations) (maxL := 7) (ret := (Option.none : Option Jvm.ClassFile.FieldType)) (by decide) rfl (Nat.le_of_ble_eq_true rfl) ?_
  intro p e s m below meth c ls S hr hlk hK hN hl hP
  have X : cg_X c_SS_doOperations "CommitGroups$ShardState" 7 dC dI cx p m c s _ := ⟨S.1, S.2.1, S.2.2.2.1, fun w h => S.2.2.2.2 w (List.mem_cons_of_mem _ h), hK, hN, S.2.2.1⟩
  have hS : va_S (gx_A gx_N ad) s.heap s.heap [] := va_S.rf
  have hl : lv_has ls 7 [(0, .ref (ad (nSt sh ri))), (1, .int (nI t)), (2, .ref (ad (nSd sh ri)))] := hl
  have a0 : nTx t ≠ (nSd sh ri) := by unfold nTx nSd; omega
  have b0 : nTx t ≠ (nSn sh ri) := by unfold nTx nSn; omega
  have a1 : nTk t ≠ (nSd sh ri) := by unfold nTk nSd; omega
  have b1 : nTk t ≠ (nSn sh ri) := by unfold nTk nSn; omega
  have a2 : nTy t ≠ (nSd sh ri) := by unfold nTy nSd; omega
  have b2 : nTy t ≠ (nSn sh ri) := by unfold nTy nSn; omega
  have a3 : nTa t ≠ (nSd sh ri) := by unfold nTa nSd; omega
  have b3 : nTa t ≠ (nSn sh ri) := by unfold nTa nSn; omega
  have a4 : nSt sh ri ≠ (nSd sh ri) := by rw [nSt_num h0]; unfold nSd; omega
  have b4 : nSt sh ri ≠ (nSn sh ri) := by rw [nSt_num h0]; unfold nSn; omega
  have eCN : (nSd sh ri) ≠ (nSn sh ri) := by unfold nSd nSn; omega
  have lp : ∀ (k : Nat) (i : Nat) (τ : gx_M), i + k = L.length → (∀ k, k < 4 → τ (nSd sh ri) k = pu_run (pu_q sh) (L.take i) va (3 * k + sh)) → (∀ u j, j < 4 → τ (nSn sh ri) (4 * u + j) = if u = t ∧ j < i ∧ pu_sh L j = sh then pu_rs (pu_q sh) L va j else σ (nSn sh ri) (4 * u + j)) → (∀ n, n ≠ (nSd sh ri) → n ≠ (nSn sh ri) → τ n = σ n) → ∀ (H : Heap) (locs : List Loc) (ls : Array Slot), cg_P dC dI cx ad τ H → va_S (gx_A gx_N ad) s.heap H locs → lv_has ls 7 [(4, .int (nI i)), (3, .ref (ad (nTx t))), (0, .ref (ad (nSt sh ri))), (1, .int (nI t)), (2, .ref (ad (nSd sh ri)))] → W p l e (rmL 0) s m ([.ref (ad (nSt sh ri)), .int (nI t), .ref (ad (nSd sh ri))] : List Value).toArray below meth c H locs 0 0 (cg_Qv dC dI cx ad (fun σ' => (∀ k, k < 4 → σ' (nSd sh ri) k = pu_run (pu_q sh) L va (3 * k + sh)) ∧ (∀ u j, j < 4 → σ' (nSn sh ri) (4 * u + j) = if u = t ∧ pu_sh L j = sh then pu_rs (pu_q sh) L va j else σ (nSn sh ri) (4 * u + j)) ∧ ∀ n, n ≠ (nSd sh ri) → n ≠ (nSn sh ri) → σ' n = σ n) below [.ref (ad (nSt sh ri)), .int (nI t), .ref (ad (nSd sh ri))] s) (F0 m 10 ls []) := by
    intro k
    induction k with
    | zero =>
      intro i τ hik g1 g2 g3 H locs ls hP hS hl
      have eTx : τ (nTx t) 4 = L.length := by rw [g3 _ a0 b0]; exact hlen
      refine lv_iload X.1 X.2.1 d_SS_doOperations_10 (lv_at hl 0 rfl) ?_
      refine lv_aload_n X.1 X.2.1 d_SS_doOperations_12 rfl (lv_at hl 1 rfl) ?_
      refine gg_SS_80 (by omega) X hP d_SS_doOperations_13 ?_
      rw [eTx]
      refine gx_icmp_ge X.1 X.2.1 (tgt := 139) d_SS_doOperations_16 (by decide) (by omega) (by omega) (fun h16 => ?_) (fun h16 => absurd h16 (by omega))
      refine gx_vret X.1 X.2.1 hr hlk hP hS d_SS_doOperations_139 ?_
      have e : L.take i = L := List.take_of_length_le (by omega)
      rw [e] at g1
      refine ⟨g1, fun u j hj => ?_, g3⟩
      rw [g2 u j hj]
      by_cases q : u = t ∧ pu_sh L j = sh
      · rw [if_pos q, if_pos ⟨q.1, by have := pd_sh_lt h0 q.2; omega, q.2⟩]
      · rw [if_neg q, if_neg (fun z => q ⟨z.1, z.2.2⟩)]
    | succ k ih =>
      intro i τ hik g1 g2 g3 H locs ls hP hS hl
      have eTx : τ (nTx t) 4 = L.length := by rw [g3 _ a0 b0]; exact hlen
      refine lv_iload X.1 X.2.1 d_SS_doOperations_10 (lv_at hl 0 rfl) ?_
      refine lv_aload_n X.1 X.2.1 d_SS_doOperations_12 rfl (lv_at hl 1 rfl) ?_
      refine gg_SS_80 (by omega) X hP d_SS_doOperations_13 ?_
      rw [eTx]
      refine gx_icmp_ge X.1 X.2.1 (tgt := 139) d_SS_doOperations_16 (by decide) (by omega) (by omega) (fun h16 => absurd h16 (by omega)) (fun h16 => ?_)
      obtain ⟨o, ho⟩ : ∃ o, L[i]? = some o := ⟨L[i], List.getElem?_eq_getElem (by omega)⟩
      obtain ⟨x1, x2, x3⟩ := hops i o ho
      obtain ⟨y1, y2⟩ := hko o (List.mem_of_getElem? ho)
      have eTy : τ (nTy t) i = o.2.1 := by rw [g3 _ a2 b2]; exact x2
      have eTk : τ (nTk t) i = o.1 := by rw [g3 _ a1 b1]; exact x1
      have eTa : τ (nTa t) i = o.2.2 := by rw [g3 _ a3 b3]; exact x3
      have eSt : τ (nSt sh ri) 0 = sh := by rw [g3 _ a4 b4]; exact hs0
      generalize hw : pu_run (pu_q sh) (L.take i) va = w at g1
      have hrun : pu_run (pu_q sh) (L.take (i + 1)) va = if pu_q sh o.2.1 = true then pu_do w o else w := by rw [pu_take_succ ho, pu_run_snoc, hw]
      have hrs : pu_rs (pu_q sh) L va i = pu_res w o := by rw [pu_rs_eq _ _ _ _ _ ho, hw]
      refine lv_aload_n X.1 X.2.1 d_SS_doOperations_19 rfl (lv_at hl 1 rfl) ?_
      refine gg_SS_83 (by omega) X hP d_SS_doOperations_20 ?_
      refine lv_iload X.1 X.2.1 d_SS_doOperations_23 (lv_at hl 0 rfl) ?_
      refine ga_nTy (by omega) (by omega) X hP d_SS_doOperations_25 ?_
      rw [eTy]
      refine lv_iconst (v := nI 3) X.1 X.2.1 d_SS_doOperations_26 (by decide) ?_
      refine gx_irem X.1 X.2.1 d_SS_doOperations_27 (by omega) (by decide) (by decide) ?_
      refine lv_aload_n X.1 X.2.1 d_SS_doOperations_28 rfl (lv_at hl 2 rfl) ?_
      refine gg_SS_34 (by omega) (by omega) X hP d_SS_doOperations_29 ?_
      rw [eSt]
      refine gx_icmp_ne X.1 X.2.1 (tgt := 133) d_SS_doOperations_32 (by decide) (by omega) (by omega) (fun h32 => ?_) (fun h32 => ?_)
      · skip
        refine lv_iinc (k := 0) (v := nI (i + 1)) X.1 X.2.1 d_SS_doOperations_133 hl rfl (nI_add _ _) (by decide) rfl (fun ls hl => ?_)
        have hl : lv_has ls 7 [(4, .int (nI (i + 1))), (3, .ref (ad (nTx t))), (0, .ref (ad (nSt sh ri))), (1, .int (nI t)), (2, .ref (ad (nSd sh ri)))] := hl
        refine lv_goto (tgt := 10) X.1 X.2.1 d_SS_doOperations_136 (by decide) ?_
        refine ih (i + 1) _ (by omega) ?_ ?_ ?_ H locs ls hP hS (lv_sub hl [0, 1, 2, 3, 4] rfl)
        · rw [hrun, if_neg (by unfold pu_q; simp; exact h32)]; exact g1
        · exact pd_no' g2 (by rw [pd_sh ho]; exact h32)
        · exact g3
      · skip
        refine lv_aload_n X.1 X.2.1 d_SS_doOperations_35 rfl (lv_at hl 1 rfl) ?_
        refine gg_SS_83 (by omega) X hP d_SS_doOperations_36 ?_
        refine lv_iload X.1 X.2.1 d_SS_doOperations_39 (lv_at hl 0 rfl) ?_
        refine ga_nTy (by omega) (by omega) X hP d_SS_doOperations_41 ?_
        rw [eTy]
        refine lv_iconst (v := nI 3) X.1 X.2.1 d_SS_doOperations_42 (by decide) ?_
        refine gx_idiv X.1 X.2.1 d_SS_doOperations_43 (by omega) (by decide) (by decide) ?_
        refine lv_istore X.1 X.2.1 d_SS_doOperations_44 hl (by decide) rfl (fun ls hl => ?_)
        have hl : lv_has ls 7 [(5, .int (nI (o.2.1 / 3))), (4, .int (nI i)), (3, .ref (ad (nTx t))), (0, .ref (ad (nSt sh ri))), (1, .int (nI t)), (2, .ref (ad (nSd sh ri)))] := hl
        refine lv_aload_n X.1 X.2.1 d_SS_doOperations_46 rfl (lv_at hl 5 rfl) ?_
        refine lv_iload X.1 X.2.1 d_SS_doOperations_47 (lv_at hl 0 rfl) ?_
        refine ga_nSd (by omega) (by omega) (by omega) X hP d_SS_doOperations_49 ?_
        have eC : τ (nSd sh ri) (o.2.1 / 3) = w o.2.1 := by rw [g1 _ (by omega)]; congr 1; omega
        rw [eC]
        refine lv_istore X.1 X.2.1 d_SS_doOperations_50 hl (by decide) rfl (fun ls hl => ?_)
        have hl : lv_has ls 7 [(6, .int (nI (w o.2.1))), (5, .int (nI (o.2.1 / 3))), (4, .int (nI i)), (3, .ref (ad (nTx t))), (0, .ref (ad (nSt sh ri))), (1, .int (nI t)), (2, .ref (ad (nSd sh ri)))] := hl
        refine lv_aload_n X.1 X.2.1 d_SS_doOperations_52 rfl (lv_at hl 3 rfl) ?_
        refine gg_SS_86 (by omega) X hP d_SS_doOperations_53 ?_
        refine lv_iload X.1 X.2.1 d_SS_doOperations_56 (lv_at hl 2 rfl) ?_
        refine ga_nTk (by omega) (by omega) X hP d_SS_doOperations_58 ?_
        rw [eTk]
        refine lv_iconst (v := nI 1) X.1 X.2.1 d_SS_doOperations_59 (by decide) ?_
        refine gx_icmp_ne X.1 X.2.1 (tgt := 77) d_SS_doOperations_60 (by decide) (by omega) (by omega) (fun h60 => ?_) (fun h60 => ?_)
        · skip
          refine lv_aload_n X.1 X.2.1 d_SS_doOperations_77 rfl (lv_at hl 3 rfl) ?_
          refine gg_SS_86 (by omega) X hP d_SS_doOperations_78 ?_
          refine lv_iload X.1 X.2.1 d_SS_doOperations_81 (lv_at hl 2 rfl) ?_
          refine ga_nTk (by omega) (by omega) X hP d_SS_doOperations_83 ?_
          rw [eTk]
          refine lv_iconst (v := nI 2) X.1 X.2.1 d_SS_doOperations_84 (by decide) ?_
          refine gx_icmp_ne X.1 X.2.1 (tgt := 102) d_SS_doOperations_85 (by decide) (by omega) (by omega) (fun h85 => ?_) (fun h85 => ?_)
          · skip
            refine lv_aload_n X.1 X.2.1 d_SS_doOperations_102 rfl (lv_at hl 4 rfl) ?_
            refine gg_SS_31 (by omega) (by omega) X hP d_SS_doOperations_103 ?_
            refine lv_iload_n X.1 X.2.1 d_SS_doOperations_106 rfl (lv_at hl 5 rfl) ?_
            refine lv_iconst (v := nI 4) X.1 X.2.1 d_SS_doOperations_107 (by decide) ?_
            refine gx_imul X.1 X.2.1 d_SS_doOperations_108 ?_
            refine lv_iload X.1 X.2.1 d_SS_doOperations_109 (lv_at hl 2 rfl) ?_
            refine gx_iadd X.1 X.2.1 d_SS_doOperations_111 ?_
            refine lv_aload_n X.1 X.2.1 d_SS_doOperations_112 rfl (lv_at hl 3 rfl) ?_
            refine gg_SS_86 (by omega) X hP d_SS_doOperations_113 ?_
            refine lv_iload X.1 X.2.1 d_SS_doOperations_116 (lv_at hl 2 rfl) ?_
            refine ga_nTk (by omega) (by omega) X hP d_SS_doOperations_118 ?_
            first | rw [eTk] | rw [gx_w_row _ _ _ a1, eTk]
            refine lv_iconst (v := nI 2) X.1 X.2.1 d_SS_doOperations_119 (by decide) ?_
            refine gx_icmp_ne X.1 X.2.1 (tgt := 130) d_SS_doOperations_120 (by decide) (by omega) (by omega) (fun h120 => ?_) (fun h120 => absurd h120 (by omega))
            refine lv_iload X.1 X.2.1 d_SS_doOperations_130 (lv_at hl 0 rfl) ?_
            refine gs_nSn (by omega) (by omega) (by omega) X hJ hP hS d_SS_doOperations_132 (fun H locs hP hS => ?_)
            refine lv_iinc (k := 2) (v := nI (i + 1)) X.1 X.2.1 d_SS_doOperations_133 hl rfl (nI_add _ _) (by decide) rfl (fun ls hl => ?_)
            have hl : lv_has ls 7 [(4, .int (nI (i + 1))), (6, .int (nI (w o.2.1))), (5, .int (nI (o.2.1 / 3))), (3, .ref (ad (nTx t))), (0, .ref (ad (nSt sh ri))), (1, .int (nI t)), (2, .ref (ad (nSd sh ri)))] := hl
            refine lv_goto (tgt := 10) X.1 X.2.1 d_SS_doOperations_136 (by decide) ?_
            refine ih (i + 1) _ (by omega) ?_ ?_ ?_ H locs ls hP hS (lv_sub hl [0, 3, 4, 5, 6] rfl)
            · rw [hrun, if_pos (by unfold pu_q; simp; exact h32), gx_w_row _ _ _ eCN]; exact pd_do0 g1 h60 h85
            · rw [gx_w_rs]
              exact pd_no g2 (by omega) (by rw [pd_sh ho]; exact h32) (by rw [hrs]; unfold pu_res; rw [if_neg h85])
            · intro n n1 n2
              rw [gx_w_row _ _ _ n2]; exact g3 n n1 n2
          · skip
            refine lv_aload_n X.1 X.2.1 d_SS_doOperations_88 rfl (lv_at hl 6 rfl) ?_
            refine lv_iload X.1 X.2.1 d_SS_doOperations_89 (lv_at hl 1 rfl) ?_
            refine lv_iload X.1 X.2.1 d_SS_doOperations_91 (lv_at hl 0 rfl) ?_
            refine lv_aload_n X.1 X.2.1 d_SS_doOperations_93 rfl (lv_at hl 3 rfl) ?_
            refine gg_SS_89 (by omega) X hP d_SS_doOperations_94 ?_
            refine lv_iload X.1 X.2.1 d_SS_doOperations_97 (lv_at hl 2 rfl) ?_
            refine ga_nTa (by omega) (by omega) X hP d_SS_doOperations_99 ?_
            rw [eTa]
            refine gx_iadd X.1 X.2.1 d_SS_doOperations_100 ?_
            refine gs_nSd (by omega) (by omega) (by omega) X hJ hP hS d_SS_doOperations_101 (fun H locs hP hS => ?_)
            refine lv_aload_n X.1 X.2.1 d_SS_doOperations_102 rfl (lv_at hl 4 rfl) ?_
            refine gg_SS_31 (by omega) (by omega) X hP d_SS_doOperations_103 ?_
            refine lv_iload_n X.1 X.2.1 d_SS_doOperations_106 rfl (lv_at hl 5 rfl) ?_
            refine lv_iconst (v := nI 4) X.1 X.2.1 d_SS_doOperations_107 (by decide) ?_
            refine gx_imul X.1 X.2.1 d_SS_doOperations_108 ?_
            refine lv_iload X.1 X.2.1 d_SS_doOperations_109 (lv_at hl 2 rfl) ?_
            refine gx_iadd X.1 X.2.1 d_SS_doOperations_111 ?_
            refine lv_aload_n X.1 X.2.1 d_SS_doOperations_112 rfl (lv_at hl 3 rfl) ?_
            refine gg_SS_86 (by omega) X hP d_SS_doOperations_113 ?_
            refine lv_iload X.1 X.2.1 d_SS_doOperations_116 (lv_at hl 2 rfl) ?_
            refine ga_nTk (by omega) (by omega) X hP d_SS_doOperations_118 ?_
            first | rw [eTk] | rw [gx_w_row _ _ _ a1, eTk]
            refine lv_iconst (v := nI 2) X.1 X.2.1 d_SS_doOperations_119 (by decide) ?_
            refine gx_icmp_ne X.1 X.2.1 (tgt := 130) d_SS_doOperations_120 (by decide) (by omega) (by omega) (fun h120 => absurd h120 (by omega)) (fun h120 => ?_)
            refine lv_aload_n X.1 X.2.1 d_SS_doOperations_123 rfl (lv_at hl 6 rfl) ?_
            refine lv_iload X.1 X.2.1 d_SS_doOperations_124 (lv_at hl 1 rfl) ?_
            refine ga_nSd (by omega) (by omega) (by omega) X hP d_SS_doOperations_126 ?_
            rw [gx_w_self]
            refine lv_goto (tgt := 132) X.1 X.2.1 d_SS_doOperations_127 (by decide) ?_
            refine gs_nSn (by omega) (by omega) (by omega) X hJ hP hS d_SS_doOperations_132 (fun H locs hP hS => ?_)
            refine lv_iinc (k := 2) (v := nI (i + 1)) X.1 X.2.1 d_SS_doOperations_133 hl rfl (nI_add _ _) (by decide) rfl (fun ls hl => ?_)
            have hl : lv_has ls 7 [(4, .int (nI (i + 1))), (6, .int (nI (w o.2.1))), (5, .int (nI (o.2.1 / 3))), (3, .ref (ad (nTx t))), (0, .ref (ad (nSt sh ri))), (1, .int (nI t)), (2, .ref (ad (nSd sh ri)))] := hl
            refine lv_goto (tgt := 10) X.1 X.2.1 d_SS_doOperations_136 (by decide) ?_
            refine ih (i + 1) _ (by omega) ?_ ?_ ?_ H locs ls hP hS (lv_sub hl [0, 3, 4, 5, 6] rfl)
            · rw [hrun, if_pos (by unfold pu_q; simp; exact h32), gx_w_row _ _ _ eCN, gx_w_rs]; exact pd_do2 h0 h32 g1 h85
            · rw [gx_w_rs, gx_w_row _ _ _ eCN.symm]
              exact pd_no g2 (by omega) (by rw [pd_sh ho]; exact h32) (by rw [hrs]; unfold pu_res; rw [if_pos h85])
            · intro n n1 n2
              rw [gx_w_row _ _ _ n2, gx_w_row _ _ _ n1]; exact g3 n n1 n2
        · skip
          refine lv_aload_n X.1 X.2.1 d_SS_doOperations_63 rfl (lv_at hl 6 rfl) ?_
          refine lv_iload X.1 X.2.1 d_SS_doOperations_64 (lv_at hl 1 rfl) ?_
          refine lv_aload_n X.1 X.2.1 d_SS_doOperations_66 rfl (lv_at hl 3 rfl) ?_
          refine gg_SS_89 (by omega) X hP d_SS_doOperations_67 ?_
          refine lv_iload X.1 X.2.1 d_SS_doOperations_70 (lv_at hl 2 rfl) ?_
          refine ga_nTa (by omega) (by omega) X hP d_SS_doOperations_72 ?_
          rw [eTa]
          refine gs_nSd (by omega) (by omega) (by omega) X hJ hP hS d_SS_doOperations_73 (fun H locs hP hS => ?_)
          refine lv_goto (tgt := 102) X.1 X.2.1 d_SS_doOperations_74 (by decide) ?_
          refine lv_aload_n X.1 X.2.1 d_SS_doOperations_102 rfl (lv_at hl 4 rfl) ?_
          refine gg_SS_31 (by omega) (by omega) X hP d_SS_doOperations_103 ?_
          refine lv_iload_n X.1 X.2.1 d_SS_doOperations_106 rfl (lv_at hl 5 rfl) ?_
          refine lv_iconst (v := nI 4) X.1 X.2.1 d_SS_doOperations_107 (by decide) ?_
          refine gx_imul X.1 X.2.1 d_SS_doOperations_108 ?_
          refine lv_iload X.1 X.2.1 d_SS_doOperations_109 (lv_at hl 2 rfl) ?_
          refine gx_iadd X.1 X.2.1 d_SS_doOperations_111 ?_
          refine lv_aload_n X.1 X.2.1 d_SS_doOperations_112 rfl (lv_at hl 3 rfl) ?_
          refine gg_SS_86 (by omega) X hP d_SS_doOperations_113 ?_
          refine lv_iload X.1 X.2.1 d_SS_doOperations_116 (lv_at hl 2 rfl) ?_
          refine ga_nTk (by omega) (by omega) X hP d_SS_doOperations_118 ?_
          first | rw [eTk] | rw [gx_w_row _ _ _ a1, eTk]
          refine lv_iconst (v := nI 2) X.1 X.2.1 d_SS_doOperations_119 (by decide) ?_
          refine gx_icmp_ne X.1 X.2.1 (tgt := 130) d_SS_doOperations_120 (by decide) (by omega) (by omega) (fun h120 => ?_) (fun h120 => absurd h120 (by omega))
          refine lv_iload X.1 X.2.1 d_SS_doOperations_130 (lv_at hl 0 rfl) ?_
          refine gs_nSn (by omega) (by omega) (by omega) X hJ hP hS d_SS_doOperations_132 (fun H locs hP hS => ?_)
          refine lv_iinc (k := 2) (v := nI (i + 1)) X.1 X.2.1 d_SS_doOperations_133 hl rfl (nI_add _ _) (by decide) rfl (fun ls hl => ?_)
          have hl : lv_has ls 7 [(4, .int (nI (i + 1))), (6, .int (nI (w o.2.1))), (5, .int (nI (o.2.1 / 3))), (3, .ref (ad (nTx t))), (0, .ref (ad (nSt sh ri))), (1, .int (nI t)), (2, .ref (ad (nSd sh ri)))] := hl
          refine lv_goto (tgt := 10) X.1 X.2.1 d_SS_doOperations_136 (by decide) ?_
          refine ih (i + 1) _ (by omega) ?_ ?_ ?_ H locs ls hP hS (lv_sub hl [0, 3, 4, 5, 6] rfl)
          · rw [hrun, if_pos (by unfold pu_q; simp; exact h32), gx_w_row _ _ _ eCN, gx_w_rs]; exact pd_do1 h0 h32 g1 h60
          · rw [gx_w_rs, gx_w_row _ _ _ eCN.symm]
            exact pd_no g2 (by omega) (by rw [pd_sh ho]; exact h32) (by rw [hrs]; unfold pu_res; rw [if_neg (by omega)])
          · intro n n1 n2
            rw [gx_w_row _ _ _ n2, gx_w_row _ _ _ n1]; exact g3 n n1 n2
  refine lv_aload_n X.1 X.2.1 d_SS_doOperations_0 rfl (lv_at hl 0 rfl) ?_
  refine gg_SS_38 (by omega) (by omega) X hP d_SS_doOperations_1 ?_
  refine lv_iload_n X.1 X.2.1 d_SS_doOperations_4 rfl (lv_at hl 1 rfl) ?_
  refine gr_bk (by omega) X hP d_SS_doOperations_5 ?_
  refine lv_astore_n X.1 X.2.1 d_SS_doOperations_6 rfl hl (by decide) rfl (fun ls hl => ?_)
  have hl : lv_has ls 7 [(3, .ref (ad (nTx t))), (0, .ref (ad (nSt sh ri))), (1, .int (nI t)), (2, .ref (ad (nSd sh ri)))] := hl
  refine lv_iconst (v := nI 0) X.1 X.2.1 d_SS_doOperations_7 (by decide) ?_
  refine lv_istore X.1 X.2.1 d_SS_doOperations_8 hl (by decide) rfl (fun ls hl => ?_)
  have hl : lv_has ls 7 [(4, .int (nI 0)), (3, .ref (ad (nTx t))), (0, .ref (ad (nSt sh ri))), (1, .int (nI t)), (2, .ref (ad (nSd sh ri)))] := hl
  exact lp L.length 0 σ (Nat.zero_add _) hva (fun u j _ => by rw [if_neg (by omega)]) (fun n _ _ => rfl) _ _ ls hP hS (lv_sub hl [0, 1, 2, 3, 4] rfl)
