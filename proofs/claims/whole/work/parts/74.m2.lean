/-! contracts: the reference executes -/
set_option maxRecDepth 100000 in
set_option maxHeartbeats 4000000 in
theorem K_Mo_execute_s (l : Launch) (dC : Nat → ClassId) (dI : Nat → Nat → Nat) (cx : Nat → ClassId) (ad : Nat → Nat) (hJ : gx_J gx_N ad (gx_A gx_N ad)) (σ : gx_M) (a : ab_S) (S0 : pu_S) (g kd t : Nat) (hx : mr σ a) (hw : ab_W a) (hs : mS σ S0) (hv2 : ∀ v, S0.1 v ≤ 2) (hV : ∀ v, S0.1 v = 1 → 1 ≤ v ∧ v ≤ ab_n a) (ht : t < 21) (hg : g < 3) (hkd : kd < 3) : cg_Mv l dC dI cx ad y_Mo_execute w_Mo_execute 3 [.ref (ad 224), .int (nI g), .int (nI (kd + 1)), .int (nI t)] σ (fun σ' => mS σ' (pu_step (ab_op a) g S0 (kd, t)) ∧ mC σ σ') := by
  refine gx_ofW (cc := c_Mo_execute) (maxL := 5) (ret := (Option.none : Option Jvm.ClassFile.FieldType)) (by decide) rfl (Nat.le_of_ble_eq_true rfl) ?_
  intro p e s m below meth c ls S hr hlk hK hN hl hP
  have X : cg_X c_Mo_execute "CommitGroupsModel" 5 dC dI cx p m c s _ := ⟨S.1, S.2.1, S.2.2.2.1, fun w h => S.2.2.2.2 w (List.mem_cons_of_mem _ h), hK, hN, S.2.2.1⟩
  have hS : va_S (gx_A gx_N ad) s.heap s.heap [] := va_S.rf
  have hl : lv_has ls 5 [(0, .ref (ad 224)), (1, .int (nI g)), (2, .int (nI (kd + 1))), (3, .int (nI t))] := hl
  obtain ⟨t1, t2, t3⟩ := hx.2.1 t ht
  have hl4 := (hw.2.1 t).1
  obtain ⟨e1, e2⟩ := hs.1 t ht
  have b1 := hv2 t
  have b2 := xb_le (S0.2.1 t)
  have lp : ∀ (k : Nat) (i : Nat) (τ : gx_M), i + k = (ab_op a t).length → kd = 1 → S0.2.1 t = false → mC σ τ → (∀ u, u < 21 → τ 237 u = S0.1 u) → (∀ u, u < 21 → τ 238 u = xb (pu_up S0.2.1 t true u)) → (∀ y, y < 12 → τ 240 y = pu_run (pu_q g) ((ab_op a t).take i) S0.2.2.1 y) → ∀ (H : Heap) (locs : List Loc) (ls : Array Slot), cg_P dC dI cx ad τ H → va_S (gx_A gx_N ad) s.heap H locs → lv_has ls 5 [(4, .int (nI i)), (0, .ref (ad 224)), (1, .int (nI g)), (2, .int (nI (kd + 1))), (3, .int (nI t))] → W p l e (rmL 3) s m ([.ref (ad 224), .int (nI g), .int (nI (kd + 1)), .int (nI t)] : List Value).toArray below meth c H locs 0 0 (cg_Qv dC dI cx ad (fun σ' => mS σ' (pu_step (ab_op a) g S0 (kd, t)) ∧ mC σ σ') below [.ref (ad 224), .int (nI g), .int (nI (kd + 1)), .int (nI t)] s) (F0 m 110 ls []) := by
    intro k
    induction k with
    | zero =>
      intro i τ hik hk1 hf hc f1 f2 f4 H locs ls hP hS hl
      refine lv_iload X.1 X.2.1 d_Mo_execute_110 (lv_at hl 0 rfl) ?_
      refine lv_aload_n X.1 X.2.1 d_Mo_execute_112 rfl (lv_at hl 1 rfl) ?_
      refine gg_Mo_7 X hP d_Mo_execute_113 ?_
      refine lv_iload_n X.1 X.2.1 d_Mo_execute_116 rfl (lv_at hl 4 rfl) ?_
      refine ga_225 (by omega) X hP d_Mo_execute_117 ?_
      rw [hc.1 225 (by decide) (by decide), t1]
      refine gx_icmp_ge X.1 X.2.1 (tgt := 161) d_Mo_execute_118 (by decide) (by omega) (by omega) (fun h118 => ?_) (fun h118 => absurd h118 (by omega))
      refine gx_vret X.1 X.2.1 hr hlk hP hS d_Mo_execute_161 ?_
      rw [hk1, pu_step_commit hf]
      refine ⟨⟨fun u hu => ⟨f1 u hu, f2 u hu⟩, fun y hy => ?_⟩, hc⟩
      rw [f4 y hy, List.take_of_length_le (by omega)]
    | succ k ih =>
      intro i τ hik hk1 hf hc f1 f2 f4 H locs ls hP hS hl
      refine lv_iload X.1 X.2.1 d_Mo_execute_110 (lv_at hl 0 rfl) ?_
      refine lv_aload_n X.1 X.2.1 d_Mo_execute_112 rfl (lv_at hl 1 rfl) ?_
      refine gg_Mo_7 X hP d_Mo_execute_113 ?_
      refine lv_iload_n X.1 X.2.1 d_Mo_execute_116 rfl (lv_at hl 4 rfl) ?_
      refine ga_225 (by omega) X hP d_Mo_execute_117 ?_
      rw [hc.1 225 (by decide) (by decide), t1]
      refine gx_icmp_ge X.1 X.2.1 (tgt := 161) d_Mo_execute_118 (by decide) (by omega) (by omega) (fun h118 => absurd h118 (by omega)) (fun h118 => ?_)
      refine lv_iload_n X.1 X.2.1 d_Mo_execute_121 rfl (lv_at hl 3 rfl) ?_
      refine lv_iconst (v := nI 2) X.1 X.2.1 d_Mo_execute_122 (by decide) ?_
      refine gx_icmp_ne X.1 X.2.1 (tgt := 161) d_Mo_execute_123 (by decide) (by omega) (by omega) (fun h123 => absurd hk1 (by omega)) (fun h123 => ?_)
      refine lv_iload_n X.1 X.2.1 d_Mo_execute_126 rfl (lv_at hl 2 rfl) ?_
      refine lv_iconst (v := nI 3) X.1 X.2.1 d_Mo_execute_127 (by decide) ?_
      refine gx_icmp_ge X.1 X.2.1 (tgt := 161) d_Mo_execute_128 (by decide) (by omega) (by omega) (fun h128 => absurd h128 (by omega)) (fun h128 => ?_)
      obtain ⟨o, ho⟩ : ∃ o, (ab_op a t)[i]? = some o := ⟨(ab_op a t)[i], List.getElem?_eq_getElem (by omega)⟩
      obtain ⟨x1, x2, x3⟩ := t3 i o ho
      have yb := (hw.2.1 t).2 o (List.mem_of_getElem? ho)
      refine lv_aload_n X.1 X.2.1 d_Mo_execute_131 rfl (lv_at hl 1 rfl) ?_
      refine gg_Mo_20 X hP d_Mo_execute_132 ?_
      refine lv_iconst (v := nI 4) X.1 X.2.1 d_Mo_execute_135 (by decide) ?_
      refine lv_iload_n X.1 X.2.1 d_Mo_execute_136 rfl (lv_at hl 4 rfl) ?_
      refine gx_imul X.1 X.2.1 d_Mo_execute_137 ?_
      refine lv_iload X.1 X.2.1 d_Mo_execute_138 (lv_at hl 0 rfl) ?_
      refine gx_iadd X.1 X.2.1 d_Mo_execute_140 ?_
      refine ga_228 (by omega) X hP d_Mo_execute_141 ?_
      rw [hc.1 228 (by decide) (by decide), x2]
      refine lv_iconst (v := nI 3) X.1 X.2.1 d_Mo_execute_142 (by decide) ?_
      refine gx_irem X.1 X.2.1 d_Mo_execute_143 (by omega) (by decide) (by decide) ?_
      refine lv_iload_n X.1 X.2.1 d_Mo_execute_144 rfl (lv_at hl 2 rfl) ?_
      refine gx_icmp_ne X.1 X.2.1 (tgt := 155) d_Mo_execute_145 (by decide) (by omega) (by omega) (fun h145 => ?_) (fun h145 => ?_)
      · skip
        refine lv_iinc (k := 0) (v := nI (i + 1)) X.1 X.2.1 d_Mo_execute_155 hl rfl (nI_add _ _) (by decide) rfl (fun ls hl => ?_)
        have hl : lv_has ls 5 [(4, .int (nI (i + 1))), (0, .ref (ad 224)), (1, .int (nI g)), (2, .int (nI (kd + 1))), (3, .int (nI t))] := hl
        refine lv_goto (tgt := 110) X.1 X.2.1 d_Mo_execute_158 (by decide) ?_
        refine ih (i + 1) _ (by omega) hk1 hf ?_ ?_ ?_ ?_ H locs ls hP hS (lv_sub hl [0, 1, 2, 3, 4] rfl)
        · exact hc
        · exact f1
        · exact f2
        · intro y hy
          rw [pu_take_succ ho, pu_run_snoc, if_neg (by unfold pu_q; simp; exact h145)]
          exact f4 y hy
      · skip
        refine lv_aload_n X.1 X.2.1 d_Mo_execute_148 rfl (lv_at hl 1 rfl) ?_
        refine lv_iload_n X.1 X.2.1 d_Mo_execute_149 rfl (lv_at hl 4 rfl) ?_
        refine lv_iload X.1 X.2.1 d_Mo_execute_150 (lv_at hl 0 rfl) ?_
        refine cv_Mo_82 (rest := []) X hJ hP hS (by decide) (ec_Mo_0 _) (K_Mo_run l dC dI cx ad hJ τ a t i o (mr_mC hx hc) hw ht ho) rfl rfl (by decide) hl.1 (Nat.le_of_ble_eq_true rfl) ⟨Nat.le_refl _, Nat.le_refl _⟩ d_Mo_execute_152 (fun σ' H locs hq hP hS => ?_)
        obtain ⟨r1, r2, r3, r4⟩ := hq
        refine lv_iinc (k := 0) (v := nI (i + 1)) X.1 X.2.1 d_Mo_execute_155 hl rfl (nI_add _ _) (by decide) rfl (fun ls hl => ?_)
        have hl : lv_has ls 5 [(4, .int (nI (i + 1))), (0, .ref (ad 224)), (1, .int (nI g)), (2, .int (nI (kd + 1))), (3, .int (nI t))] := hl
        refine lv_goto (tgt := 110) X.1 X.2.1 d_Mo_execute_158 (by decide) ?_
        refine ih (i + 1) _ (by omega) hk1 hf ?_ ?_ ?_ ?_ H locs ls hP hS (lv_sub hl [0, 1, 2, 3, 4] rfl)
        · exact mC_trans hc ⟨fun n n1 n2 => r1 n (by omega) n1, r2⟩
        · intro u hu; rw [r1 237 (by decide) (by decide)]; exact f1 u hu
        · intro u hu; rw [r1 238 (by decide) (by decide)]; exact f2 u hu
        · intro y hy
          rw [r3 y, pu_take_succ ho, pu_run_snoc, if_pos (by unfold pu_q; simp; exact h145)]
          by_cases z : o.2.1 = y
          · exact pu_do_at (f4 y hy) o
          · exact pu_do_at (f4 y hy) o
  refine lv_aload_n X.1 X.2.1 d_Mo_execute_0 rfl (lv_at hl 0 rfl) ?_
  refine gg_Mo_50 X hP d_Mo_execute_1 ?_
  refine lv_iload_n X.1 X.2.1 d_Mo_execute_4 rfl (lv_at hl 3 rfl) ?_
  refine ga_238 (by omega) X hP d_Mo_execute_5 ?_
  rw [e2]
  refine gx_if_eq X.1 X.2.1 (tgt := 10) d_Mo_execute_6 (by decide) (by omega) (fun h6 => ?_) (fun h6 => ?_)
  · skip
    have hf : S0.2.1 t = false := xb_zero.mp h6
    refine lv_iload_n X.1 X.2.1 d_Mo_execute_10 rfl (lv_at hl 2 rfl) ?_
    refine lv_iconst (v := nI 1) X.1 X.2.1 d_Mo_execute_11 (by decide) ?_
    refine gx_icmp_ne X.1 X.2.1 (tgt := 54) d_Mo_execute_12 (by decide) (by omega) (by omega) (fun h12 => ?_) (fun h12 => ?_)
    · skip
      refine lv_aload_n X.1 X.2.1 d_Mo_execute_54 rfl (lv_at hl 0 rfl) ?_
      refine gg_Mo_50 X hP d_Mo_execute_55 ?_
      refine lv_iload_n X.1 X.2.1 d_Mo_execute_58 rfl (lv_at hl 3 rfl) ?_
      refine lv_iconst (v := nI 1) X.1 X.2.1 d_Mo_execute_59 (by decide) ?_
      refine gs_238 (by omega) (by omega) X hJ hP hS d_Mo_execute_60 (fun H locs hP hS => ?_)
      refine lv_aload_n X.1 X.2.1 d_Mo_execute_61 rfl (lv_at hl 0 rfl) ?_
      refine gg_Mo_53 X hP d_Mo_execute_62 ?_
      refine lv_iload_n X.1 X.2.1 d_Mo_execute_65 rfl (lv_at hl 3 rfl) ?_
      refine lv_iload_n X.1 X.2.1 d_Mo_execute_66 rfl (lv_at hl 2 rfl) ?_
      refine lv_iconst (v := nI 2) X.1 X.2.1 d_Mo_execute_67 (by decide) ?_
      refine gx_icmp_ne X.1 X.2.1 (tgt := 75) d_Mo_execute_68 (by decide) (by omega) (by omega) (fun h68 => ?_) (fun h68 => ?_)
      · skip
        refine lv_iconst (v := nI 2) X.1 X.2.1 d_Mo_execute_75 (by decide) ?_
        refine gs_239 (by omega) X hJ hP hS d_Mo_execute_76 (fun H locs hP hS => ?_)
        refine lv_aload_n X.1 X.2.1 d_Mo_execute_77 rfl (lv_at hl 0 rfl) ?_
        refine gg_Mo_47 X hP d_Mo_execute_78 ?_
        refine lv_iload_n X.1 X.2.1 d_Mo_execute_81 rfl (lv_at hl 3 rfl) ?_
        refine lv_aload_n X.1 X.2.1 d_Mo_execute_82 rfl (lv_at hl 0 rfl) ?_
        refine gg_Mo_47 X hP d_Mo_execute_83 ?_
        refine lv_iload_n X.1 X.2.1 d_Mo_execute_86 rfl (lv_at hl 3 rfl) ?_
        refine ga_237 (by omega) X hP d_Mo_execute_87 ?_
        rw [gx_w_row _ _ _ (show (237 : Nat) ≠ 239 by decide), gx_w_row _ _ _ (show (237 : Nat) ≠ 238 by decide), e1]
        refine gx_if_ne X.1 X.2.1 (tgt := 100) d_Mo_execute_88 (by decide) (by omega) (fun h88 => ?_) (fun h88 => ?_)
        · skip
          refine lv_aload_n X.1 X.2.1 d_Mo_execute_100 rfl (lv_at hl 0 rfl) ?_
          refine gg_Mo_47 X hP d_Mo_execute_101 ?_
          refine lv_iload_n X.1 X.2.1 d_Mo_execute_104 rfl (lv_at hl 3 rfl) ?_
          refine ga_237 (by omega) X hP d_Mo_execute_105 ?_
          rw [gx_w_row _ _ _ (show (237 : Nat) ≠ 239 by decide), gx_w_row _ _ _ (show (237 : Nat) ≠ 238 by decide), e1]
          refine gs_237 (by omega) X hJ hP hS d_Mo_execute_106 (fun H locs hP hS => ?_)
          refine lv_iconst (v := nI 0) X.1 X.2.1 d_Mo_execute_107 (by decide) ?_
          refine lv_istore X.1 X.2.1 d_Mo_execute_108 hl (by decide) rfl (fun ls hl => ?_)
          have hl : lv_has ls 5 [(4, .int (nI 0)), (0, .ref (ad 224)), (1, .int (nI g)), (2, .int (nI (kd + 1))), (3, .int (nI t))] := hl
          refine lv_iload X.1 X.2.1 d_Mo_execute_110 (lv_at hl 0 rfl) ?_
          refine lv_aload_n X.1 X.2.1 d_Mo_execute_112 rfl (lv_at hl 1 rfl) ?_
          refine gg_Mo_7 X hP d_Mo_execute_113 ?_
          refine lv_iload_n X.1 X.2.1 d_Mo_execute_116 rfl (lv_at hl 4 rfl) ?_
          refine ga_225 (by omega) X hP d_Mo_execute_117 ?_
          rw [gx_w_row _ _ _ (show (225 : Nat) ≠ 237 by decide), gx_w_row _ _ _ (show (225 : Nat) ≠ 239 by decide), gx_w_row _ _ _ (show (225 : Nat) ≠ 238 by decide), t1]
          refine gx_icmp_ge X.1 X.2.1 (tgt := 161) d_Mo_execute_118 (by decide) (by omega) (by omega) (fun h118 => ?_) (fun h118 => ?_)
          · skip
            refine gx_vret X.1 X.2.1 hr hlk hP hS d_Mo_execute_161 ?_
            rw [pu_step_abort hf (by omega) (by omega)]
            obtain ⟨m1, m2, m3, m4⟩ := mE hs t 2 (S0.1 t)
            rw [if_neg h88]
            exact ⟨⟨fun u hu => ⟨m1 u hu, m2 u hu⟩, m4⟩, m3⟩
          · skip
            refine lv_iload_n X.1 X.2.1 d_Mo_execute_121 rfl (lv_at hl 3 rfl) ?_
            refine lv_iconst (v := nI 2) X.1 X.2.1 d_Mo_execute_122 (by decide) ?_
            refine gx_icmp_ne X.1 X.2.1 (tgt := 161) d_Mo_execute_123 (by decide) (by omega) (by omega) (fun h123 => ?_) (fun h123 => absurd h123 (by omega))
            refine gx_vret X.1 X.2.1 hr hlk hP hS d_Mo_execute_161 ?_
            rw [pu_step_abort hf (by omega) (by omega)]
            obtain ⟨m1, m2, m3, m4⟩ := mE hs t 2 (S0.1 t)
            rw [if_neg h88]
            exact ⟨⟨fun u hu => ⟨m1 u hu, m2 u hu⟩, m4⟩, m3⟩
        · skip
          refine lv_iload_n X.1 X.2.1 d_Mo_execute_91 rfl (lv_at hl 2 rfl) ?_
          refine lv_iconst (v := nI 3) X.1 X.2.1 d_Mo_execute_92 (by decide) ?_
          refine gx_icmp_ne X.1 X.2.1 (tgt := 100) d_Mo_execute_93 (by decide) (by omega) (by omega) (fun h93 => absurd h93 (by omega)) (fun h93 => ?_)
          refine lv_iconst (v := nI 2) X.1 X.2.1 d_Mo_execute_96 (by decide) ?_
          refine lv_goto (tgt := 106) X.1 X.2.1 d_Mo_execute_97 (by decide) ?_
          refine gs_237 (by omega) X hJ hP hS d_Mo_execute_106 (fun H locs hP hS => ?_)
          refine lv_iconst (v := nI 0) X.1 X.2.1 d_Mo_execute_107 (by decide) ?_
          refine lv_istore X.1 X.2.1 d_Mo_execute_108 hl (by decide) rfl (fun ls hl => ?_)
          have hl : lv_has ls 5 [(4, .int (nI 0)), (0, .ref (ad 224)), (1, .int (nI g)), (2, .int (nI (kd + 1))), (3, .int (nI t))] := hl
          refine lv_iload X.1 X.2.1 d_Mo_execute_110 (lv_at hl 0 rfl) ?_
          refine lv_aload_n X.1 X.2.1 d_Mo_execute_112 rfl (lv_at hl 1 rfl) ?_
          refine gg_Mo_7 X hP d_Mo_execute_113 ?_
          refine lv_iload_n X.1 X.2.1 d_Mo_execute_116 rfl (lv_at hl 4 rfl) ?_
          refine ga_225 (by omega) X hP d_Mo_execute_117 ?_
          rw [gx_w_row _ _ _ (show (225 : Nat) ≠ 237 by decide), gx_w_row _ _ _ (show (225 : Nat) ≠ 239 by decide), gx_w_row _ _ _ (show (225 : Nat) ≠ 238 by decide), t1]
          refine gx_icmp_ge X.1 X.2.1 (tgt := 161) d_Mo_execute_118 (by decide) (by omega) (by omega) (fun h118 => ?_) (fun h118 => ?_)
          · skip
            refine gx_vret X.1 X.2.1 hr hlk hP hS d_Mo_execute_161 ?_
            rw [pu_step_abort hf (by omega) (by omega)]
            obtain ⟨m1, m2, m3, m4⟩ := mE hs t 2 2
            rw [if_pos h88]
            exact ⟨⟨fun u hu => ⟨m1 u hu, m2 u hu⟩, m4⟩, m3⟩
          · skip
            refine lv_iload_n X.1 X.2.1 d_Mo_execute_121 rfl (lv_at hl 3 rfl) ?_
            refine lv_iconst (v := nI 2) X.1 X.2.1 d_Mo_execute_122 (by decide) ?_
            refine gx_icmp_ne X.1 X.2.1 (tgt := 161) d_Mo_execute_123 (by decide) (by omega) (by omega) (fun h123 => ?_) (fun h123 => absurd h123 (by omega))
            refine gx_vret X.1 X.2.1 hr hlk hP hS d_Mo_execute_161 ?_
            rw [pu_step_abort hf (by omega) (by omega)]
            obtain ⟨m1, m2, m3, m4⟩ := mE hs t 2 2
            rw [if_pos h88]
            exact ⟨⟨fun u hu => ⟨m1 u hu, m2 u hu⟩, m4⟩, m3⟩
      · skip
        refine lv_iconst (v := nI 1) X.1 X.2.1 d_Mo_execute_71 (by decide) ?_
        refine lv_goto (tgt := 76) X.1 X.2.1 d_Mo_execute_72 (by decide) ?_
        refine gs_239 (by omega) X hJ hP hS d_Mo_execute_76 (fun H locs hP hS => ?_)
        refine lv_aload_n X.1 X.2.1 d_Mo_execute_77 rfl (lv_at hl 0 rfl) ?_
        refine gg_Mo_47 X hP d_Mo_execute_78 ?_
        refine lv_iload_n X.1 X.2.1 d_Mo_execute_81 rfl (lv_at hl 3 rfl) ?_
        refine lv_aload_n X.1 X.2.1 d_Mo_execute_82 rfl (lv_at hl 0 rfl) ?_
        refine gg_Mo_47 X hP d_Mo_execute_83 ?_
        refine lv_iload_n X.1 X.2.1 d_Mo_execute_86 rfl (lv_at hl 3 rfl) ?_
        refine ga_237 (by omega) X hP d_Mo_execute_87 ?_
        rw [gx_w_row _ _ _ (show (237 : Nat) ≠ 239 by decide), gx_w_row _ _ _ (show (237 : Nat) ≠ 238 by decide), e1]
        refine gx_if_ne X.1 X.2.1 (tgt := 100) d_Mo_execute_88 (by decide) (by omega) (fun h88 => ?_) (fun h88 => ?_)
        · skip
          refine lv_aload_n X.1 X.2.1 d_Mo_execute_100 rfl (lv_at hl 0 rfl) ?_
          refine gg_Mo_47 X hP d_Mo_execute_101 ?_
          refine lv_iload_n X.1 X.2.1 d_Mo_execute_104 rfl (lv_at hl 3 rfl) ?_
          refine ga_237 (by omega) X hP d_Mo_execute_105 ?_
          rw [gx_w_row _ _ _ (show (237 : Nat) ≠ 239 by decide), gx_w_row _ _ _ (show (237 : Nat) ≠ 238 by decide), e1]
          refine gs_237 (by omega) X hJ hP hS d_Mo_execute_106 (fun H locs hP hS => ?_)
          refine lv_iconst (v := nI 0) X.1 X.2.1 d_Mo_execute_107 (by decide) ?_
          refine lv_istore X.1 X.2.1 d_Mo_execute_108 hl (by decide) rfl (fun ls hl => ?_)
          have hl : lv_has ls 5 [(4, .int (nI 0)), (0, .ref (ad 224)), (1, .int (nI g)), (2, .int (nI (kd + 1))), (3, .int (nI t))] := hl
          obtain ⟨m1, m2, m3, m4⟩ := mE hs t 1 (S0.1 t)
          exact lp _ 0 _ (Nat.zero_add _) (by omega) hf m3 (fun u hu => by rw [m1 u hu, pu_up_id]) m2 m4 _ _ ls hP hS (lv_sub hl [0, 1, 2, 3, 4] rfl)
        · skip
          refine lv_iload_n X.1 X.2.1 d_Mo_execute_91 rfl (lv_at hl 2 rfl) ?_
          refine lv_iconst (v := nI 3) X.1 X.2.1 d_Mo_execute_92 (by decide) ?_
          refine gx_icmp_ne X.1 X.2.1 (tgt := 100) d_Mo_execute_93 (by decide) (by omega) (by omega) (fun h93 => ?_) (fun h93 => absurd h93 (by omega))
          refine lv_aload_n X.1 X.2.1 d_Mo_execute_100 rfl (lv_at hl 0 rfl) ?_
          refine gg_Mo_47 X hP d_Mo_execute_101 ?_
          refine lv_iload_n X.1 X.2.1 d_Mo_execute_104 rfl (lv_at hl 3 rfl) ?_
          refine ga_237 (by omega) X hP d_Mo_execute_105 ?_
          rw [gx_w_row _ _ _ (show (237 : Nat) ≠ 239 by decide), gx_w_row _ _ _ (show (237 : Nat) ≠ 238 by decide), e1]
          refine gs_237 (by omega) X hJ hP hS d_Mo_execute_106 (fun H locs hP hS => ?_)
          refine lv_iconst (v := nI 0) X.1 X.2.1 d_Mo_execute_107 (by decide) ?_
          refine lv_istore X.1 X.2.1 d_Mo_execute_108 hl (by decide) rfl (fun ls hl => ?_)
          have hl : lv_has ls 5 [(4, .int (nI 0)), (0, .ref (ad 224)), (1, .int (nI g)), (2, .int (nI (kd + 1))), (3, .int (nI t))] := hl
          obtain ⟨m1, m2, m3, m4⟩ := mE hs t 1 (S0.1 t)
          exact lp _ 0 _ (Nat.zero_add _) (by omega) hf m3 (fun u hu => by rw [m1 u hu, pu_up_id]) m2 m4 _ _ ls hP hS (lv_sub hl [0, 1, 2, 3, 4] rfl)
    · skip
      refine lv_aload_n X.1 X.2.1 d_Mo_execute_15 rfl (lv_at hl 0 rfl) ?_
      refine gg_Mo_47 X hP d_Mo_execute_16 ?_
      refine lv_iload_n X.1 X.2.1 d_Mo_execute_19 rfl (lv_at hl 3 rfl) ?_
      refine lv_aload_n X.1 X.2.1 d_Mo_execute_20 rfl (lv_at hl 0 rfl) ?_
      refine gg_Mo_47 X hP d_Mo_execute_21 ?_
      refine lv_iload_n X.1 X.2.1 d_Mo_execute_24 rfl (lv_at hl 3 rfl) ?_
      refine ga_237 (by omega) X hP d_Mo_execute_25 ?_
      rw [e1]
      refine gx_if_eq X.1 X.2.1 (tgt := 38) d_Mo_execute_26 (by decide) (by omega) (fun h26 => ?_) (fun h26 => ?_)
      · skip
        refine lv_aload_n X.1 X.2.1 d_Mo_execute_38 rfl (lv_at hl 0 rfl) ?_
        refine lv_iload_n X.1 X.2.1 d_Mo_execute_39 rfl (lv_at hl 3 rfl) ?_
        refine lv_iload_n X.1 X.2.1 d_Mo_execute_40 rfl (lv_at hl 1 rfl) ?_
        refine cv_Mo_78 (rest := [.int (nI t), .ref (ad 237)]) X hJ hP hS (by decide) (ec_Mo_0 _) (K_Mo_free l dC dI cx ad hJ _ a S0 t g hx hw hs hv2 hV ht hg) rfl rfl (by decide) hl.1 (Nat.le_of_ble_eq_true rfl) ⟨Nat.le_refl _, Nat.le_refl _⟩ d_Mo_execute_41 (fun r σ' H locs hq hP hS => ?_)
        obtain ⟨hq0, b41, rfl, hb41, hp41⟩ := hq
        rw [hq0] at hP
        refine gx_if_eq X.1 X.2.1 (tgt := 51) d_Mo_execute_44 (by decide) (by omega) (fun h44 => ?_) (fun h44 => ?_)
        · skip
          refine lv_iconst (v := nI 2) X.1 X.2.1 d_Mo_execute_51 (by decide) ?_
          refine gs_237 (by omega) X hJ hP hS d_Mo_execute_52 (fun H locs hP hS => ?_)
          refine gx_vret X.1 X.2.1 hr hlk hP hS d_Mo_execute_53 ?_
          have hk0 : kd = 0 := by omega
          subst hk0
          rw [pu_step_no hf h26 (fun q => by have := hp41.mpr q; omega)]
          exact ⟨mS_w hs t 2 _, mC_w (by omega)⟩
        · skip
          refine lv_iconst (v := nI 1) X.1 X.2.1 d_Mo_execute_47 (by decide) ?_
          refine lv_goto (tgt := 52) X.1 X.2.1 d_Mo_execute_48 (by decide) ?_
          refine gs_237 (by omega) X hJ hP hS d_Mo_execute_52 (fun H locs hP hS => ?_)
          refine gx_vret X.1 X.2.1 hr hlk hP hS d_Mo_execute_53 ?_
          have hk0 : kd = 0 := by omega
          subst hk0
          rw [pu_step_yes hf h26 (hp41.mp (by omega))]
          exact ⟨mS_w hs t 1 _, mC_w (by omega)⟩
      · skip
        refine lv_aload_n X.1 X.2.1 d_Mo_execute_29 rfl (lv_at hl 0 rfl) ?_
        refine gg_Mo_47 X hP d_Mo_execute_30 ?_
        refine lv_iload_n X.1 X.2.1 d_Mo_execute_33 rfl (lv_at hl 3 rfl) ?_
        refine ga_237 (by omega) X hP d_Mo_execute_34 ?_
        rw [e1]
        refine lv_goto (tgt := 52) X.1 X.2.1 d_Mo_execute_35 (by decide) ?_
        refine gs_237 (by omega) X hJ hP hS d_Mo_execute_52 (fun H locs hP hS => ?_)
        refine gx_vret X.1 X.2.1 hr hlk hP hS d_Mo_execute_53 ?_
        have hk0 : kd = 0 := by omega
        subst hk0
        rw [pu_step_voted hf h26]
        exact ⟨mS_v hs rfl, mC_w (by omega)⟩
  · skip
    refine gx_vret X.1 X.2.1 hr hlk hP hS d_Mo_execute_9 ?_
    rw [pu_step_done (xb_one.mp (by omega))]
    exact ⟨hs, mC_rfl _⟩
set_option maxRecDepth 100000 in
set_option maxHeartbeats 4000000 in
theorem K_Mo_execute_d (l : Launch) (dC : Nat → ClassId) (dI : Nat → Nat → Nat) (cx : Nat → ClassId) (ad : Nat → Nat) (hJ : gx_J gx_N ad (gx_A gx_N ad)) (σ : gx_M) (a : ab_S) (D : Nat → Nat) (kd t : Nat) (hx : mr σ a) (hw : ab_W a) (hs : mD σ D) (ht : t < 21) (hkd : kd < 3) (hk0 : kd ≠ 0) : cg_Mv l dC dI cx ad y_Mo_execute w_Mo_execute 3 [.ref (ad 224), .int (nI 3), .int (nI (kd + 1)), .int (nI t)] σ (fun σ' => mD σ' (if D t = 0 then pu_up D t kd else D) ∧ mC σ σ') := by
  refine gx_ofW (cc := c_Mo_execute) (maxL := 5) (ret := (Option.none : Option Jvm.ClassFile.FieldType)) (by decide) rfl (Nat.le_of_ble_eq_true rfl) ?_
  intro p e s m below meth c ls S hr hlk hK hN hl hP
  have X : cg_X c_Mo_execute "CommitGroupsModel" 5 dC dI cx p m c s _ := ⟨S.1, S.2.1, S.2.2.2.1, fun w h => S.2.2.2.2 w (List.mem_cons_of_mem _ h), hK, hN, S.2.2.1⟩
  have hS : va_S (gx_A gx_N ad) s.heap s.heap [] := va_S.rf
  have hl : lv_has ls 5 [(0, .ref (ad 224)), (1, .int (nI 3)), (2, .int (nI (kd + 1))), (3, .int (nI t))] := hl
  obtain ⟨t1, t2, t3⟩ := hx.2.1 t ht
  have hl4 := (hw.2.1 t).1
  obtain ⟨e1, e2, e3⟩ := hs t ht
  have b2 : σ 238 t ≤ 1 := by rw [e2]; split <;> decide
  refine lv_aload_n X.1 X.2.1 d_Mo_execute_0 rfl (lv_at hl 0 rfl) ?_
  refine gg_Mo_50 X hP d_Mo_execute_1 ?_
  refine lv_iload_n X.1 X.2.1 d_Mo_execute_4 rfl (lv_at hl 3 rfl) ?_
  refine ga_238 (by omega) X hP d_Mo_execute_5 ?_
  refine gx_if_eq X.1 X.2.1 (tgt := 10) d_Mo_execute_6 (by decide) (by omega) (fun h6 => ?_) (fun h6 => ?_)
  · skip
    have h6' : D t = 0 := by
      rw [e2] at h6
      by_cases q : D t = 0
      · exact q
      · rw [if_neg q] at h6; exact absurd h6 (by decide)
    refine lv_iload_n X.1 X.2.1 d_Mo_execute_10 rfl (lv_at hl 2 rfl) ?_
    refine lv_iconst (v := nI 1) X.1 X.2.1 d_Mo_execute_11 (by decide) ?_
    refine gx_icmp_ne X.1 X.2.1 (tgt := 54) d_Mo_execute_12 (by decide) (by omega) (by omega) (fun h12 => ?_) (fun h12 => absurd h12 (by omega))
    refine lv_aload_n X.1 X.2.1 d_Mo_execute_54 rfl (lv_at hl 0 rfl) ?_
    refine gg_Mo_50 X hP d_Mo_execute_55 ?_
    refine lv_iload_n X.1 X.2.1 d_Mo_execute_58 rfl (lv_at hl 3 rfl) ?_
    refine lv_iconst (v := nI 1) X.1 X.2.1 d_Mo_execute_59 (by decide) ?_
    refine gs_238 (by omega) (by omega) X hJ hP hS d_Mo_execute_60 (fun H locs hP hS => ?_)
    refine lv_aload_n X.1 X.2.1 d_Mo_execute_61 rfl (lv_at hl 0 rfl) ?_
    refine gg_Mo_53 X hP d_Mo_execute_62 ?_
    refine lv_iload_n X.1 X.2.1 d_Mo_execute_65 rfl (lv_at hl 3 rfl) ?_
    refine lv_iload_n X.1 X.2.1 d_Mo_execute_66 rfl (lv_at hl 2 rfl) ?_
    refine lv_iconst (v := nI 2) X.1 X.2.1 d_Mo_execute_67 (by decide) ?_
    refine gx_icmp_ne X.1 X.2.1 (tgt := 75) d_Mo_execute_68 (by decide) (by omega) (by omega) (fun h68 => ?_) (fun h68 => ?_)
    · skip
      refine lv_iconst (v := nI 2) X.1 X.2.1 d_Mo_execute_75 (by decide) ?_
      refine gs_239 (by omega) X hJ hP hS d_Mo_execute_76 (fun H locs hP hS => ?_)
      refine lv_aload_n X.1 X.2.1 d_Mo_execute_77 rfl (lv_at hl 0 rfl) ?_
      refine gg_Mo_47 X hP d_Mo_execute_78 ?_
      refine lv_iload_n X.1 X.2.1 d_Mo_execute_81 rfl (lv_at hl 3 rfl) ?_
      refine lv_aload_n X.1 X.2.1 d_Mo_execute_82 rfl (lv_at hl 0 rfl) ?_
      refine gg_Mo_47 X hP d_Mo_execute_83 ?_
      refine lv_iload_n X.1 X.2.1 d_Mo_execute_86 rfl (lv_at hl 3 rfl) ?_
      refine ga_237 (by omega) X hP d_Mo_execute_87 ?_
      rw [gx_w_row _ _ _ (show (237 : Nat) ≠ 239 by decide), gx_w_row _ _ _ (show (237 : Nat) ≠ 238 by decide)]
      refine gx_if_ne X.1 X.2.1 (tgt := 100) d_Mo_execute_88 (by decide) (by omega) (fun h88 => ?_) (fun h88 => ?_)
      · skip
        refine lv_aload_n X.1 X.2.1 d_Mo_execute_100 rfl (lv_at hl 0 rfl) ?_
        refine gg_Mo_47 X hP d_Mo_execute_101 ?_
        refine lv_iload_n X.1 X.2.1 d_Mo_execute_104 rfl (lv_at hl 3 rfl) ?_
        refine ga_237 (by omega) X hP d_Mo_execute_105 ?_
        rw [gx_w_row _ _ _ (show (237 : Nat) ≠ 239 by decide), gx_w_row _ _ _ (show (237 : Nat) ≠ 238 by decide)]
        refine gs_237 (by omega) X hJ hP hS d_Mo_execute_106 (fun H locs hP hS => ?_)
        refine lv_iconst (v := nI 0) X.1 X.2.1 d_Mo_execute_107 (by decide) ?_
        refine lv_istore X.1 X.2.1 d_Mo_execute_108 hl (by decide) rfl (fun ls hl => ?_)
        have hl : lv_has ls 5 [(4, .int (nI 0)), (0, .ref (ad 224)), (1, .int (nI 3)), (2, .int (nI (kd + 1))), (3, .int (nI t))] := hl
        refine lv_iload X.1 X.2.1 d_Mo_execute_110 (lv_at hl 0 rfl) ?_
        refine lv_aload_n X.1 X.2.1 d_Mo_execute_112 rfl (lv_at hl 1 rfl) ?_
        refine gg_Mo_7 X hP d_Mo_execute_113 ?_
        refine lv_iload_n X.1 X.2.1 d_Mo_execute_116 rfl (lv_at hl 4 rfl) ?_
        refine ga_225 (by omega) X hP d_Mo_execute_117 ?_
        rw [gx_w_row _ _ _ (show (225 : Nat) ≠ 237 by decide), gx_w_row _ _ _ (show (225 : Nat) ≠ 239 by decide), gx_w_row _ _ _ (show (225 : Nat) ≠ 238 by decide), t1]
        refine gx_icmp_ge X.1 X.2.1 (tgt := 161) d_Mo_execute_118 (by decide) (by omega) (by omega) (fun h118 => ?_) (fun h118 => ?_)
        · skip
          refine gx_vret X.1 X.2.1 hr hlk hP hS d_Mo_execute_161 ?_
          exact ⟨mD_w hs h6' (by omega) (by omega) (by omega), mC_3 _ _ _ _⟩
        · skip
          refine lv_iload_n X.1 X.2.1 d_Mo_execute_121 rfl (lv_at hl 3 rfl) ?_
          refine lv_iconst (v := nI 2) X.1 X.2.1 d_Mo_execute_122 (by decide) ?_
          refine gx_icmp_ne X.1 X.2.1 (tgt := 161) d_Mo_execute_123 (by decide) (by omega) (by omega) (fun h123 => ?_) (fun h123 => ?_)
          · skip
            refine gx_vret X.1 X.2.1 hr hlk hP hS d_Mo_execute_161 ?_
            exact ⟨mD_w hs h6' (by omega) (by omega) (by omega), mC_3 _ _ _ _⟩
          · skip
            refine lv_iload_n X.1 X.2.1 d_Mo_execute_126 rfl (lv_at hl 2 rfl) ?_
            refine lv_iconst (v := nI 3) X.1 X.2.1 d_Mo_execute_127 (by decide) ?_
            refine gx_icmp_ge X.1 X.2.1 (tgt := 161) d_Mo_execute_128 (by decide) (by omega) (by omega) (fun h128 => ?_) (fun h128 => absurd h128 (by decide))
            refine gx_vret X.1 X.2.1 hr hlk hP hS d_Mo_execute_161 ?_
            exact ⟨mD_w hs h6' (by omega) (by omega) (by omega), mC_3 _ _ _ _⟩
      · skip
        refine lv_iload_n X.1 X.2.1 d_Mo_execute_91 rfl (lv_at hl 2 rfl) ?_
        refine lv_iconst (v := nI 3) X.1 X.2.1 d_Mo_execute_92 (by decide) ?_
        refine gx_icmp_ne X.1 X.2.1 (tgt := 100) d_Mo_execute_93 (by decide) (by omega) (by omega) (fun h93 => ?_) (fun h93 => ?_)
        · skip
          refine lv_aload_n X.1 X.2.1 d_Mo_execute_100 rfl (lv_at hl 0 rfl) ?_
          refine gg_Mo_47 X hP d_Mo_execute_101 ?_
          refine lv_iload_n X.1 X.2.1 d_Mo_execute_104 rfl (lv_at hl 3 rfl) ?_
          refine ga_237 (by omega) X hP d_Mo_execute_105 ?_
          rw [gx_w_row _ _ _ (show (237 : Nat) ≠ 239 by decide), gx_w_row _ _ _ (show (237 : Nat) ≠ 238 by decide)]
          refine gs_237 (by omega) X hJ hP hS d_Mo_execute_106 (fun H locs hP hS => ?_)
          refine lv_iconst (v := nI 0) X.1 X.2.1 d_Mo_execute_107 (by decide) ?_
          refine lv_istore X.1 X.2.1 d_Mo_execute_108 hl (by decide) rfl (fun ls hl => ?_)
          have hl : lv_has ls 5 [(4, .int (nI 0)), (0, .ref (ad 224)), (1, .int (nI 3)), (2, .int (nI (kd + 1))), (3, .int (nI t))] := hl
          refine lv_iload X.1 X.2.1 d_Mo_execute_110 (lv_at hl 0 rfl) ?_
          refine lv_aload_n X.1 X.2.1 d_Mo_execute_112 rfl (lv_at hl 1 rfl) ?_
          refine gg_Mo_7 X hP d_Mo_execute_113 ?_
          refine lv_iload_n X.1 X.2.1 d_Mo_execute_116 rfl (lv_at hl 4 rfl) ?_
          refine ga_225 (by omega) X hP d_Mo_execute_117 ?_
          rw [gx_w_row _ _ _ (show (225 : Nat) ≠ 237 by decide), gx_w_row _ _ _ (show (225 : Nat) ≠ 239 by decide), gx_w_row _ _ _ (show (225 : Nat) ≠ 238 by decide), t1]
          refine gx_icmp_ge X.1 X.2.1 (tgt := 161) d_Mo_execute_118 (by decide) (by omega) (by omega) (fun h118 => ?_) (fun h118 => ?_)
          · skip
            refine gx_vret X.1 X.2.1 hr hlk hP hS d_Mo_execute_161 ?_
            exact ⟨mD_w hs h6' (by omega) (by omega) (by omega), mC_3 _ _ _ _⟩
          · skip
            refine lv_iload_n X.1 X.2.1 d_Mo_execute_121 rfl (lv_at hl 3 rfl) ?_
            refine lv_iconst (v := nI 2) X.1 X.2.1 d_Mo_execute_122 (by decide) ?_
            refine gx_icmp_ne X.1 X.2.1 (tgt := 161) d_Mo_execute_123 (by decide) (by omega) (by omega) (fun h123 => ?_) (fun h123 => ?_)
            · skip
              refine gx_vret X.1 X.2.1 hr hlk hP hS d_Mo_execute_161 ?_
              exact ⟨mD_w hs h6' (by omega) (by omega) (by omega), mC_3 _ _ _ _⟩
            · skip
              refine lv_iload_n X.1 X.2.1 d_Mo_execute_126 rfl (lv_at hl 2 rfl) ?_
              refine lv_iconst (v := nI 3) X.1 X.2.1 d_Mo_execute_127 (by decide) ?_
              refine gx_icmp_ge X.1 X.2.1 (tgt := 161) d_Mo_execute_128 (by decide) (by omega) (by omega) (fun h128 => ?_) (fun h128 => absurd h128 (by decide))
              refine gx_vret X.1 X.2.1 hr hlk hP hS d_Mo_execute_161 ?_
              exact ⟨mD_w hs h6' (by omega) (by omega) (by omega), mC_3 _ _ _ _⟩
        · skip
          refine lv_iconst (v := nI 2) X.1 X.2.1 d_Mo_execute_96 (by decide) ?_
          refine lv_goto (tgt := 106) X.1 X.2.1 d_Mo_execute_97 (by decide) ?_
          refine gs_237 (by omega) X hJ hP hS d_Mo_execute_106 (fun H locs hP hS => ?_)
          refine lv_iconst (v := nI 0) X.1 X.2.1 d_Mo_execute_107 (by decide) ?_
          refine lv_istore X.1 X.2.1 d_Mo_execute_108 hl (by decide) rfl (fun ls hl => ?_)
          have hl : lv_has ls 5 [(4, .int (nI 0)), (0, .ref (ad 224)), (1, .int (nI 3)), (2, .int (nI (kd + 1))), (3, .int (nI t))] := hl
          refine lv_iload X.1 X.2.1 d_Mo_execute_110 (lv_at hl 0 rfl) ?_
          refine lv_aload_n X.1 X.2.1 d_Mo_execute_112 rfl (lv_at hl 1 rfl) ?_
          refine gg_Mo_7 X hP d_Mo_execute_113 ?_
          refine lv_iload_n X.1 X.2.1 d_Mo_execute_116 rfl (lv_at hl 4 rfl) ?_
          refine ga_225 (by omega) X hP d_Mo_execute_117 ?_
          rw [gx_w_row _ _ _ (show (225 : Nat) ≠ 237 by decide), gx_w_row _ _ _ (show (225 : Nat) ≠ 239 by decide), gx_w_row _ _ _ (show (225 : Nat) ≠ 238 by decide), t1]
          refine gx_icmp_ge X.1 X.2.1 (tgt := 161) d_Mo_execute_118 (by decide) (by omega) (by omega) (fun h118 => ?_) (fun h118 => ?_)
          · skip
            refine gx_vret X.1 X.2.1 hr hlk hP hS d_Mo_execute_161 ?_
            exact ⟨mD_w hs h6' (by omega) (by omega) (by omega), mC_3 _ _ _ _⟩
          · skip
            refine lv_iload_n X.1 X.2.1 d_Mo_execute_121 rfl (lv_at hl 3 rfl) ?_
            refine lv_iconst (v := nI 2) X.1 X.2.1 d_Mo_execute_122 (by decide) ?_
            refine gx_icmp_ne X.1 X.2.1 (tgt := 161) d_Mo_execute_123 (by decide) (by omega) (by omega) (fun h123 => ?_) (fun h123 => ?_)
            · skip
              refine gx_vret X.1 X.2.1 hr hlk hP hS d_Mo_execute_161 ?_
              exact ⟨mD_w hs h6' (by omega) (by omega) (by omega), mC_3 _ _ _ _⟩
            · skip
              refine lv_iload_n X.1 X.2.1 d_Mo_execute_126 rfl (lv_at hl 2 rfl) ?_
              refine lv_iconst (v := nI 3) X.1 X.2.1 d_Mo_execute_127 (by decide) ?_
              refine gx_icmp_ge X.1 X.2.1 (tgt := 161) d_Mo_execute_128 (by decide) (by omega) (by omega) (fun h128 => ?_) (fun h128 => absurd h128 (by decide))
              refine gx_vret X.1 X.2.1 hr hlk hP hS d_Mo_execute_161 ?_
              exact ⟨mD_w hs h6' (by omega) (by omega) (by omega), mC_3 _ _ _ _⟩
    · skip
      refine lv_iconst (v := nI 1) X.1 X.2.1 d_Mo_execute_71 (by decide) ?_
      refine lv_goto (tgt := 76) X.1 X.2.1 d_Mo_execute_72 (by decide) ?_
      refine gs_239 (by omega) X hJ hP hS d_Mo_execute_76 (fun H locs hP hS => ?_)
      refine lv_aload_n X.1 X.2.1 d_Mo_execute_77 rfl (lv_at hl 0 rfl) ?_
      refine gg_Mo_47 X hP d_Mo_execute_78 ?_
      refine lv_iload_n X.1 X.2.1 d_Mo_execute_81 rfl (lv_at hl 3 rfl) ?_
      refine lv_aload_n X.1 X.2.1 d_Mo_execute_82 rfl (lv_at hl 0 rfl) ?_
      refine gg_Mo_47 X hP d_Mo_execute_83 ?_
      refine lv_iload_n X.1 X.2.1 d_Mo_execute_86 rfl (lv_at hl 3 rfl) ?_
      refine ga_237 (by omega) X hP d_Mo_execute_87 ?_
      rw [gx_w_row _ _ _ (show (237 : Nat) ≠ 239 by decide), gx_w_row _ _ _ (show (237 : Nat) ≠ 238 by decide)]
      refine gx_if_ne X.1 X.2.1 (tgt := 100) d_Mo_execute_88 (by decide) (by omega) (fun h88 => ?_) (fun h88 => ?_)
      · skip
        refine lv_aload_n X.1 X.2.1 d_Mo_execute_100 rfl (lv_at hl 0 rfl) ?_
        refine gg_Mo_47 X hP d_Mo_execute_101 ?_
        refine lv_iload_n X.1 X.2.1 d_Mo_execute_104 rfl (lv_at hl 3 rfl) ?_
        refine ga_237 (by omega) X hP d_Mo_execute_105 ?_
        rw [gx_w_row _ _ _ (show (237 : Nat) ≠ 239 by decide), gx_w_row _ _ _ (show (237 : Nat) ≠ 238 by decide)]
        refine gs_237 (by omega) X hJ hP hS d_Mo_execute_106 (fun H locs hP hS => ?_)
        refine lv_iconst (v := nI 0) X.1 X.2.1 d_Mo_execute_107 (by decide) ?_
        refine lv_istore X.1 X.2.1 d_Mo_execute_108 hl (by decide) rfl (fun ls hl => ?_)
        have hl : lv_has ls 5 [(4, .int (nI 0)), (0, .ref (ad 224)), (1, .int (nI 3)), (2, .int (nI (kd + 1))), (3, .int (nI t))] := hl
        refine lv_iload X.1 X.2.1 d_Mo_execute_110 (lv_at hl 0 rfl) ?_
        refine lv_aload_n X.1 X.2.1 d_Mo_execute_112 rfl (lv_at hl 1 rfl) ?_
        refine gg_Mo_7 X hP d_Mo_execute_113 ?_
        refine lv_iload_n X.1 X.2.1 d_Mo_execute_116 rfl (lv_at hl 4 rfl) ?_
        refine ga_225 (by omega) X hP d_Mo_execute_117 ?_
        rw [gx_w_row _ _ _ (show (225 : Nat) ≠ 237 by decide), gx_w_row _ _ _ (show (225 : Nat) ≠ 239 by decide), gx_w_row _ _ _ (show (225 : Nat) ≠ 238 by decide), t1]
        refine gx_icmp_ge X.1 X.2.1 (tgt := 161) d_Mo_execute_118 (by decide) (by omega) (by omega) (fun h118 => ?_) (fun h118 => ?_)
        · skip
          refine gx_vret X.1 X.2.1 hr hlk hP hS d_Mo_execute_161 ?_
          exact ⟨mD_w hs h6' (by omega) (by omega) (by omega), mC_3 _ _ _ _⟩
        · skip
          refine lv_iload_n X.1 X.2.1 d_Mo_execute_121 rfl (lv_at hl 3 rfl) ?_
          refine lv_iconst (v := nI 2) X.1 X.2.1 d_Mo_execute_122 (by decide) ?_
          refine gx_icmp_ne X.1 X.2.1 (tgt := 161) d_Mo_execute_123 (by decide) (by omega) (by omega) (fun h123 => ?_) (fun h123 => ?_)
          · skip
            refine gx_vret X.1 X.2.1 hr hlk hP hS d_Mo_execute_161 ?_
            exact ⟨mD_w hs h6' (by omega) (by omega) (by omega), mC_3 _ _ _ _⟩
          · skip
            refine lv_iload_n X.1 X.2.1 d_Mo_execute_126 rfl (lv_at hl 2 rfl) ?_
            refine lv_iconst (v := nI 3) X.1 X.2.1 d_Mo_execute_127 (by decide) ?_
            refine gx_icmp_ge X.1 X.2.1 (tgt := 161) d_Mo_execute_128 (by decide) (by omega) (by omega) (fun h128 => ?_) (fun h128 => absurd h128 (by decide))
            refine gx_vret X.1 X.2.1 hr hlk hP hS d_Mo_execute_161 ?_
            exact ⟨mD_w hs h6' (by omega) (by omega) (by omega), mC_3 _ _ _ _⟩
      · skip
        refine lv_iload_n X.1 X.2.1 d_Mo_execute_91 rfl (lv_at hl 2 rfl) ?_
        refine lv_iconst (v := nI 3) X.1 X.2.1 d_Mo_execute_92 (by decide) ?_
        refine gx_icmp_ne X.1 X.2.1 (tgt := 100) d_Mo_execute_93 (by decide) (by omega) (by omega) (fun h93 => ?_) (fun h93 => ?_)
        · skip
          refine lv_aload_n X.1 X.2.1 d_Mo_execute_100 rfl (lv_at hl 0 rfl) ?_
          refine gg_Mo_47 X hP d_Mo_execute_101 ?_
          refine lv_iload_n X.1 X.2.1 d_Mo_execute_104 rfl (lv_at hl 3 rfl) ?_
          refine ga_237 (by omega) X hP d_Mo_execute_105 ?_
          rw [gx_w_row _ _ _ (show (237 : Nat) ≠ 239 by decide), gx_w_row _ _ _ (show (237 : Nat) ≠ 238 by decide)]
          refine gs_237 (by omega) X hJ hP hS d_Mo_execute_106 (fun H locs hP hS => ?_)
          refine lv_iconst (v := nI 0) X.1 X.2.1 d_Mo_execute_107 (by decide) ?_
          refine lv_istore X.1 X.2.1 d_Mo_execute_108 hl (by decide) rfl (fun ls hl => ?_)
          have hl : lv_has ls 5 [(4, .int (nI 0)), (0, .ref (ad 224)), (1, .int (nI 3)), (2, .int (nI (kd + 1))), (3, .int (nI t))] := hl
          refine lv_iload X.1 X.2.1 d_Mo_execute_110 (lv_at hl 0 rfl) ?_
          refine lv_aload_n X.1 X.2.1 d_Mo_execute_112 rfl (lv_at hl 1 rfl) ?_
          refine gg_Mo_7 X hP d_Mo_execute_113 ?_
          refine lv_iload_n X.1 X.2.1 d_Mo_execute_116 rfl (lv_at hl 4 rfl) ?_
          refine ga_225 (by omega) X hP d_Mo_execute_117 ?_
          rw [gx_w_row _ _ _ (show (225 : Nat) ≠ 237 by decide), gx_w_row _ _ _ (show (225 : Nat) ≠ 239 by decide), gx_w_row _ _ _ (show (225 : Nat) ≠ 238 by decide), t1]
          refine gx_icmp_ge X.1 X.2.1 (tgt := 161) d_Mo_execute_118 (by decide) (by omega) (by omega) (fun h118 => ?_) (fun h118 => ?_)
          · skip
            refine gx_vret X.1 X.2.1 hr hlk hP hS d_Mo_execute_161 ?_
            exact ⟨mD_w hs h6' (by omega) (by omega) (by omega), mC_3 _ _ _ _⟩
          · skip
            refine lv_iload_n X.1 X.2.1 d_Mo_execute_121 rfl (lv_at hl 3 rfl) ?_
            refine lv_iconst (v := nI 2) X.1 X.2.1 d_Mo_execute_122 (by decide) ?_
            refine gx_icmp_ne X.1 X.2.1 (tgt := 161) d_Mo_execute_123 (by decide) (by omega) (by omega) (fun h123 => ?_) (fun h123 => ?_)
            · skip
              refine gx_vret X.1 X.2.1 hr hlk hP hS d_Mo_execute_161 ?_
              exact ⟨mD_w hs h6' (by omega) (by omega) (by omega), mC_3 _ _ _ _⟩
            · skip
              refine lv_iload_n X.1 X.2.1 d_Mo_execute_126 rfl (lv_at hl 2 rfl) ?_
              refine lv_iconst (v := nI 3) X.1 X.2.1 d_Mo_execute_127 (by decide) ?_
              refine gx_icmp_ge X.1 X.2.1 (tgt := 161) d_Mo_execute_128 (by decide) (by omega) (by omega) (fun h128 => ?_) (fun h128 => absurd h128 (by decide))
              refine gx_vret X.1 X.2.1 hr hlk hP hS d_Mo_execute_161 ?_
              exact ⟨mD_w hs h6' (by omega) (by omega) (by omega), mC_3 _ _ _ _⟩
        · skip
          refine lv_iconst (v := nI 2) X.1 X.2.1 d_Mo_execute_96 (by decide) ?_
          refine lv_goto (tgt := 106) X.1 X.2.1 d_Mo_execute_97 (by decide) ?_
          refine gs_237 (by omega) X hJ hP hS d_Mo_execute_106 (fun H locs hP hS => ?_)
          refine lv_iconst (v := nI 0) X.1 X.2.1 d_Mo_execute_107 (by decide) ?_
          refine lv_istore X.1 X.2.1 d_Mo_execute_108 hl (by decide) rfl (fun ls hl => ?_)
          have hl : lv_has ls 5 [(4, .int (nI 0)), (0, .ref (ad 224)), (1, .int (nI 3)), (2, .int (nI (kd + 1))), (3, .int (nI t))] := hl
          refine lv_iload X.1 X.2.1 d_Mo_execute_110 (lv_at hl 0 rfl) ?_
          refine lv_aload_n X.1 X.2.1 d_Mo_execute_112 rfl (lv_at hl 1 rfl) ?_
          refine gg_Mo_7 X hP d_Mo_execute_113 ?_
          refine lv_iload_n X.1 X.2.1 d_Mo_execute_116 rfl (lv_at hl 4 rfl) ?_
          refine ga_225 (by omega) X hP d_Mo_execute_117 ?_
          rw [gx_w_row _ _ _ (show (225 : Nat) ≠ 237 by decide), gx_w_row _ _ _ (show (225 : Nat) ≠ 239 by decide), gx_w_row _ _ _ (show (225 : Nat) ≠ 238 by decide), t1]
          refine gx_icmp_ge X.1 X.2.1 (tgt := 161) d_Mo_execute_118 (by decide) (by omega) (by omega) (fun h118 => ?_) (fun h118 => ?_)
          · skip
            refine gx_vret X.1 X.2.1 hr hlk hP hS d_Mo_execute_161 ?_
            exact ⟨mD_w hs h6' (by omega) (by omega) (by omega), mC_3 _ _ _ _⟩
          · skip
            refine lv_iload_n X.1 X.2.1 d_Mo_execute_121 rfl (lv_at hl 3 rfl) ?_
            refine lv_iconst (v := nI 2) X.1 X.2.1 d_Mo_execute_122 (by decide) ?_
            refine gx_icmp_ne X.1 X.2.1 (tgt := 161) d_Mo_execute_123 (by decide) (by omega) (by omega) (fun h123 => ?_) (fun h123 => ?_)
            · skip
              refine gx_vret X.1 X.2.1 hr hlk hP hS d_Mo_execute_161 ?_
              exact ⟨mD_w hs h6' (by omega) (by omega) (by omega), mC_3 _ _ _ _⟩
            · skip
              refine lv_iload_n X.1 X.2.1 d_Mo_execute_126 rfl (lv_at hl 2 rfl) ?_
              refine lv_iconst (v := nI 3) X.1 X.2.1 d_Mo_execute_127 (by decide) ?_
              refine gx_icmp_ge X.1 X.2.1 (tgt := 161) d_Mo_execute_128 (by decide) (by omega) (by omega) (fun h128 => ?_) (fun h128 => absurd h128 (by decide))
              refine gx_vret X.1 X.2.1 hr hlk hP hS d_Mo_execute_161 ?_
              exact ⟨mD_w hs h6' (by omega) (by omega) (by omega), mC_3 _ _ _ _⟩
  · skip
    refine gx_vret X.1 X.2.1 hr hlk hP hS d_Mo_execute_9 ?_
    have h6' : D t ≠ 0 := fun q => h6 (by rw [e2, if_pos q])
    rw [if_neg h6']
    exact ⟨hs, mC_rfl _⟩
set_option maxRecDepth 100000 in
set_option maxHeartbeats 4000000 in
theorem K_Mo_work_s (l : Launch) (dC : Nat → ClassId) (dI : Nat → Nat → Nat) (cx : Nat → ClassId) (ad : Nat → Nat) (hJ : gx_J gx_N ad (gx_A gx_N ad)) (σ : gx_M) (a : ab_S) (g r' : Nat) (hx : mr σ a) (hw : ab_W a) (hv : ab_V a) (h0 : g < 3) (h1 : r' < 3) : cg_Mv l dC dI cx ad y_Mo_work w_Mo_work 4 [.ref (ad 224), .int (nI g), .int (nI r')] σ (fun σ' => mS σ' (ab_ex a g r') ∧ mC σ σ') := by
  refine gx_ofW (cc := c_Mo_work) (maxL := 6) (ret := (Option.none : Option Jvm.ClassFile.FieldType)) (by decide) rfl (Nat.le_of_ble_eq_true rfl) ?_
  intro p e s m below meth c ls S hr hlk hK hN hl hP
  have X : cg_X c_Mo_work "CommitGroupsModel" 6 dC dI cx p m c s _ := ⟨S.1, S.2.1, S.2.2.2.1, fun w h => S.2.2.2.2 w (List.mem_cons_of_mem _ h), hK, hN, S.2.2.1⟩
  have hS : va_S (gx_A gx_N ad) s.heap s.heap [] := va_S.rf
  have hl : lv_has ls 6 [(0, .ref (ad 224)), (1, .int (nI g)), (2, .int (nI r'))] := hl
  obtain ⟨y1, y2, y3, y4, y5⟩ := (hx.2.2.1 g r' (by omega) h1)
  obtain ⟨w1, w2, w3, -⟩ := hw.2.2 g r' (by omega) h1
  have lp3 : ∀ (k : Nat) (i : Nat) (τ : gx_M), i + k = ab_dn a g r' → mC σ τ → mS τ (pu_ex (ab_op a) g ((ab_lg a g r').take i)) → ∀ (H : Heap) (locs : List Loc) (ls : Array Slot), cg_P dC dI cx ad τ H → va_S (gx_A gx_N ad) s.heap H locs → lv_has ls 6 [(4, .int (nI i)), (3, .int (nI (3 * g + r'))), (0, .ref (ad 224)), (1, .int (nI g)), (2, .int (nI r'))] → W p l e (rmL 4) s m ([.ref (ad 224), .int (nI g), .int (nI r')] : List Value).toArray below meth c H locs 0 0 (cg_Qv dC dI cx ad (fun σ' => mS σ' (ab_ex a g r') ∧ mC σ σ') below [.ref (ad 224), .int (nI g), .int (nI r')] s) (F0 m 65 ls []) := by
    intro k
    induction k with
    | zero =>
      intro i τ hik hc hst H locs ls hP hS hl
      refine lv_iload X.1 X.2.1 d_Mo_work_65 (lv_at hl 0 rfl) ?_
      refine lv_aload_n X.1 X.2.1 d_Mo_work_67 rfl (lv_at hl 2 rfl) ?_
      refine gg_Mo_35 X hP d_Mo_work_68 ?_
      refine lv_iload_n X.1 X.2.1 d_Mo_work_71 rfl (lv_at hl 1 rfl) ?_
      refine ga_233 (by omega) X hP d_Mo_work_72 ?_
      rw [hc.1 233 (by decide) (by decide), y4]
      refine gx_icmp_ge X.1 X.2.1 (tgt := 111) d_Mo_work_73 (by decide) (by omega) (by omega) (fun h73 => ?_) (fun h73 => absurd h73 (by omega))
      refine gx_vret X.1 X.2.1 hr hlk hP hS d_Mo_work_111 ?_
      obtain rfl : i = ab_dn a g r' := by omega
      exact ⟨hst, hc⟩
    | succ k ih =>
      intro i τ hik hc hst H locs ls hP hS hl
      refine lv_iload X.1 X.2.1 d_Mo_work_65 (lv_at hl 0 rfl) ?_
      refine lv_aload_n X.1 X.2.1 d_Mo_work_67 rfl (lv_at hl 2 rfl) ?_
      refine gg_Mo_35 X hP d_Mo_work_68 ?_
      refine lv_iload_n X.1 X.2.1 d_Mo_work_71 rfl (lv_at hl 1 rfl) ?_
      refine ga_233 (by omega) X hP d_Mo_work_72 ?_
      rw [hc.1 233 (by decide) (by decide), y4]
      refine gx_icmp_ge X.1 X.2.1 (tgt := 111) d_Mo_work_73 (by decide) (by omega) (by omega) (fun h73 => absurd h73 (by omega)) (fun h73 => ?_)
      obtain ⟨en, he⟩ : ∃ en, (ab_lg a g r')[i]? = some en := ⟨(ab_lg a g r')[i], List.getElem?_eq_getElem (by omega)⟩
      have ev := hv g r' (by omega) h1 en (List.mem_of_getElem? he)
      have ew := (hw.2.2 g r' (by omega) h1).2.2.2 en (List.mem_of_getElem? he)
      have el := y5 i en he
      have hVV : ∀ v, (pu_ex (ab_op a) g ((ab_lg a g r').take i)).1 v = 1 → 1 ≤ v ∧ v ≤ ab_n a := by
        intro v hv1
        obtain ⟨k2, hk2⟩ := pu_ex_vo_in (ab_op a) g v _ (by rw [hv1]; decide)
        have z := hv g r' (by omega) h1 (k2, v) (List.mem_of_mem_take hk2)
        exact ⟨z.1, z.2.1⟩
      refine lv_aload_n X.1 X.2.1 d_Mo_work_76 rfl (lv_at hl 2 rfl) ?_
      refine gg_Mo_38 X hP d_Mo_work_77 ?_
      refine lv_bipush (v := nI 60) X.1 X.2.1 d_Mo_work_80 (by decide) ?_
      refine lv_iload_n X.1 X.2.1 d_Mo_work_82 rfl (lv_at hl 1 rfl) ?_
      refine gx_imul X.1 X.2.1 d_Mo_work_83 ?_
      refine lv_iload X.1 X.2.1 d_Mo_work_84 (lv_at hl 0 rfl) ?_
      refine gx_iadd X.1 X.2.1 d_Mo_work_86 ?_
      refine ga_234 (by omega) X hP d_Mo_work_87 ?_
      rw [hc.1 234 (by decide) (by decide), el]
      refine lv_istore X.1 X.2.1 d_Mo_work_88 hl (by decide) rfl (fun ls hl => ?_)
      have hl : lv_has ls 6 [(5, .int (nI (32 * (en.1 + 1) + en.2))), (4, .int (nI i)), (3, .int (nI (3 * g + r'))), (0, .ref (ad 224)), (1, .int (nI g)), (2, .int (nI r'))] := hl
      refine lv_aload_n X.1 X.2.1 d_Mo_work_90 rfl (lv_at hl 3 rfl) ?_
      refine lv_iload_n X.1 X.2.1 d_Mo_work_91 rfl (lv_at hl 4 rfl) ?_
      refine lv_iload X.1 X.2.1 d_Mo_work_92 (lv_at hl 0 rfl) ?_
      refine lv_bipush (v := nI 32) X.1 X.2.1 d_Mo_work_94 (by decide) ?_
      refine gx_idiv X.1 X.2.1 d_Mo_work_96 (by omega) (by decide) (by decide) ?_
      rw [show (32 * (en.1 + 1) + en.2) / 32 = en.1 + 1 by omega]
      refine lv_iload X.1 X.2.1 d_Mo_work_97 (lv_at hl 0 rfl) ?_
      refine lv_bipush (v := nI 32) X.1 X.2.1 d_Mo_work_99 (by decide) ?_
      refine gx_irem X.1 X.2.1 d_Mo_work_101 (by omega) (by decide) (by decide) ?_
      rw [show (32 * (en.1 + 1) + en.2) % 32 = en.2 by omega]
      refine cv_Mo_86 (rest := []) X hJ hP hS (by decide) (ec_Mo_0 _) (K_Mo_execute_s l dC dI cx ad hJ τ a (pu_ex (ab_op a) g ((ab_lg a g r').take i)) g en.1 en.2 (mr_mC hx hc) hw hst (fun v => pu_ex_vo_le _ _ _ _) hVV (by omega) h0 (by omega)) rfl rfl (by decide) hl.1 (Nat.le_of_ble_eq_true rfl) ⟨Nat.le_refl _, Nat.le_refl _⟩ d_Mo_work_102 (fun σ' H locs hq hP hS => ?_)
      obtain ⟨q1, q2⟩ := hq
      refine lv_iinc (k := 1) (v := nI (i + 1)) X.1 X.2.1 d_Mo_work_105 hl rfl (nI_add _ _) (by decide) rfl (fun ls hl => ?_)
      have hl : lv_has ls 6 [(4, .int (nI (i + 1))), (5, .int (nI (32 * (en.1 + 1) + en.2))), (3, .int (nI (3 * g + r'))), (0, .ref (ad 224)), (1, .int (nI g)), (2, .int (nI r'))] := hl
      refine lv_goto (tgt := 65) X.1 X.2.1 d_Mo_work_108 (by decide) ?_
      refine ih (i + 1) _ (by omega) (mC_trans hc q2) ?_ H locs ls hP hS (lv_sub hl [0, 2, 3, 4, 5] rfl)
      rw [pu_take_succ he, pu_ex_snoc]
      exact q1
  have lp2 : ∀ (k : Nat) (i : Nat) (τ : gx_M), i + k = 12 → mC σ τ → (∀ t, t < 21 → τ 237 t = 0 ∧ τ 238 t = 0 ∧ τ 239 t = 0) → (∀ j, j < i → τ 240 j = 0) → ∀ (H : Heap) (locs : List Loc) (ls : Array Slot), cg_P dC dI cx ad τ H → va_S (gx_A gx_N ad) s.heap H locs → lv_has ls 6 [(3, .int (nI i)), (0, .ref (ad 224)), (1, .int (nI g)), (2, .int (nI r'))] → W p l e (rmL 4) s m ([.ref (ad 224), .int (nI g), .int (nI r')] : List Value).toArray below meth c H locs 0 0 (cg_Qv dC dI cx ad (fun σ' => mS σ' (ab_ex a g r') ∧ mC σ σ') below [.ref (ad 224), .int (nI g), .int (nI r')] s) (F0 m 37 ls []) := by
    intro k
    induction k with
    | zero =>
      intro i τ hik hc g1 g2 H locs ls hP hS hl
      refine lv_iload_n X.1 X.2.1 d_Mo_work_37 rfl (lv_at hl 0 rfl) ?_
      refine lv_bipush (v := nI 12) X.1 X.2.1 d_Mo_work_38 (by decide) ?_
      refine gx_icmp_ge X.1 X.2.1 (tgt := 56) d_Mo_work_40 (by decide) (by omega) (by omega) (fun h40 => ?_) (fun h40 => absurd h40 (by omega))
      refine lv_iconst (v := nI 3) X.1 X.2.1 d_Mo_work_56 (by decide) ?_
      refine lv_iload_n X.1 X.2.1 d_Mo_work_57 rfl (lv_at hl 2 rfl) ?_
      refine gx_imul X.1 X.2.1 d_Mo_work_58 ?_
      refine lv_iload_n X.1 X.2.1 d_Mo_work_59 rfl (lv_at hl 3 rfl) ?_
      refine gx_iadd X.1 X.2.1 d_Mo_work_60 ?_
      refine lv_istore_n X.1 X.2.1 d_Mo_work_61 rfl hl (by decide) rfl (fun ls hl => ?_)
      have hl : lv_has ls 6 [(3, .int (nI ((3 * g) + r'))), (0, .ref (ad 224)), (1, .int (nI g)), (2, .int (nI r'))] := hl
      refine lv_iconst (v := nI 0) X.1 X.2.1 d_Mo_work_62 (by decide) ?_
      refine lv_istore X.1 X.2.1 d_Mo_work_63 hl (by decide) rfl (fun ls hl => ?_)
      have hl : lv_has ls 6 [(4, .int (nI 0)), (3, .int (nI ((3 * g) + r'))), (0, .ref (ad 224)), (1, .int (nI g)), (2, .int (nI r'))] := hl
      refine lp3 _ 0 _ (Nat.zero_add _) hc ?_ H locs ls hP hS (lv_sub hl [0, 1, 2, 3, 4] rfl)
      refine ⟨fun t ht => ?_, fun k hk => g2 k (by omega)⟩
      obtain ⟨z1, z2, z3⟩ := g1 t ht
      exact ⟨z1, z2⟩
    | succ k ih =>
      intro i τ hik hc g1 g2 H locs ls hP hS hl
      refine lv_iload_n X.1 X.2.1 d_Mo_work_37 rfl (lv_at hl 0 rfl) ?_
      refine lv_bipush (v := nI 12) X.1 X.2.1 d_Mo_work_38 (by decide) ?_
      refine gx_icmp_ge X.1 X.2.1 (tgt := 56) d_Mo_work_40 (by decide) (by omega) (by omega) (fun h40 => absurd h40 (by omega)) (fun h40 => ?_)
      refine lv_aload_n X.1 X.2.1 d_Mo_work_43 rfl (lv_at hl 1 rfl) ?_
      refine gg_Mo_56 X hP d_Mo_work_44 ?_
      refine lv_iload_n X.1 X.2.1 d_Mo_work_47 rfl (lv_at hl 0 rfl) ?_
      refine lv_iconst (v := nI 0) X.1 X.2.1 d_Mo_work_48 (by decide) ?_
      refine gs_240 (by omega) X hJ hP hS d_Mo_work_49 (fun H locs hP hS => ?_)
      refine lv_iinc (k := 0) (v := nI (i + 1)) X.1 X.2.1 d_Mo_work_50 hl rfl (nI_add _ _) (by decide) rfl (fun ls hl => ?_)
      have hl : lv_has ls 6 [(3, .int (nI (i + 1))), (0, .ref (ad 224)), (1, .int (nI g)), (2, .int (nI r'))] := hl
      refine lv_goto (tgt := 37) X.1 X.2.1 d_Mo_work_53 (by decide) ?_
      refine ih (i + 1) _ (by omega) (mC_trans hc (mC_w (by omega))) ?_ ?_ H locs ls hP hS (lv_sub hl [0, 1, 2, 3] rfl)
      · intro t ht; rw [gx_w_row _ _ _ (by decide), gx_w_row _ _ _ (by decide), gx_w_row _ _ _ (by decide)]; exact g1 t ht
      · intro j hj
        by_cases q : j = i
        · rw [q, gx_w_self]
        · rw [gx_w_col _ _ _ q]; exact g2 j (by omega)
  have lp1 : ∀ (k : Nat) (i : Nat) (τ : gx_M), i + k = 21 → mC σ τ → (∀ t, t < i → τ 237 t = 0 ∧ τ 238 t = 0 ∧ τ 239 t = 0) → ∀ (H : Heap) (locs : List Loc) (ls : Array Slot), cg_P dC dI cx ad τ H → va_S (gx_A gx_N ad) s.heap H locs → lv_has ls 6 [(3, .int (nI i)), (0, .ref (ad 224)), (1, .int (nI g)), (2, .int (nI r'))] → W p l e (rmL 4) s m ([.ref (ad 224), .int (nI g), .int (nI r')] : List Value).toArray below meth c H locs 0 0 (cg_Qv dC dI cx ad (fun σ' => mS σ' (ab_ex a g r') ∧ mC σ σ') below [.ref (ad 224), .int (nI g), .int (nI r')] s) (F0 m 2 ls []) := by
    intro k
    induction k with
    | zero =>
      intro i τ hik hc g1 H locs ls hP hS hl
      refine lv_iload_n X.1 X.2.1 d_Mo_work_2 rfl (lv_at hl 0 rfl) ?_
      refine lv_bipush (v := nI 20) X.1 X.2.1 d_Mo_work_3 (by decide) ?_
      refine gx_icmp_gt X.1 X.2.1 (tgt := 35) d_Mo_work_5 (by decide) (by omega) (by omega) (fun h5 => ?_) (fun h5 => absurd h5 (by omega))
      refine lv_iconst (v := nI 0) X.1 X.2.1 d_Mo_work_35 (by decide) ?_
      refine lv_istore_n X.1 X.2.1 d_Mo_work_36 rfl hl (by decide) rfl (fun ls hl => ?_)
      have hl : lv_has ls 6 [(3, .int (nI 0)), (0, .ref (ad 224)), (1, .int (nI g)), (2, .int (nI r'))] := hl
      exact lp2 12 0 _ rfl hc (fun t ht => g1 t (by omega)) (fun j hj => absurd hj (Nat.not_lt_zero _)) H locs ls hP hS (lv_sub hl [0, 1, 2, 3] rfl)
    | succ k ih =>
      intro i τ hik hc g1 H locs ls hP hS hl
      refine lv_iload_n X.1 X.2.1 d_Mo_work_2 rfl (lv_at hl 0 rfl) ?_
      refine lv_bipush (v := nI 20) X.1 X.2.1 d_Mo_work_3 (by decide) ?_
      refine gx_icmp_gt X.1 X.2.1 (tgt := 35) d_Mo_work_5 (by decide) (by omega) (by omega) (fun h5 => absurd h5 (by omega)) (fun h5 => ?_)
      refine lv_aload_n X.1 X.2.1 d_Mo_work_8 rfl (lv_at hl 1 rfl) ?_
      refine gg_Mo_47 X hP d_Mo_work_9 ?_
      refine lv_iload_n X.1 X.2.1 d_Mo_work_12 rfl (lv_at hl 0 rfl) ?_
      refine lv_iconst (v := nI 0) X.1 X.2.1 d_Mo_work_13 (by decide) ?_
      refine gs_237 (by omega) X hJ hP hS d_Mo_work_14 (fun H locs hP hS => ?_)
      refine lv_aload_n X.1 X.2.1 d_Mo_work_15 rfl (lv_at hl 1 rfl) ?_
      refine gg_Mo_50 X hP d_Mo_work_16 ?_
      refine lv_iload_n X.1 X.2.1 d_Mo_work_19 rfl (lv_at hl 0 rfl) ?_
      refine lv_iconst (v := nI 0) X.1 X.2.1 d_Mo_work_20 (by decide) ?_
      refine gs_238 (by omega) (by omega) X hJ hP hS d_Mo_work_21 (fun H locs hP hS => ?_)
      refine lv_aload_n X.1 X.2.1 d_Mo_work_22 rfl (lv_at hl 1 rfl) ?_
      refine gg_Mo_53 X hP d_Mo_work_23 ?_
      refine lv_iload_n X.1 X.2.1 d_Mo_work_26 rfl (lv_at hl 0 rfl) ?_
      refine lv_iconst (v := nI 0) X.1 X.2.1 d_Mo_work_27 (by decide) ?_
      refine gs_239 (by omega) X hJ hP hS d_Mo_work_28 (fun H locs hP hS => ?_)
      refine lv_iinc (k := 0) (v := nI (i + 1)) X.1 X.2.1 d_Mo_work_29 hl rfl (nI_add _ _) (by decide) rfl (fun ls hl => ?_)
      have hl : lv_has ls 6 [(3, .int (nI (i + 1))), (0, .ref (ad 224)), (1, .int (nI g)), (2, .int (nI r'))] := hl
      refine lv_goto (tgt := 2) X.1 X.2.1 d_Mo_work_32 (by decide) ?_
      refine ih (i + 1) _ (by omega) (mC_trans hc (mC_trans (mC_w (by omega)) (mC_trans (mC_w (by omega)) (mC_w (by omega))))) ?_ H locs ls hP hS (lv_sub hl [0, 1, 2, 3] rfl)
      intro t ht
      simp only [gx_w_at]
      by_cases q : t = i
      · simp [q]
      · have := g1 t (by omega)
        simp [q]
        exact this
  refine lv_iconst (v := nI 0) X.1 X.2.1 d_Mo_work_0 (by decide) ?_
  refine lv_istore_n X.1 X.2.1 d_Mo_work_1 rfl hl (by decide) rfl (fun ls hl => ?_)
  have hl : lv_has ls 6 [(3, .int (nI 0)), (0, .ref (ad 224)), (1, .int (nI g)), (2, .int (nI r'))] := hl
  exact lp1 21 0 σ rfl (mC_rfl _) (fun j hj => absurd hj (Nat.not_lt_zero _)) _ _ ls hP hS (lv_sub hl [0, 1, 2, 3] rfl)
set_option maxRecDepth 100000 in
set_option maxHeartbeats 4000000 in
theorem K_Mo_work_d (l : Launch) (dC : Nat → ClassId) (dI : Nat → Nat → Nat) (cx : Nat → ClassId) (ad : Nat → Nat) (hJ : gx_J gx_N ad (gx_A gx_N ad)) (σ : gx_M) (a : ab_S) (r' : Nat) (hx : mr σ a) (hw : ab_W a) (hv : ab_V a) (h1 : r' < 3) : cg_Mv l dC dI cx ad y_Mo_work w_Mo_work 4 [.ref (ad 224), .int (nI 3), .int (nI r')] σ (fun σ' => (∀ t, t < 21 → σ' 239 t = ab_ds a r' t) ∧ mC σ σ') := by
  refine gx_ofW (cc := c_Mo_work) (maxL := 6) (ret := (Option.none : Option Jvm.ClassFile.FieldType)) (by decide) rfl (Nat.le_of_ble_eq_true rfl) ?_
  intro p e s m below meth c ls S hr hlk hK hN hl hP
  have X : cg_X c_Mo_work "CommitGroupsModel" 6 dC dI cx p m c s _ := ⟨S.1, S.2.1, S.2.2.2.1, fun w h => S.2.2.2.2 w (List.mem_cons_of_mem _ h), hK, hN, S.2.2.1⟩
  have hS : va_S (gx_A gx_N ad) s.heap s.heap [] := va_S.rf
  have hl : lv_has ls 6 [(0, .ref (ad 224)), (1, .int (nI 3)), (2, .int (nI r'))] := hl
  obtain ⟨y1, y2, y3, y4, y5⟩ := (hx.2.2.1 3 r' (by omega) h1)
  obtain ⟨w1, w2, w3, -⟩ := hw.2.2 3 r' (by omega) h1
  have lp3 : ∀ (k : Nat) (i : Nat) (τ : gx_M), i + k = ab_dn a 3 r' → mC σ τ → mD τ (pu_ds ((ab_lg a 3 r').take i)) → ∀ (H : Heap) (locs : List Loc) (ls : Array Slot), cg_P dC dI cx ad τ H → va_S (gx_A gx_N ad) s.heap H locs → lv_has ls 6 [(4, .int (nI i)), (3, .int (nI (3 * 3 + r'))), (0, .ref (ad 224)), (1, .int (nI 3)), (2, .int (nI r'))] → W p l e (rmL 4) s m ([.ref (ad 224), .int (nI 3), .int (nI r')] : List Value).toArray below meth c H locs 0 0 (cg_Qv dC dI cx ad (fun σ' => (∀ t, t < 21 → σ' 239 t = ab_ds a r' t) ∧ mC σ σ') below [.ref (ad 224), .int (nI 3), .int (nI r')] s) (F0 m 65 ls []) := by
    intro k
    induction k with
    | zero =>
      intro i τ hik hc hst H locs ls hP hS hl
      refine lv_iload X.1 X.2.1 d_Mo_work_65 (lv_at hl 0 rfl) ?_
      refine lv_aload_n X.1 X.2.1 d_Mo_work_67 rfl (lv_at hl 2 rfl) ?_
      refine gg_Mo_35 X hP d_Mo_work_68 ?_
      refine lv_iload_n X.1 X.2.1 d_Mo_work_71 rfl (lv_at hl 1 rfl) ?_
      refine ga_233 (by omega) X hP d_Mo_work_72 ?_
      rw [hc.1 233 (by decide) (by decide), y4]
      refine gx_icmp_ge X.1 X.2.1 (tgt := 111) d_Mo_work_73 (by decide) (by omega) (by omega) (fun h73 => ?_) (fun h73 => absurd h73 (by omega))
      refine gx_vret X.1 X.2.1 hr hlk hP hS d_Mo_work_111 ?_
      obtain rfl : i = ab_dn a 3 r' := by omega
      exact ⟨fun t ht => (hst t ht).1, hc⟩
    | succ k ih =>
      intro i τ hik hc hst H locs ls hP hS hl
      refine lv_iload X.1 X.2.1 d_Mo_work_65 (lv_at hl 0 rfl) ?_
      refine lv_aload_n X.1 X.2.1 d_Mo_work_67 rfl (lv_at hl 2 rfl) ?_
      refine gg_Mo_35 X hP d_Mo_work_68 ?_
      refine lv_iload_n X.1 X.2.1 d_Mo_work_71 rfl (lv_at hl 1 rfl) ?_
      refine ga_233 (by omega) X hP d_Mo_work_72 ?_
      rw [hc.1 233 (by decide) (by decide), y4]
      refine gx_icmp_ge X.1 X.2.1 (tgt := 111) d_Mo_work_73 (by decide) (by omega) (by omega) (fun h73 => absurd h73 (by omega)) (fun h73 => ?_)
      obtain ⟨en, he⟩ : ∃ en, (ab_lg a 3 r')[i]? = some en := ⟨(ab_lg a 3 r')[i], List.getElem?_eq_getElem (by omega)⟩
      have ev := hv 3 r' (by omega) h1 en (List.mem_of_getElem? he)
      have ew := (hw.2.2 3 r' (by omega) h1).2.2.2 en (List.mem_of_getElem? he)
      have el := y5 i en he
      refine lv_aload_n X.1 X.2.1 d_Mo_work_76 rfl (lv_at hl 2 rfl) ?_
      refine gg_Mo_38 X hP d_Mo_work_77 ?_
      refine lv_bipush (v := nI 60) X.1 X.2.1 d_Mo_work_80 (by decide) ?_
      refine lv_iload_n X.1 X.2.1 d_Mo_work_82 rfl (lv_at hl 1 rfl) ?_
      refine gx_imul X.1 X.2.1 d_Mo_work_83 ?_
      refine lv_iload X.1 X.2.1 d_Mo_work_84 (lv_at hl 0 rfl) ?_
      refine gx_iadd X.1 X.2.1 d_Mo_work_86 ?_
      refine ga_234 (by omega) X hP d_Mo_work_87 ?_
      rw [hc.1 234 (by decide) (by decide), el]
      refine lv_istore X.1 X.2.1 d_Mo_work_88 hl (by decide) rfl (fun ls hl => ?_)
      have hl : lv_has ls 6 [(5, .int (nI (32 * (en.1 + 1) + en.2))), (4, .int (nI i)), (3, .int (nI (3 * 3 + r'))), (0, .ref (ad 224)), (1, .int (nI 3)), (2, .int (nI r'))] := hl
      refine lv_aload_n X.1 X.2.1 d_Mo_work_90 rfl (lv_at hl 3 rfl) ?_
      refine lv_iload_n X.1 X.2.1 d_Mo_work_91 rfl (lv_at hl 4 rfl) ?_
      refine lv_iload X.1 X.2.1 d_Mo_work_92 (lv_at hl 0 rfl) ?_
      refine lv_bipush (v := nI 32) X.1 X.2.1 d_Mo_work_94 (by decide) ?_
      refine gx_idiv X.1 X.2.1 d_Mo_work_96 (by omega) (by decide) (by decide) ?_
      rw [show (32 * (en.1 + 1) + en.2) / 32 = en.1 + 1 by omega]
      refine lv_iload X.1 X.2.1 d_Mo_work_97 (lv_at hl 0 rfl) ?_
      refine lv_bipush (v := nI 32) X.1 X.2.1 d_Mo_work_99 (by decide) ?_
      refine gx_irem X.1 X.2.1 d_Mo_work_101 (by omega) (by decide) (by decide) ?_
      rw [show (32 * (en.1 + 1) + en.2) % 32 = en.2 by omega]
      refine cv_Mo_86 (rest := []) X hJ hP hS (by decide) (ec_Mo_0 _) (K_Mo_execute_d l dC dI cx ad hJ τ a (pu_ds ((ab_lg a 3 r').take i)) en.1 en.2 (mr_mC hx hc) hw hst (by omega) (by omega) (ev.2.2 rfl)) rfl rfl (by decide) hl.1 (Nat.le_of_ble_eq_true rfl) ⟨Nat.le_refl _, Nat.le_refl _⟩ d_Mo_work_102 (fun σ' H locs hq hP hS => ?_)
      obtain ⟨q1, q2⟩ := hq
      refine lv_iinc (k := 1) (v := nI (i + 1)) X.1 X.2.1 d_Mo_work_105 hl rfl (nI_add _ _) (by decide) rfl (fun ls hl => ?_)
      have hl : lv_has ls 6 [(4, .int (nI (i + 1))), (5, .int (nI (32 * (en.1 + 1) + en.2))), (3, .int (nI (3 * 3 + r'))), (0, .ref (ad 224)), (1, .int (nI 3)), (2, .int (nI r'))] := hl
      refine lv_goto (tgt := 65) X.1 X.2.1 d_Mo_work_108 (by decide) ?_
      refine ih (i + 1) _ (by omega) (mC_trans hc q2) ?_ H locs ls hP hS (lv_sub hl [0, 2, 3, 4, 5] rfl)
      rw [pu_take_succ he, pu_ds_snoc]
      exact q1
  have lp2 : ∀ (k : Nat) (i : Nat) (τ : gx_M), i + k = 12 → mC σ τ → (∀ t, t < 21 → τ 237 t = 0 ∧ τ 238 t = 0 ∧ τ 239 t = 0) → (∀ j, j < i → τ 240 j = 0) → ∀ (H : Heap) (locs : List Loc) (ls : Array Slot), cg_P dC dI cx ad τ H → va_S (gx_A gx_N ad) s.heap H locs → lv_has ls 6 [(3, .int (nI i)), (0, .ref (ad 224)), (1, .int (nI 3)), (2, .int (nI r'))] → W p l e (rmL 4) s m ([.ref (ad 224), .int (nI 3), .int (nI r')] : List Value).toArray below meth c H locs 0 0 (cg_Qv dC dI cx ad (fun σ' => (∀ t, t < 21 → σ' 239 t = ab_ds a r' t) ∧ mC σ σ') below [.ref (ad 224), .int (nI 3), .int (nI r')] s) (F0 m 37 ls []) := by
    intro k
    induction k with
    | zero =>
      intro i τ hik hc g1 g2 H locs ls hP hS hl
      refine lv_iload_n X.1 X.2.1 d_Mo_work_37 rfl (lv_at hl 0 rfl) ?_
      refine lv_bipush (v := nI 12) X.1 X.2.1 d_Mo_work_38 (by decide) ?_
      refine gx_icmp_ge X.1 X.2.1 (tgt := 56) d_Mo_work_40 (by decide) (by omega) (by omega) (fun h40 => ?_) (fun h40 => absurd h40 (by omega))
      refine lv_iconst (v := nI 3) X.1 X.2.1 d_Mo_work_56 (by decide) ?_
      refine lv_iload_n X.1 X.2.1 d_Mo_work_57 rfl (lv_at hl 2 rfl) ?_
      refine gx_imul X.1 X.2.1 d_Mo_work_58 ?_
      refine lv_iload_n X.1 X.2.1 d_Mo_work_59 rfl (lv_at hl 3 rfl) ?_
      refine gx_iadd X.1 X.2.1 d_Mo_work_60 ?_
      refine lv_istore_n X.1 X.2.1 d_Mo_work_61 rfl hl (by decide) rfl (fun ls hl => ?_)
      have hl : lv_has ls 6 [(3, .int (nI ((3 * 3) + r'))), (0, .ref (ad 224)), (1, .int (nI 3)), (2, .int (nI r'))] := hl
      refine lv_iconst (v := nI 0) X.1 X.2.1 d_Mo_work_62 (by decide) ?_
      refine lv_istore X.1 X.2.1 d_Mo_work_63 hl (by decide) rfl (fun ls hl => ?_)
      have hl : lv_has ls 6 [(4, .int (nI 0)), (3, .int (nI ((3 * 3) + r'))), (0, .ref (ad 224)), (1, .int (nI 3)), (2, .int (nI r'))] := hl
      refine lp3 _ 0 _ (Nat.zero_add _) hc ?_ H locs ls hP hS (lv_sub hl [0, 1, 2, 3, 4] rfl)
      intro t ht
      obtain ⟨z1, z2, z3⟩ := g1 t ht
      exact ⟨z3, z2, by rw [z1]; decide⟩
    | succ k ih =>
      intro i τ hik hc g1 g2 H locs ls hP hS hl
      refine lv_iload_n X.1 X.2.1 d_Mo_work_37 rfl (lv_at hl 0 rfl) ?_
      refine lv_bipush (v := nI 12) X.1 X.2.1 d_Mo_work_38 (by decide) ?_
      refine gx_icmp_ge X.1 X.2.1 (tgt := 56) d_Mo_work_40 (by decide) (by omega) (by omega) (fun h40 => absurd h40 (by omega)) (fun h40 => ?_)
      refine lv_aload_n X.1 X.2.1 d_Mo_work_43 rfl (lv_at hl 1 rfl) ?_
      refine gg_Mo_56 X hP d_Mo_work_44 ?_
      refine lv_iload_n X.1 X.2.1 d_Mo_work_47 rfl (lv_at hl 0 rfl) ?_
      refine lv_iconst (v := nI 0) X.1 X.2.1 d_Mo_work_48 (by decide) ?_
      refine gs_240 (by omega) X hJ hP hS d_Mo_work_49 (fun H locs hP hS => ?_)
      refine lv_iinc (k := 0) (v := nI (i + 1)) X.1 X.2.1 d_Mo_work_50 hl rfl (nI_add _ _) (by decide) rfl (fun ls hl => ?_)
      have hl : lv_has ls 6 [(3, .int (nI (i + 1))), (0, .ref (ad 224)), (1, .int (nI 3)), (2, .int (nI r'))] := hl
      refine lv_goto (tgt := 37) X.1 X.2.1 d_Mo_work_53 (by decide) ?_
      refine ih (i + 1) _ (by omega) (mC_trans hc (mC_w (by omega))) ?_ ?_ H locs ls hP hS (lv_sub hl [0, 1, 2, 3] rfl)
      · intro t ht; rw [gx_w_row _ _ _ (by decide), gx_w_row _ _ _ (by decide), gx_w_row _ _ _ (by decide)]; exact g1 t ht
      · intro j hj
        by_cases q : j = i
        · rw [q, gx_w_self]
        · rw [gx_w_col _ _ _ q]; exact g2 j (by omega)
  have lp1 : ∀ (k : Nat) (i : Nat) (τ : gx_M), i + k = 21 → mC σ τ → (∀ t, t < i → τ 237 t = 0 ∧ τ 238 t = 0 ∧ τ 239 t = 0) → ∀ (H : Heap) (locs : List Loc) (ls : Array Slot), cg_P dC dI cx ad τ H → va_S (gx_A gx_N ad) s.heap H locs → lv_has ls 6 [(3, .int (nI i)), (0, .ref (ad 224)), (1, .int (nI 3)), (2, .int (nI r'))] → W p l e (rmL 4) s m ([.ref (ad 224), .int (nI 3), .int (nI r')] : List Value).toArray below meth c H locs 0 0 (cg_Qv dC dI cx ad (fun σ' => (∀ t, t < 21 → σ' 239 t = ab_ds a r' t) ∧ mC σ σ') below [.ref (ad 224), .int (nI 3), .int (nI r')] s) (F0 m 2 ls []) := by
    intro k
    induction k with
    | zero =>
      intro i τ hik hc g1 H locs ls hP hS hl
      refine lv_iload_n X.1 X.2.1 d_Mo_work_2 rfl (lv_at hl 0 rfl) ?_
      refine lv_bipush (v := nI 20) X.1 X.2.1 d_Mo_work_3 (by decide) ?_
      refine gx_icmp_gt X.1 X.2.1 (tgt := 35) d_Mo_work_5 (by decide) (by omega) (by omega) (fun h5 => ?_) (fun h5 => absurd h5 (by omega))
      refine lv_iconst (v := nI 0) X.1 X.2.1 d_Mo_work_35 (by decide) ?_
      refine lv_istore_n X.1 X.2.1 d_Mo_work_36 rfl hl (by decide) rfl (fun ls hl => ?_)
      have hl : lv_has ls 6 [(3, .int (nI 0)), (0, .ref (ad 224)), (1, .int (nI 3)), (2, .int (nI r'))] := hl
      exact lp2 12 0 _ rfl hc (fun t ht => g1 t (by omega)) (fun j hj => absurd hj (Nat.not_lt_zero _)) H locs ls hP hS (lv_sub hl [0, 1, 2, 3] rfl)
    | succ k ih =>
      intro i τ hik hc g1 H locs ls hP hS hl
      refine lv_iload_n X.1 X.2.1 d_Mo_work_2 rfl (lv_at hl 0 rfl) ?_
      refine lv_bipush (v := nI 20) X.1 X.2.1 d_Mo_work_3 (by decide) ?_
      refine gx_icmp_gt X.1 X.2.1 (tgt := 35) d_Mo_work_5 (by decide) (by omega) (by omega) (fun h5 => absurd h5 (by omega)) (fun h5 => ?_)
      refine lv_aload_n X.1 X.2.1 d_Mo_work_8 rfl (lv_at hl 1 rfl) ?_
      refine gg_Mo_47 X hP d_Mo_work_9 ?_
      refine lv_iload_n X.1 X.2.1 d_Mo_work_12 rfl (lv_at hl 0 rfl) ?_
      refine lv_iconst (v := nI 0) X.1 X.2.1 d_Mo_work_13 (by decide) ?_
      refine gs_237 (by omega) X hJ hP hS d_Mo_work_14 (fun H locs hP hS => ?_)
      refine lv_aload_n X.1 X.2.1 d_Mo_work_15 rfl (lv_at hl 1 rfl) ?_
      refine gg_Mo_50 X hP d_Mo_work_16 ?_
      refine lv_iload_n X.1 X.2.1 d_Mo_work_19 rfl (lv_at hl 0 rfl) ?_
      refine lv_iconst (v := nI 0) X.1 X.2.1 d_Mo_work_20 (by decide) ?_
      refine gs_238 (by omega) (by omega) X hJ hP hS d_Mo_work_21 (fun H locs hP hS => ?_)
      refine lv_aload_n X.1 X.2.1 d_Mo_work_22 rfl (lv_at hl 1 rfl) ?_
      refine gg_Mo_53 X hP d_Mo_work_23 ?_
      refine lv_iload_n X.1 X.2.1 d_Mo_work_26 rfl (lv_at hl 0 rfl) ?_
      refine lv_iconst (v := nI 0) X.1 X.2.1 d_Mo_work_27 (by decide) ?_
      refine gs_239 (by omega) X hJ hP hS d_Mo_work_28 (fun H locs hP hS => ?_)
      refine lv_iinc (k := 0) (v := nI (i + 1)) X.1 X.2.1 d_Mo_work_29 hl rfl (nI_add _ _) (by decide) rfl (fun ls hl => ?_)
      have hl : lv_has ls 6 [(3, .int (nI (i + 1))), (0, .ref (ad 224)), (1, .int (nI 3)), (2, .int (nI r'))] := hl
      refine lv_goto (tgt := 2) X.1 X.2.1 d_Mo_work_32 (by decide) ?_
      refine ih (i + 1) _ (by omega) (mC_trans hc (mC_trans (mC_w (by omega)) (mC_trans (mC_w (by omega)) (mC_w (by omega))))) ?_ H locs ls hP hS (lv_sub hl [0, 1, 2, 3] rfl)
      intro t ht
      simp only [gx_w_at]
      by_cases q : t = i
      · simp [q]
      · have := g1 t (by omega)
        simp [q]
        exact this
  refine lv_iconst (v := nI 0) X.1 X.2.1 d_Mo_work_0 (by decide) ?_
  refine lv_istore_n X.1 X.2.1 d_Mo_work_1 rfl hl (by decide) rfl (fun ls hl => ?_)
  have hl : lv_has ls 6 [(3, .int (nI 0)), (0, .ref (ad 224)), (1, .int (nI 3)), (2, .int (nI r'))] := hl
  exact lp1 21 0 σ rfl (mC_rfl _) (fun j hj => absurd hj (Nat.not_lt_zero _)) _ _ ls hP hS (lv_sub hl [0, 1, 2, 3] rfl)
