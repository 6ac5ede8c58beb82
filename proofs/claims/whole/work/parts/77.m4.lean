/-! contracts: the reference: append, elect, refusals, reads -/
set_option maxRecDepth 100000 in
set_option maxHeartbeats 4000000 in
theorem K_Mo_append (l : Launch) (dC : Nat → ClassId) (dI : Nat → Nat → Nat) (cx : Nat → ClassId) (ad : Nat → Nat) (hJ : gx_J gx_N ad (gx_A gx_N ad)) (σ : gx_M) (a : ab_S) (g kd t : Nat) (hx : mr σ a) (hw : ab_W a) (hg : g < 4) (ht1 : 1 ≤ t) (ht2 : t ≤ 20) (hkd : kd ≤ 2) : cg_Mi l dC dI cx ad y_Mo_append w_Mo_append 2 [.ref (ad 224), .int (nI g), .int (nI (kd + 1)), .int (nI t)] σ (fun r σ' => r = Int32.ofInt (ab_log a g (kd, t)).1 ∧ mr σ' (ab_log a g (kd, t)).2 ∧ ∀ n, n < 231 ∨ 234 < n → σ' n = σ n) := by
  refine gx_ofW (cc := c_Mo_append) (maxL := 6) (ret := (Option.some Jvm.ClassFile.FieldType.int)) (by decide) rfl (Nat.le_of_ble_eq_true rfl) ?_
  intro p e s m below meth c ls S hr hlk hK hN hl hP
  have X : cg_X c_Mo_append "CommitGroupsModel" 6 dC dI cx p m c s _ := ⟨S.1, S.2.1, S.2.2.2.1, fun w h => S.2.2.2.2 w (List.mem_cons_of_mem _ h), hK, hN, S.2.2.1⟩
  have hS : va_S (gx_A gx_N ad) s.heap s.heap [] := va_S.rf
  have hl : lv_has ls 6 [(0, .ref (ad 224)), (1, .int (nI g)), (2, .int (nI (kd + 1))), (3, .int (nI t))] := hl
  refine lv_aload_n X.1 X.2.1 d_Mo_append_0 rfl (lv_at hl 0 rfl) ?_
  refine lv_iload_n X.1 X.2.1 d_Mo_append_1 rfl (lv_at hl 1 rfl) ?_
  refine cv_Mo_97 (rest := []) X hJ hP hS (by decide) (ec_Mo_0 _) (K_Mo_leader l dC dI cx ad hJ _ a (nI g) hx hw) rfl rfl (by decide) hl.1 (Nat.le_of_ble_eq_true rfl) ⟨Nat.le_refl _, Nat.le_refl _⟩ d_Mo_append_2 (fun r σ' H locs hq hP hS => ?_)
  obtain ⟨hq0, rfl⟩ := hq
  rw [hq0] at hP
  rcases ab_leader_c a (g := g) hg with ⟨hld, hqr⟩ | ⟨hld, hlt, hup, hqr⟩ <;> rw [hqr]
  · skip
    refine lv_istore X.1 X.2.1 d_Mo_append_5 hl (by decide) rfl (fun ls hl => ?_)
    have hl : lv_has ls 6 [(4, .int (-1)), (0, .ref (ad 224)), (1, .int (nI g)), (2, .int (nI (kd + 1))), (3, .int (nI t))] := hl
    refine lv_iload X.1 X.2.1 d_Mo_append_7 (lv_at hl 0 rfl) ?_
    refine lv_if_ge X.1 X.2.1 (tgt := 15) d_Mo_append_9 (by decide) (fun h9 => absurd h9 (by decide)) (fun h9 => ?_)
    refine lv_bipush (v := -3) X.1 X.2.1 d_Mo_append_12 (by decide) ?_
    refine gx_iret X.1 X.2.1 hr hlk hP hS d_Mo_append_14 ?_
    have e : ab_log a g (kd, t) = (-3, a) := by unfold ab_log; rw [if_pos hld]
    rw [e]
    exact ⟨rfl, hx, fun n _ => rfl⟩
  · skip
    obtain ⟨p0, q0, l0, d0, -⟩ := hx.2.2.1 g (ab_ld a g) hg hld
    have hwl := (hw.2.2 g (ab_ld a g) hg hld).1
    refine lv_istore X.1 X.2.1 d_Mo_append_5 hl (by decide) rfl (fun ls hl => ?_)
    have hl : lv_has ls 6 [(4, .int (nI (ab_ld a g))), (0, .ref (ad 224)), (1, .int (nI g)), (2, .int (nI (kd + 1))), (3, .int (nI t))] := hl
    refine lv_iload X.1 X.2.1 d_Mo_append_7 (lv_at hl 0 rfl) ?_
    refine gx_if_ge X.1 X.2.1 (tgt := 15) d_Mo_append_9 (by decide) (by omega) ?_
    refine lv_iconst (v := nI 3) X.1 X.2.1 d_Mo_append_15 (by decide) ?_
    refine lv_iload_n X.1 X.2.1 d_Mo_append_16 rfl (lv_at hl 2 rfl) ?_
    refine gx_imul X.1 X.2.1 d_Mo_append_17 ?_
    refine lv_iload X.1 X.2.1 d_Mo_append_18 (lv_at hl 0 rfl) ?_
    refine gx_iadd X.1 X.2.1 d_Mo_append_20 ?_
    refine lv_istore X.1 X.2.1 d_Mo_append_21 hl (by decide) rfl (fun ls hl => ?_)
    have hl : lv_has ls 6 [(5, .int (nI ((3 * g) + (ab_ld a g)))), (4, .int (nI (ab_ld a g))), (0, .ref (ad 224)), (1, .int (nI g)), (2, .int (nI (kd + 1))), (3, .int (nI t))] := hl
    refine lv_aload_n X.1 X.2.1 d_Mo_append_23 rfl (lv_at hl 2 rfl) ?_
    refine gg_Mo_32 X hP d_Mo_append_24 ?_
    refine lv_iload X.1 X.2.1 d_Mo_append_27 (lv_at hl 0 rfl) ?_
    refine ga_232 (by omega) X hP d_Mo_append_29 ?_
    rw [l0]
    refine lv_bipush (v := nI 60) X.1 X.2.1 d_Mo_append_30 (by decide) ?_
    refine gx_icmp_lt X.1 X.2.1 (tgt := 38) d_Mo_append_32 (by decide) (by omega) (by omega) (fun h32 => ?_) (fun h32 => ?_)
    · skip
      refine lv_aload_n X.1 X.2.1 d_Mo_append_38 rfl (lv_at hl 2 rfl) ?_
      refine gg_Mo_38 X hP d_Mo_append_39 ?_
      refine lv_bipush (v := nI 60) X.1 X.2.1 d_Mo_append_42 (by decide) ?_
      refine lv_iload X.1 X.2.1 d_Mo_append_44 (lv_at hl 0 rfl) ?_
      refine gx_imul X.1 X.2.1 d_Mo_append_46 ?_
      refine lv_aload_n X.1 X.2.1 d_Mo_append_47 rfl (lv_at hl 2 rfl) ?_
      refine gg_Mo_32 X hP d_Mo_append_48 ?_
      refine lv_iload X.1 X.2.1 d_Mo_append_51 (lv_at hl 0 rfl) ?_
      refine ga_232 (by omega) X hP d_Mo_append_53 ?_
      rw [l0]
      refine gx_iadd X.1 X.2.1 d_Mo_append_54 ?_
      refine lv_bipush (v := nI 32) X.1 X.2.1 d_Mo_append_55 (by decide) ?_
      refine lv_iload_n X.1 X.2.1 d_Mo_append_57 rfl (lv_at hl 4 rfl) ?_
      refine gx_imul X.1 X.2.1 d_Mo_append_58 ?_
      refine lv_iload_n X.1 X.2.1 d_Mo_append_59 rfl (lv_at hl 5 rfl) ?_
      refine gx_iadd X.1 X.2.1 d_Mo_append_60 ?_
      refine gs_234 (by omega) X hJ hP hS d_Mo_append_61 (fun H locs hP hS => ?_)
      refine lv_aload_n X.1 X.2.1 d_Mo_append_62 rfl (lv_at hl 2 rfl) ?_
      refine gg_Mo_32 X hP d_Mo_append_63 ?_
      refine lv_iload X.1 X.2.1 d_Mo_append_66 (lv_at hl 0 rfl) ?_
      refine lv_dup2_11 X.1 X.2.1 d_Mo_append_68 rfl rfl ?_
      refine ga_232 (by omega) X hP d_Mo_append_69 ?_
      rw [gx_w_row _ _ _ (show (232 : Nat) ≠ 234 by decide), l0]
      refine lv_iconst (v := nI 1) X.1 X.2.1 d_Mo_append_70 (by decide) ?_
      refine gx_iadd X.1 X.2.1 d_Mo_append_71 ?_
      refine gs_232 (by omega) X hJ hP hS d_Mo_append_72 (fun H locs hP hS => ?_)
      refine lv_aload_n X.1 X.2.1 d_Mo_append_73 rfl (lv_at hl 2 rfl) ?_
      refine lv_iload_n X.1 X.2.1 d_Mo_append_74 rfl (lv_at hl 3 rfl) ?_
      refine lv_iload X.1 X.2.1 d_Mo_append_75 (lv_at hl 1 rfl) ?_
      refine lv_aload_n X.1 X.2.1 d_Mo_append_77 rfl (lv_at hl 2 rfl) ?_
      refine gg_Mo_29 X hP d_Mo_append_78 ?_
      refine lv_iload X.1 X.2.1 d_Mo_append_81 (lv_at hl 0 rfl) ?_
      refine ga_231 (by omega) X hP d_Mo_append_83 ?_
      rw [gx_w_row _ _ _ (show (231 : Nat) ≠ 232 by decide), gx_w_row _ _ _ (show (231 : Nat) ≠ 234 by decide), q0]
      refine cv_Mo_100 (rest := []) X hJ hP hS (by decide) (ec_Mo_0 _) (K_Mo_spread l dC dI cx ad hJ _ (ab_setlg a g (ab_ld a g) (ab_lg a g (ab_ld a g) ++ [(kd, t)])) g (ab_ld a g) (ab_vi a g (ab_ld a g)) (mr_app hx hw hg hld (kd, t) h32) (ab_W_app hw h32 ⟨ht1, ht2, hkd⟩) hg hld hup (Or.inr rfl)) rfl rfl (by decide) hl.1 (Nat.le_of_ble_eq_true rfl) ⟨Nat.le_refl _, Nat.le_refl _⟩ d_Mo_append_84 (fun σ' H locs hq hP hS => ?_)
      obtain ⟨q1, q2⟩ := hq
      refine lv_aload_n X.1 X.2.1 d_Mo_append_87 rfl (lv_at hl 2 rfl) ?_
      refine lv_iload_n X.1 X.2.1 d_Mo_append_88 rfl (lv_at hl 3 rfl) ?_
      refine cv_Mo_94 (rest := []) X hJ hP hS (by decide) (ec_Mo_0 _) (K_Mo_living l dC dI cx ad hJ σ' g (ab_up a g) hg (fun r hr => by rw [q2 230 (by decide), gx_w_row _ _ _ (by decide), gx_w_row _ _ _ (by decide)]; exact (hx.2.2.1 g r hg hr).1)) rfl rfl (by decide) hl.1 (Nat.le_of_ble_eq_true rfl) ⟨Nat.le_refl _, Nat.le_refl _⟩ d_Mo_append_89 (fun r υ H locs hq hP hS => ?_)
      obtain ⟨hq0, rfl⟩ := hq
      rw [hq0] at hP
      have hc3 : pu_cnt (ab_up a g) < 2 ^ 31 := by unfold pu_cnt; split <;> split <;> split <;> decide
      refine lv_iconst (v := nI 2) X.1 X.2.1 d_Mo_append_92 (by decide) ?_
      refine gx_icmp_lt X.1 X.2.1 (tgt := 100) d_Mo_append_93 (by decide) (by omega) (by omega) (fun h93 => ?_) (fun h93 => ?_)
      · skip
        refine lv_bipush (v := -5) X.1 X.2.1 d_Mo_append_100 (by decide) ?_
        refine gx_iret X.1 X.2.1 hr hlk hP hS d_Mo_append_102 ?_
        have e : ab_log a g (kd, t) = (-5, (ab_setlg a g (ab_ld a g) (ab_lg a g (ab_ld a g) ++ [(kd, t)]))) := by unfold ab_log; rw [if_neg (by omega), if_neg (by omega), if_pos (by omega)]
        rw [e]
        rw [if_neg (show ¬ 2 ≤ pu_cnt (ab_up (ab_setlg a g (ab_ld a g) (ab_lg a g (ab_ld a g) ++ [(kd, t)])) g) from fun z => by have z : 2 ≤ pu_cnt (ab_up a g) := z; omega)] at q1
        exact ⟨rfl, q1, fun n hn => by rw [q2 n hn, gx_w_row _ _ _ (by omega), gx_w_row _ _ _ (by omega)]⟩
      · skip
        refine lv_iconst (v := nI 0) X.1 X.2.1 d_Mo_append_96 (by decide) ?_
        refine lv_goto (tgt := 102) X.1 X.2.1 d_Mo_append_97 (by decide) ?_
        refine gx_iret X.1 X.2.1 hr hlk hP hS d_Mo_append_102 ?_
        have eL : ab_lg (ab_setlg a g (ab_ld a g) (ab_lg a g (ab_ld a g) ++ [(kd, t)])) g (ab_ld a g) = ab_lg a g (ab_ld a g) ++ [(kd, t)] := by
          show pu_up (ab_lg a) g (pu_up (ab_lg a g) (ab_ld a g) _) g (ab_ld a g) = _
          rw [pu_up_self, pu_up_self]
        have e : ab_log a g (kd, t) = (0, ab_spread a g (ab_lg a g (ab_ld a g) ++ [(kd, t)]) (ab_vi a g (ab_ld a g))) := by unfold ab_log; rw [if_neg (by omega), if_neg (by omega), if_neg (by omega)]
        rw [e]
        rw [if_pos (show 2 ≤ pu_cnt (ab_up (ab_setlg a g (ab_ld a g) (ab_lg a g (ab_ld a g) ++ [(kd, t)])) g) from h93), eL, ab_spread_setlg _ hup] at q1
        exact ⟨rfl, q1, fun n hn => by rw [q2 n hn, gx_w_row _ _ _ (by omega), gx_w_row _ _ _ (by omega)]⟩
    · skip
      refine lv_bipush (v := -4) X.1 X.2.1 d_Mo_append_35 (by decide) ?_
      refine gx_iret X.1 X.2.1 hr hlk hP hS d_Mo_append_37 ?_
      have e : ab_log a g (kd, t) = (-4, a) := by unfold ab_log; rw [if_neg (by omega), if_pos (by omega)]
      rw [e]
      exact ⟨rfl, hx, fun n _ => rfl⟩
set_option maxRecDepth 100000 in
set_option maxHeartbeats 4000000 in
theorem K_Mo_elect (l : Launch) (dC : Nat → ClassId) (dI : Nat → Nat → Nat) (cx : Nat → ClassId) (ad : Nat → Nat) (hJ : gx_J gx_N ad (gx_A gx_N ad)) (σ : gx_M) (a : ab_S) (B : Nat) (gq : Int32) (I : ab_I B a) (hB : B + 3 < 2 ^ 30) (hx : mr σ a) : cg_Mi l dC dI cx ad y_Mo_elect w_Mo_elect 2 [.ref (ad 224), .int gq] σ (fun r σ' => r = Int32.ofInt (ab_elect a gq.toInt).1 ∧ mr σ' (ab_elect a gq.toInt).2 ∧ ∀ n, n < 224 → σ' n = σ n) := by
  refine gx_ofW (cc := c_Mo_elect) (maxL := 6) (ret := (Option.some Jvm.ClassFile.FieldType.int)) (by decide) rfl (Nat.le_of_ble_eq_true rfl) ?_
  intro p e s m below meth c ls S hr hlk hK hN hl hP
  have X : cg_X c_Mo_elect "CommitGroupsModel" 6 dC dI cx p m c s _ := ⟨S.1, S.2.1, S.2.2.2.1, fun w h => S.2.2.2.2 w (List.mem_cons_of_mem _ h), hK, hN, S.2.2.1⟩
  have hS : va_S (gx_A gx_N ad) s.heap s.heap [] := va_S.rf
  have hl : lv_has ls 6 [(0, .ref (ad 224)), (1, .int gq)] := hl
  have hw := ab_W_of I (by omega)
  have hn : σ 224 0 = ab_n a := hx.1
  have hn20 := hw.1
  refine lv_iload_n X.1 X.2.1 d_Mo_elect_0 rfl (lv_at hl 1 rfl) ?_
  refine lv_iconst (v := nI 0) X.1 X.2.1 d_Mo_elect_1 (by decide) ?_
  refine lv_iconst (v := nI 3) X.1 X.2.1 d_Mo_elect_2 (by decide) ?_
  refine cv_Mo_63 (rest := []) X hJ hP hS (K_Mo_in l dC dI cx ad hJ _ gq 0 3 (by omega) (by omega)) rfl rfl (by decide) hl.1 (Nat.le_of_ble_eq_true rfl) ⟨Nat.le_refl _, Nat.le_refl _⟩ d_Mo_elect_3 (fun r σ' H locs hq hP hS => ?_)
  obtain ⟨hq0, b3, rfl, hb3, hp3⟩ := hq
  rw [hq0] at hP
  refine gx_if_eq X.1 X.2.1 (tgt := 18) d_Mo_elect_6 (by decide) (by omega) (fun h6 => ?_) (fun h6 => ?_)
  · skip
    refine lv_iconst (v := -1) X.1 X.2.1 d_Mo_elect_18 (by decide) ?_
    refine gx_iret X.1 X.2.1 hr hlk hP hS d_Mo_elect_19 ?_
    have e : ab_elect a gq.toInt = (-1, a) := by unfold ab_elect; exact if_pos (fun hh => by have := hp3.mpr ⟨hh.1, hh.2.1⟩; omega)
    rw [e]
    exact ⟨rfl, hx, fun n _ => rfl⟩
  · skip
    have hh3 := hp3.mp (by omega)
    obtain ⟨g, rfl, g1, g2, g3⟩ := gi_of (t := gq) (n := 3) (by omega) (by omega)
    have hg : g < 4 := by omega
    have htop : ab_top a g < 2 ^ 30 := by unfold ab_top; rw [← gvf_top]; exact gvf_lt (by decide) (fun r hr => (hw.2.2 g r hg hr).2.1) 3 (Nat.le_refl 3)
    obtain ⟨p0, q0, l0, d0, -⟩ := hx.2.2.1 g 0 hg (by decide)
    have hxb0 := xb_le (!ab_up a g 0)
    have hwv0 := (hw.2.2 g 0 hg (by decide)).2.1
    have hwl0 := (hw.2.2 g 0 hg (by decide)).1
    obtain ⟨p1, q1, l1, d1, -⟩ := hx.2.2.1 g 1 hg (by decide)
    have hxb1 := xb_le (!ab_up a g 1)
    have hwv1 := (hw.2.2 g 1 hg (by decide)).2.1
    have hwl1 := (hw.2.2 g 1 hg (by decide)).1
    obtain ⟨p2, q2, l2, d2, -⟩ := hx.2.2.1 g 2 hg (by decide)
    have hxb2 := xb_le (!ab_up a g 2)
    have hwv2 := (hw.2.2 g 2 hg (by decide)).2.1
    have hwl2 := (hw.2.2 g 2 hg (by decide)).1
    refine lv_aload_n X.1 X.2.1 d_Mo_elect_9 rfl (lv_at hl 0 rfl) ?_
    refine lv_iload_n X.1 X.2.1 d_Mo_elect_10 rfl (lv_at hl 1 rfl) ?_
    refine cv_Mo_94 (rest := []) X hJ hP hS (by decide) (ec_Mo_0 _) (K_Mo_living l dC dI cx ad hJ _ g (ab_up a g) hg (fun r hr => (hx.2.2.1 g r hg hr).1)) rfl rfl (by decide) hl.1 (Nat.le_of_ble_eq_true rfl) ⟨Nat.le_refl _, Nat.le_refl _⟩ d_Mo_elect_11 (fun r σ' H locs hq hP hS => ?_)
    obtain ⟨hq0, rfl⟩ := hq
    rw [hq0] at hP
    have hc3 : pu_cnt (ab_up a g) < 2 ^ 31 := by unfold pu_cnt; split <;> split <;> split <;> decide
    refine lv_iconst (v := nI 2) X.1 X.2.1 d_Mo_elect_14 (by decide) ?_
    refine gx_icmp_ge X.1 X.2.1 (tgt := 20) d_Mo_elect_15 (by decide) (by omega) (by omega) (fun h15 => ?_) (fun h15 => ?_)
    · skip
      obtain ⟨e1, e2, e3, e4⟩ := ab_elect_sp I (g := g) hg h15
      have fin : ∀ (bi : Nat), bi = ab_best a g → ∀ (H : Heap) (locs : List Loc) (ls : Array Slot), cg_P dC dI cx ad σ H → va_S (gx_A gx_N ad) s.heap H locs → lv_has ls 6 [(3, .int (nI bi)), (2, .int (nI (ab_top a g))), (0, .ref (ad 224)), (1, .int (nI g))] → W p l e (rmL 2) s m ([.ref (ad 224), .int (nI g)] : List Value).toArray below meth c H locs 0 0 (cg_Qi dC dI cx ad (fun r σ' => r = Int32.ofInt (ab_elect a (nI g).toInt).1 ∧ mr σ' (ab_elect a (nI g).toInt).2 ∧ ∀ n, n < 224 → σ' n = σ n) below [.ref (ad 224), .int (nI g)] s) (F0 m 99 ls []) := by
        intro bi hbi H locs ls hP hS hl
        refine lv_iload_n X.1 X.2.1 d_Mo_elect_99 rfl (lv_at hl 1 rfl) ?_
        refine lv_iconst (v := nI 1) X.1 X.2.1 d_Mo_elect_100 (by decide) ?_
        refine gx_iadd X.1 X.2.1 d_Mo_elect_101 ?_
        refine lv_istore X.1 X.2.1 d_Mo_elect_102 hl (by decide) rfl (fun ls hl => ?_)
        have hl : lv_has ls 6 [(4, .int (nI ((ab_top a g) + 1))), (3, .int (nI bi)), (2, .int (nI (ab_top a g))), (0, .ref (ad 224)), (1, .int (nI g))] := hl
        refine lv_iconst (v := nI 0) X.1 X.2.1 d_Mo_elect_104 (by decide) ?_
        refine lv_istore X.1 X.2.1 d_Mo_elect_105 hl (by decide) rfl (fun ls hl => ?_)
        have hl : lv_has ls 6 [(5, .int (nI 0)), (4, .int (nI ((ab_top a g) + 1))), (3, .int (nI bi)), (2, .int (nI (ab_top a g))), (0, .ref (ad 224)), (1, .int (nI g))] := hl
        refine lv_iload X.1 X.2.1 d_Mo_elect_107 (lv_at hl 0 rfl) ?_
        refine lv_iconst (v := nI 2) X.1 X.2.1 d_Mo_elect_109 (by decide) ?_
        refine gx_icmp_ge X.1 X.2.1 (tgt := 138) d_Mo_elect_110 (by decide) (by omega) (by omega) (fun h110 => absurd h110 (by decide)) (fun h110 => ?_)
        refine lv_aload_n X.1 X.2.1 d_Mo_elect_113 rfl (lv_at hl 4 rfl) ?_
        refine gg_Mo_26 X hP d_Mo_elect_114 ?_
        refine lv_iconst (v := nI 3) X.1 X.2.1 d_Mo_elect_117 (by decide) ?_
        refine lv_iload_n X.1 X.2.1 d_Mo_elect_118 rfl (lv_at hl 5 rfl) ?_
        refine gx_imul X.1 X.2.1 d_Mo_elect_119 ?_
        refine lv_iload X.1 X.2.1 d_Mo_elect_120 (lv_at hl 1 rfl) ?_
        refine lv_iconst (v := nI 3) X.1 X.2.1 d_Mo_elect_122 (by decide) ?_
        refine gx_irem X.1 X.2.1 d_Mo_elect_123 (by omega) (by decide) (by decide) ?_
        refine gx_iadd X.1 X.2.1 d_Mo_elect_124 ?_
        refine ga_230 (by omega) X hP d_Mo_elect_125 ?_
        obtain ⟨p9, -⟩ := hx.2.2.1 g (((ab_top a g) + 1) % 3) hg (Nat.mod_lt _ (by decide))
        have hxb := xb_le (!ab_up a g (((ab_top a g) + 1) % 3))
        rw [p9]
        refine gx_if_eq X.1 X.2.1 (tgt := 138) d_Mo_elect_126 (by decide) (by omega) (fun h126_0 => ?_) (fun h126_0 => ?_)
        · skip
          have un0 : ab_up a g ((ab_top a g + 1) % 3) = true := by have z := xb_zero.mp h126_0; simpa using z
          have en : ab_next a g = (ab_top a g) + 1 := by
            unfold ab_next
            rw [if_pos un0]
          refine lv_aload_n X.1 X.2.1 d_Mo_elect_138 rfl (lv_at hl 4 rfl) ?_
          refine lv_iload_n X.1 X.2.1 d_Mo_elect_139 rfl (lv_at hl 5 rfl) ?_
          refine lv_iload_n X.1 X.2.1 d_Mo_elect_140 rfl (lv_at hl 2 rfl) ?_
          refine lv_iload X.1 X.2.1 d_Mo_elect_141 (lv_at hl 1 rfl) ?_
          refine cv_Mo_100 (rest := []) X hJ hP hS (by decide) (ec_Mo_0 _) (K_Mo_spread l dC dI cx ad hJ σ a g bi ((ab_top a g) + 1) hx hw hg (by rw [hbi]; exact e1) (by rw [hbi]; exact e2) (Or.inl h15)) rfl rfl (by decide) hl.1 (Nat.le_of_ble_eq_true rfl) ⟨Nat.le_refl _, Nat.le_refl _⟩ d_Mo_elect_143 (fun σ' H locs hq hP hS => ?_)
          obtain ⟨q1, q2⟩ := hq
          rw [if_pos h15, hbi] at q1
          refine lv_iload X.1 X.2.1 d_Mo_elect_146 (lv_at hl 1 rfl) ?_
          refine gx_iret X.1 X.2.1 hr hlk hP hS d_Mo_elect_148 ?_
          have e : ab_elect a (nI g).toInt = (((ab_next a g : Nat) : Int), ab_spread a g (ab_lg a g (ab_best a g)) (ab_next a g)) := by unfold ab_elect; rw [if_neg (fun z => z ⟨by omega, by omega, by rw [g3]; exact h15⟩), g3]
          rw [e, en]
          exact ⟨rfl, q1, fun n hn => q2 n (by omega)⟩
        · skip
          refine lv_iinc (k := 1) (v := nI ((ab_top a g) + 1 + 1)) X.1 X.2.1 d_Mo_elect_129 hl rfl (nI_add _ _) (by decide) rfl (fun ls hl => ?_)
          have hl : lv_has ls 6 [(4, .int (nI ((ab_top a g) + 1 + 1))), (5, .int (nI 0)), (3, .int (nI bi)), (2, .int (nI (ab_top a g))), (0, .ref (ad 224)), (1, .int (nI g))] := hl
          refine lv_iinc (k := 1) (v := nI (1)) X.1 X.2.1 d_Mo_elect_132 hl rfl (by decide) (by decide) rfl (fun ls hl => ?_)
          have hl : lv_has ls 6 [(5, .int (nI 1)), (4, .int (nI ((ab_top a g) + 1 + 1))), (3, .int (nI bi)), (2, .int (nI (ab_top a g))), (0, .ref (ad 224)), (1, .int (nI g))] := hl
          refine lv_goto (tgt := 107) X.1 X.2.1 d_Mo_elect_135 (by decide) ?_
          refine lv_iload X.1 X.2.1 d_Mo_elect_107 (lv_at hl 0 rfl) ?_
          refine lv_iconst (v := nI 2) X.1 X.2.1 d_Mo_elect_109 (by decide) ?_
          refine gx_icmp_ge X.1 X.2.1 (tgt := 138) d_Mo_elect_110 (by decide) (by omega) (by omega) (fun h110 => absurd h110 (by decide)) (fun h110 => ?_)
          refine lv_aload_n X.1 X.2.1 d_Mo_elect_113 rfl (lv_at hl 4 rfl) ?_
          refine gg_Mo_26 X hP d_Mo_elect_114 ?_
          refine lv_iconst (v := nI 3) X.1 X.2.1 d_Mo_elect_117 (by decide) ?_
          refine lv_iload_n X.1 X.2.1 d_Mo_elect_118 rfl (lv_at hl 5 rfl) ?_
          refine gx_imul X.1 X.2.1 d_Mo_elect_119 ?_
          refine lv_iload X.1 X.2.1 d_Mo_elect_120 (lv_at hl 1 rfl) ?_
          refine lv_iconst (v := nI 3) X.1 X.2.1 d_Mo_elect_122 (by decide) ?_
          refine gx_irem X.1 X.2.1 d_Mo_elect_123 (by omega) (by decide) (by decide) ?_
          refine gx_iadd X.1 X.2.1 d_Mo_elect_124 ?_
          refine ga_230 (by omega) X hP d_Mo_elect_125 ?_
          obtain ⟨p9, -⟩ := hx.2.2.1 g (((ab_top a g) + 1 + 1) % 3) hg (Nat.mod_lt _ (by decide))
          have hxb := xb_le (!ab_up a g (((ab_top a g) + 1 + 1) % 3))
          rw [p9]
          refine gx_if_eq X.1 X.2.1 (tgt := 138) d_Mo_elect_126 (by decide) (by omega) (fun h126_1 => ?_) (fun h126_1 => ?_)
          · skip
            have un0 : ab_up a g ((ab_top a g + 1) % 3) = false := by have z := xb_one.mp (show xb (!ab_up a g ((ab_top a g + 1) % 3)) = 1 by omega); simpa using z
            have un1 : ab_up a g ((ab_top a g + 1 + 1) % 3) = true := by have z := xb_zero.mp h126_1; simpa using z
            have en : ab_next a g = (ab_top a g) + 1 + 1 := by
              unfold ab_next
              rw [if_neg (by rw [un0]; decide), if_pos un1]
            refine lv_aload_n X.1 X.2.1 d_Mo_elect_138 rfl (lv_at hl 4 rfl) ?_
            refine lv_iload_n X.1 X.2.1 d_Mo_elect_139 rfl (lv_at hl 5 rfl) ?_
            refine lv_iload_n X.1 X.2.1 d_Mo_elect_140 rfl (lv_at hl 2 rfl) ?_
            refine lv_iload X.1 X.2.1 d_Mo_elect_141 (lv_at hl 1 rfl) ?_
            refine cv_Mo_100 (rest := []) X hJ hP hS (by decide) (ec_Mo_0 _) (K_Mo_spread l dC dI cx ad hJ σ a g bi ((ab_top a g) + 1 + 1) hx hw hg (by rw [hbi]; exact e1) (by rw [hbi]; exact e2) (Or.inl h15)) rfl rfl (by decide) hl.1 (Nat.le_of_ble_eq_true rfl) ⟨Nat.le_refl _, Nat.le_refl _⟩ d_Mo_elect_143 (fun σ' H locs hq hP hS => ?_)
            obtain ⟨q1, q2⟩ := hq
            rw [if_pos h15, hbi] at q1
            refine lv_iload X.1 X.2.1 d_Mo_elect_146 (lv_at hl 1 rfl) ?_
            refine gx_iret X.1 X.2.1 hr hlk hP hS d_Mo_elect_148 ?_
            have e : ab_elect a (nI g).toInt = (((ab_next a g : Nat) : Int), ab_spread a g (ab_lg a g (ab_best a g)) (ab_next a g)) := by unfold ab_elect; rw [if_neg (fun z => z ⟨by omega, by omega, by rw [g3]; exact h15⟩), g3]
            rw [e, en]
            exact ⟨rfl, q1, fun n hn => q2 n (by omega)⟩
          · skip
            refine lv_iinc (k := 1) (v := nI ((ab_top a g) + 1 + 1 + 1)) X.1 X.2.1 d_Mo_elect_129 hl rfl (nI_add _ _) (by decide) rfl (fun ls hl => ?_)
            have hl : lv_has ls 6 [(4, .int (nI ((ab_top a g) + 1 + 1 + 1))), (5, .int (nI 1)), (3, .int (nI bi)), (2, .int (nI (ab_top a g))), (0, .ref (ad 224)), (1, .int (nI g))] := hl
            refine lv_iinc (k := 1) (v := nI (2)) X.1 X.2.1 d_Mo_elect_132 hl rfl (by decide) (by decide) rfl (fun ls hl => ?_)
            have hl : lv_has ls 6 [(5, .int (nI 2)), (4, .int (nI ((ab_top a g) + 1 + 1 + 1))), (3, .int (nI bi)), (2, .int (nI (ab_top a g))), (0, .ref (ad 224)), (1, .int (nI g))] := hl
            refine lv_goto (tgt := 107) X.1 X.2.1 d_Mo_elect_135 (by decide) ?_
            refine lv_iload X.1 X.2.1 d_Mo_elect_107 (lv_at hl 0 rfl) ?_
            refine lv_iconst (v := nI 2) X.1 X.2.1 d_Mo_elect_109 (by decide) ?_
            refine gx_icmp_ge X.1 X.2.1 (tgt := 138) d_Mo_elect_110 (by decide) (by omega) (by omega) (fun h110 => ?_) (fun h110 => absurd h110 (by decide))
            have un0 : ab_up a g ((ab_top a g + 1) % 3) = false := by have z := xb_one.mp (show xb (!ab_up a g ((ab_top a g + 1) % 3)) = 1 by omega); simpa using z
            have un1 : ab_up a g ((ab_top a g + 1 + 1) % 3) = false := by have z := xb_one.mp (show xb (!ab_up a g ((ab_top a g + 1 + 1) % 3)) = 1 by omega); simpa using z
            have en : ab_next a g = (ab_top a g) + 1 + 1 + 1 := by
              unfold ab_next
              rw [if_neg (by rw [un0]; decide), if_neg (by rw [un1]; decide)]
            refine lv_aload_n X.1 X.2.1 d_Mo_elect_138 rfl (lv_at hl 4 rfl) ?_
            refine lv_iload_n X.1 X.2.1 d_Mo_elect_139 rfl (lv_at hl 5 rfl) ?_
            refine lv_iload_n X.1 X.2.1 d_Mo_elect_140 rfl (lv_at hl 2 rfl) ?_
            refine lv_iload X.1 X.2.1 d_Mo_elect_141 (lv_at hl 1 rfl) ?_
            refine cv_Mo_100 (rest := []) X hJ hP hS (by decide) (ec_Mo_0 _) (K_Mo_spread l dC dI cx ad hJ σ a g bi ((ab_top a g) + 1 + 1 + 1) hx hw hg (by rw [hbi]; exact e1) (by rw [hbi]; exact e2) (Or.inl h15)) rfl rfl (by decide) hl.1 (Nat.le_of_ble_eq_true rfl) ⟨Nat.le_refl _, Nat.le_refl _⟩ d_Mo_elect_143 (fun σ' H locs hq hP hS => ?_)
            obtain ⟨q1, q2⟩ := hq
            rw [if_pos h15, hbi] at q1
            refine lv_iload X.1 X.2.1 d_Mo_elect_146 (lv_at hl 1 rfl) ?_
            refine gx_iret X.1 X.2.1 hr hlk hP hS d_Mo_elect_148 ?_
            have e : ab_elect a (nI g).toInt = (((ab_next a g : Nat) : Int), ab_spread a g (ab_lg a g (ab_best a g)) (ab_next a g)) := by unfold ab_elect; rw [if_neg (fun z => z ⟨by omega, by omega, by rw [g3]; exact h15⟩), g3]
            rw [e, en]
            exact ⟨rfl, q1, fun n hn => q2 n (by omega)⟩
      refine lv_aload_n X.1 X.2.1 d_Mo_elect_20 rfl (lv_at hl 0 rfl) ?_
      refine lv_iload_n X.1 X.2.1 d_Mo_elect_21 rfl (lv_at hl 1 rfl) ?_
      refine cv_Mo_90 (rest := []) X hJ hP hS (by decide) (ec_Mo_0 _) (K_Mo_top l dC dI cx ad hJ _ a g hx hw hg) rfl rfl (by decide) hl.1 (Nat.le_of_ble_eq_true rfl) ⟨Nat.le_refl _, Nat.le_refl _⟩ d_Mo_elect_22 (fun r σ' H locs hq hP hS => ?_)
      obtain ⟨hq0, hq⟩ := hq
      rw [hq0] at hP
      obtain rfl : r = nI (ab_top a g) := by
        rcases hq with ⟨hc0, rfl⟩ | ⟨hc0, hc1⟩
        · omega
        · exact hc1
      refine lv_istore_n X.1 X.2.1 d_Mo_elect_25 rfl hl (by decide) rfl (fun ls hl => ?_)
      have hl : lv_has ls 6 [(2, .int (nI (ab_top a g))), (0, .ref (ad 224)), (1, .int (nI g))] := hl
      refine lv_iconst (v := -1) X.1 X.2.1 d_Mo_elect_26 (by decide) ?_
      refine lv_istore_n X.1 X.2.1 d_Mo_elect_27 rfl hl (by decide) rfl (fun ls hl => ?_)
      have hl : lv_has ls 6 [(3, .int (-1)), (2, .int (nI (ab_top a g))), (0, .ref (ad 224)), (1, .int (nI g))] := hl
      refine lv_iconst (v := nI 0) X.1 X.2.1 d_Mo_elect_28 (by decide) ?_
      refine lv_istore X.1 X.2.1 d_Mo_elect_29 hl (by decide) rfl (fun ls hl => ?_)
      have hl : lv_has ls 6 [(4, .int (nI 0)), (3, .int (-1)), (2, .int (nI (ab_top a g))), (0, .ref (ad 224)), (1, .int (nI g))] := hl
      refine lv_iload X.1 X.2.1 d_Mo_elect_31 (lv_at hl 0 rfl) ?_
      refine lv_iconst (v := nI 3) X.1 X.2.1 d_Mo_elect_33 (by decide) ?_
      refine gx_icmp_ge X.1 X.2.1 (tgt := 99) d_Mo_elect_34 (by decide) (by omega) (by omega) (fun h34 => absurd h34 (by decide)) (fun h34 => ?_)
      refine lv_iconst (v := nI 3) X.1 X.2.1 d_Mo_elect_37 (by decide) ?_
      refine lv_iload_n X.1 X.2.1 d_Mo_elect_38 rfl (lv_at hl 4 rfl) ?_
      refine gx_imul X.1 X.2.1 d_Mo_elect_39 ?_
      refine lv_iload X.1 X.2.1 d_Mo_elect_40 (lv_at hl 0 rfl) ?_
      refine gx_iadd X.1 X.2.1 d_Mo_elect_42 ?_
      refine lv_istore X.1 X.2.1 d_Mo_elect_43 hl (by decide) rfl (fun ls hl => ?_)
      have hl : lv_has ls 6 [(5, .int (nI ((3 * g) + 0))), (4, .int (nI 0)), (3, .int (-1)), (2, .int (nI (ab_top a g))), (0, .ref (ad 224)), (1, .int (nI g))] := hl
      refine lv_aload_n X.1 X.2.1 d_Mo_elect_45 rfl (lv_at hl 4 rfl) ?_
      refine gg_Mo_26 X hP d_Mo_elect_46 ?_
      refine lv_iload X.1 X.2.1 d_Mo_elect_49 (lv_at hl 0 rfl) ?_
      refine ga_230 (by omega) X hP d_Mo_elect_51 ?_
      rw [p0]
      refine gx_if_ne X.1 X.2.1 (tgt := 93) d_Mo_elect_52 (by decide) (by omega) (fun h52_0 => ?_) (fun h52_0 => ?_)
      · skip
        have u0 : ab_up a g 0 = false := by have z := xb_one.mp (show xb (!ab_up a g 0) = 1 by omega); simpa using z
        have gd0 : ab_good a g 0 = false := by unfold ab_good; rw [u0]; rfl
        refine lv_iinc (k := 1) (v := nI (1)) X.1 X.2.1 d_Mo_elect_93 hl rfl (by decide) (by decide) rfl (fun ls hl => ?_)
        have hl : lv_has ls 6 [(4, .int (nI 1)), (5, .int (nI ((3 * g) + 0))), (3, .int (-1)), (2, .int (nI (ab_top a g))), (0, .ref (ad 224)), (1, .int (nI g))] := hl
        refine lv_goto (tgt := 31) X.1 X.2.1 d_Mo_elect_96 (by decide) ?_
        refine lv_iload X.1 X.2.1 d_Mo_elect_31 (lv_at hl 0 rfl) ?_
        refine lv_iconst (v := nI 3) X.1 X.2.1 d_Mo_elect_33 (by decide) ?_
        refine gx_icmp_ge X.1 X.2.1 (tgt := 99) d_Mo_elect_34 (by decide) (by omega) (by omega) (fun h34 => absurd h34 (by decide)) (fun h34 => ?_)
        refine lv_iconst (v := nI 3) X.1 X.2.1 d_Mo_elect_37 (by decide) ?_
        refine lv_iload_n X.1 X.2.1 d_Mo_elect_38 rfl (lv_at hl 5 rfl) ?_
        refine gx_imul X.1 X.2.1 d_Mo_elect_39 ?_
        refine lv_iload X.1 X.2.1 d_Mo_elect_40 (lv_at hl 0 rfl) ?_
        refine gx_iadd X.1 X.2.1 d_Mo_elect_42 ?_
        refine lv_istore X.1 X.2.1 d_Mo_elect_43 hl (by decide) rfl (fun ls hl => ?_)
        have hl : lv_has ls 6 [(5, .int (nI ((3 * g) + 1))), (4, .int (nI 1)), (3, .int (-1)), (2, .int (nI (ab_top a g))), (0, .ref (ad 224)), (1, .int (nI g))] := hl
        refine lv_aload_n X.1 X.2.1 d_Mo_elect_45 rfl (lv_at hl 4 rfl) ?_
        refine gg_Mo_26 X hP d_Mo_elect_46 ?_
        refine lv_iload X.1 X.2.1 d_Mo_elect_49 (lv_at hl 0 rfl) ?_
        refine ga_230 (by omega) X hP d_Mo_elect_51 ?_
        rw [p1]
        refine gx_if_ne X.1 X.2.1 (tgt := 93) d_Mo_elect_52 (by decide) (by omega) (fun h52_1 => ?_) (fun h52_1 => ?_)
        · skip
          have u1 : ab_up a g 1 = false := by have z := xb_one.mp (show xb (!ab_up a g 1) = 1 by omega); simpa using z
          have gd1 : ab_good a g 1 = false := by unfold ab_good; rw [u1]; rfl
          refine lv_iinc (k := 1) (v := nI (2)) X.1 X.2.1 d_Mo_elect_93 hl rfl (by decide) (by decide) rfl (fun ls hl => ?_)
          have hl : lv_has ls 6 [(4, .int (nI 2)), (5, .int (nI ((3 * g) + 1))), (3, .int (-1)), (2, .int (nI (ab_top a g))), (0, .ref (ad 224)), (1, .int (nI g))] := hl
          refine lv_goto (tgt := 31) X.1 X.2.1 d_Mo_elect_96 (by decide) ?_
          refine lv_iload X.1 X.2.1 d_Mo_elect_31 (lv_at hl 0 rfl) ?_
          refine lv_iconst (v := nI 3) X.1 X.2.1 d_Mo_elect_33 (by decide) ?_
          refine gx_icmp_ge X.1 X.2.1 (tgt := 99) d_Mo_elect_34 (by decide) (by omega) (by omega) (fun h34 => absurd h34 (by decide)) (fun h34 => ?_)
          refine lv_iconst (v := nI 3) X.1 X.2.1 d_Mo_elect_37 (by decide) ?_
          refine lv_iload_n X.1 X.2.1 d_Mo_elect_38 rfl (lv_at hl 5 rfl) ?_
          refine gx_imul X.1 X.2.1 d_Mo_elect_39 ?_
          refine lv_iload X.1 X.2.1 d_Mo_elect_40 (lv_at hl 0 rfl) ?_
          refine gx_iadd X.1 X.2.1 d_Mo_elect_42 ?_
          refine lv_istore X.1 X.2.1 d_Mo_elect_43 hl (by decide) rfl (fun ls hl => ?_)
          have hl : lv_has ls 6 [(5, .int (nI ((3 * g) + 2))), (4, .int (nI 2)), (3, .int (-1)), (2, .int (nI (ab_top a g))), (0, .ref (ad 224)), (1, .int (nI g))] := hl
          refine lv_aload_n X.1 X.2.1 d_Mo_elect_45 rfl (lv_at hl 4 rfl) ?_
          refine gg_Mo_26 X hP d_Mo_elect_46 ?_
          refine lv_iload X.1 X.2.1 d_Mo_elect_49 (lv_at hl 0 rfl) ?_
          refine ga_230 (by omega) X hP d_Mo_elect_51 ?_
          rw [p2]
          refine gx_if_ne X.1 X.2.1 (tgt := 93) d_Mo_elect_52 (by decide) (by omega) (fun h52_2 => ?_) (fun h52_2 => ?_)
          · skip
            have u2 : ab_up a g 2 = false := by have z := xb_one.mp (show xb (!ab_up a g 2) = 1 by omega); simpa using z
            have gd2 : ab_good a g 2 = false := by unfold ab_good; rw [u2]; rfl
            refine lv_iinc (k := 1) (v := nI (3)) X.1 X.2.1 d_Mo_elect_93 hl rfl (by decide) (by decide) rfl (fun ls hl => ?_)
            have hl : lv_has ls 6 [(4, .int (nI 3)), (5, .int (nI ((3 * g) + 2))), (3, .int (-1)), (2, .int (nI (ab_top a g))), (0, .ref (ad 224)), (1, .int (nI g))] := hl
            refine lv_goto (tgt := 31) X.1 X.2.1 d_Mo_elect_96 (by decide) ?_
            refine lv_iload X.1 X.2.1 d_Mo_elect_31 (lv_at hl 0 rfl) ?_
            refine lv_iconst (v := nI 3) X.1 X.2.1 d_Mo_elect_33 (by decide) ?_
            refine gx_icmp_ge X.1 X.2.1 (tgt := 99) d_Mo_elect_34 (by decide) (by omega) (by omega) (fun h34 => ?_) (fun h34 => absurd h34 (by decide))
            exact absurd (ab_good_ex h15 gd0 gd1 gd2) id
          · skip
            have u2 : ab_up a g 2 = true := by have z := xb_zero.mp h52_2; simpa using z
            refine lv_aload_n X.1 X.2.1 d_Mo_elect_55 rfl (lv_at hl 4 rfl) ?_
            refine gg_Mo_29 X hP d_Mo_elect_56 ?_
            refine lv_iload X.1 X.2.1 d_Mo_elect_59 (lv_at hl 0 rfl) ?_
            refine ga_231 (by omega) X hP d_Mo_elect_61 ?_
            rw [q2]
            refine lv_iload_n X.1 X.2.1 d_Mo_elect_62 rfl (lv_at hl 3 rfl) ?_
            refine gx_icmp_ne X.1 X.2.1 (tgt := 93) d_Mo_elect_63 (by decide) (by omega) (by omega) (fun h63_2 => ?_) (fun h63_2 => ?_)
            · skip
              have gd2 : ab_good a g 2 = false := by unfold ab_good; simp; intro _; exact h63_2
              refine lv_iinc (k := 1) (v := nI (3)) X.1 X.2.1 d_Mo_elect_93 hl rfl (by decide) (by decide) rfl (fun ls hl => ?_)
              have hl : lv_has ls 6 [(4, .int (nI 3)), (5, .int (nI ((3 * g) + 2))), (3, .int (-1)), (2, .int (nI (ab_top a g))), (0, .ref (ad 224)), (1, .int (nI g))] := hl
              refine lv_goto (tgt := 31) X.1 X.2.1 d_Mo_elect_96 (by decide) ?_
              refine lv_iload X.1 X.2.1 d_Mo_elect_31 (lv_at hl 0 rfl) ?_
              refine lv_iconst (v := nI 3) X.1 X.2.1 d_Mo_elect_33 (by decide) ?_
              refine gx_icmp_ge X.1 X.2.1 (tgt := 99) d_Mo_elect_34 (by decide) (by omega) (by omega) (fun h34 => ?_) (fun h34 => absurd h34 (by decide))
              exact absurd (ab_good_ex h15 gd0 gd1 gd2) id
            · skip
              have gd2 : ab_good a g 2 = true := by unfold ab_good; rw [u2, h63_2]; simp
              refine lv_iload_n X.1 X.2.1 d_Mo_elect_66 rfl (lv_at hl 2 rfl) ?_
              refine lv_if_lt X.1 X.2.1 (tgt := 90) d_Mo_elect_67 (by decide) (fun h67 => ?_) (fun h67 => absurd (show (-1 : Int32) < 0 by decide) h67)
              refine lv_iload X.1 X.2.1 d_Mo_elect_90 (lv_at hl 1 rfl) ?_
              refine lv_istore_n X.1 X.2.1 d_Mo_elect_92 rfl hl (by decide) rfl (fun ls hl => ?_)
              have hl : lv_has ls 6 [(3, .int (nI 2)), (5, .int (nI ((3 * g) + 2))), (4, .int (nI 2)), (2, .int (nI (ab_top a g))), (0, .ref (ad 224)), (1, .int (nI g))] := hl
              refine lv_iinc (k := 2) (v := nI (3)) X.1 X.2.1 d_Mo_elect_93 hl rfl (by decide) (by decide) rfl (fun ls hl => ?_)
              have hl : lv_has ls 6 [(4, .int (nI 3)), (3, .int (nI 2)), (5, .int (nI ((3 * g) + 2))), (2, .int (nI (ab_top a g))), (0, .ref (ad 224)), (1, .int (nI g))] := hl
              refine lv_goto (tgt := 31) X.1 X.2.1 d_Mo_elect_96 (by decide) ?_
              refine lv_iload X.1 X.2.1 d_Mo_elect_31 (lv_at hl 0 rfl) ?_
              refine lv_iconst (v := nI 3) X.1 X.2.1 d_Mo_elect_33 (by decide) ?_
              refine gx_icmp_ge X.1 X.2.1 (tgt := 99) d_Mo_elect_34 (by decide) (by omega) (by omega) (fun h34 => ?_) (fun h34 => absurd h34 (by decide))
              refine fin 2 ?_ _ _ ls hP hS (lv_sub hl [1, 3, 4, 5] rfl)
              clear fin hP hS hl X S hr hlk hK hN hJ hx hw I
              unfold ab_best
              grind
        · skip
          have u1 : ab_up a g 1 = true := by have z := xb_zero.mp h52_1; simpa using z
          refine lv_aload_n X.1 X.2.1 d_Mo_elect_55 rfl (lv_at hl 4 rfl) ?_
          refine gg_Mo_29 X hP d_Mo_elect_56 ?_
          refine lv_iload X.1 X.2.1 d_Mo_elect_59 (lv_at hl 0 rfl) ?_
          refine ga_231 (by omega) X hP d_Mo_elect_61 ?_
          rw [q1]
          refine lv_iload_n X.1 X.2.1 d_Mo_elect_62 rfl (lv_at hl 3 rfl) ?_
          refine gx_icmp_ne X.1 X.2.1 (tgt := 93) d_Mo_elect_63 (by decide) (by omega) (by omega) (fun h63_1 => ?_) (fun h63_1 => ?_)
          · skip
            have gd1 : ab_good a g 1 = false := by unfold ab_good; simp; intro _; exact h63_1
            refine lv_iinc (k := 1) (v := nI (2)) X.1 X.2.1 d_Mo_elect_93 hl rfl (by decide) (by decide) rfl (fun ls hl => ?_)
            have hl : lv_has ls 6 [(4, .int (nI 2)), (5, .int (nI ((3 * g) + 1))), (3, .int (-1)), (2, .int (nI (ab_top a g))), (0, .ref (ad 224)), (1, .int (nI g))] := hl
            refine lv_goto (tgt := 31) X.1 X.2.1 d_Mo_elect_96 (by decide) ?_
            refine lv_iload X.1 X.2.1 d_Mo_elect_31 (lv_at hl 0 rfl) ?_
            refine lv_iconst (v := nI 3) X.1 X.2.1 d_Mo_elect_33 (by decide) ?_
            refine gx_icmp_ge X.1 X.2.1 (tgt := 99) d_Mo_elect_34 (by decide) (by omega) (by omega) (fun h34 => absurd h34 (by decide)) (fun h34 => ?_)
            refine lv_iconst (v := nI 3) X.1 X.2.1 d_Mo_elect_37 (by decide) ?_
            refine lv_iload_n X.1 X.2.1 d_Mo_elect_38 rfl (lv_at hl 5 rfl) ?_
            refine gx_imul X.1 X.2.1 d_Mo_elect_39 ?_
            refine lv_iload X.1 X.2.1 d_Mo_elect_40 (lv_at hl 0 rfl) ?_
            refine gx_iadd X.1 X.2.1 d_Mo_elect_42 ?_
            refine lv_istore X.1 X.2.1 d_Mo_elect_43 hl (by decide) rfl (fun ls hl => ?_)
            have hl : lv_has ls 6 [(5, .int (nI ((3 * g) + 2))), (4, .int (nI 2)), (3, .int (-1)), (2, .int (nI (ab_top a g))), (0, .ref (ad 224)), (1, .int (nI g))] := hl
            refine lv_aload_n X.1 X.2.1 d_Mo_elect_45 rfl (lv_at hl 4 rfl) ?_
            refine gg_Mo_26 X hP d_Mo_elect_46 ?_
            refine lv_iload X.1 X.2.1 d_Mo_elect_49 (lv_at hl 0 rfl) ?_
            refine ga_230 (by omega) X hP d_Mo_elect_51 ?_
            rw [p2]
            refine gx_if_ne X.1 X.2.1 (tgt := 93) d_Mo_elect_52 (by decide) (by omega) (fun h52_2 => ?_) (fun h52_2 => ?_)
            · skip
              have u2 : ab_up a g 2 = false := by have z := xb_one.mp (show xb (!ab_up a g 2) = 1 by omega); simpa using z
              have gd2 : ab_good a g 2 = false := by unfold ab_good; rw [u2]; rfl
              refine lv_iinc (k := 1) (v := nI (3)) X.1 X.2.1 d_Mo_elect_93 hl rfl (by decide) (by decide) rfl (fun ls hl => ?_)
              have hl : lv_has ls 6 [(4, .int (nI 3)), (5, .int (nI ((3 * g) + 2))), (3, .int (-1)), (2, .int (nI (ab_top a g))), (0, .ref (ad 224)), (1, .int (nI g))] := hl
              refine lv_goto (tgt := 31) X.1 X.2.1 d_Mo_elect_96 (by decide) ?_
              refine lv_iload X.1 X.2.1 d_Mo_elect_31 (lv_at hl 0 rfl) ?_
              refine lv_iconst (v := nI 3) X.1 X.2.1 d_Mo_elect_33 (by decide) ?_
              refine gx_icmp_ge X.1 X.2.1 (tgt := 99) d_Mo_elect_34 (by decide) (by omega) (by omega) (fun h34 => ?_) (fun h34 => absurd h34 (by decide))
              exact absurd (ab_good_ex h15 gd0 gd1 gd2) id
            · skip
              have u2 : ab_up a g 2 = true := by have z := xb_zero.mp h52_2; simpa using z
              refine lv_aload_n X.1 X.2.1 d_Mo_elect_55 rfl (lv_at hl 4 rfl) ?_
              refine gg_Mo_29 X hP d_Mo_elect_56 ?_
              refine lv_iload X.1 X.2.1 d_Mo_elect_59 (lv_at hl 0 rfl) ?_
              refine ga_231 (by omega) X hP d_Mo_elect_61 ?_
              rw [q2]
              refine lv_iload_n X.1 X.2.1 d_Mo_elect_62 rfl (lv_at hl 3 rfl) ?_
              refine gx_icmp_ne X.1 X.2.1 (tgt := 93) d_Mo_elect_63 (by decide) (by omega) (by omega) (fun h63_2 => ?_) (fun h63_2 => ?_)
              · skip
                have gd2 : ab_good a g 2 = false := by unfold ab_good; simp; intro _; exact h63_2
                refine lv_iinc (k := 1) (v := nI (3)) X.1 X.2.1 d_Mo_elect_93 hl rfl (by decide) (by decide) rfl (fun ls hl => ?_)
                have hl : lv_has ls 6 [(4, .int (nI 3)), (5, .int (nI ((3 * g) + 2))), (3, .int (-1)), (2, .int (nI (ab_top a g))), (0, .ref (ad 224)), (1, .int (nI g))] := hl
                refine lv_goto (tgt := 31) X.1 X.2.1 d_Mo_elect_96 (by decide) ?_
                refine lv_iload X.1 X.2.1 d_Mo_elect_31 (lv_at hl 0 rfl) ?_
                refine lv_iconst (v := nI 3) X.1 X.2.1 d_Mo_elect_33 (by decide) ?_
                refine gx_icmp_ge X.1 X.2.1 (tgt := 99) d_Mo_elect_34 (by decide) (by omega) (by omega) (fun h34 => ?_) (fun h34 => absurd h34 (by decide))
                exact absurd (ab_good_ex h15 gd0 gd1 gd2) id
              · skip
                have gd2 : ab_good a g 2 = true := by unfold ab_good; rw [u2, h63_2]; simp
                refine lv_iload_n X.1 X.2.1 d_Mo_elect_66 rfl (lv_at hl 2 rfl) ?_
                refine lv_if_lt X.1 X.2.1 (tgt := 90) d_Mo_elect_67 (by decide) (fun h67 => ?_) (fun h67 => absurd (show (-1 : Int32) < 0 by decide) h67)
                refine lv_iload X.1 X.2.1 d_Mo_elect_90 (lv_at hl 1 rfl) ?_
                refine lv_istore_n X.1 X.2.1 d_Mo_elect_92 rfl hl (by decide) rfl (fun ls hl => ?_)
                have hl : lv_has ls 6 [(3, .int (nI 2)), (5, .int (nI ((3 * g) + 2))), (4, .int (nI 2)), (2, .int (nI (ab_top a g))), (0, .ref (ad 224)), (1, .int (nI g))] := hl
                refine lv_iinc (k := 2) (v := nI (3)) X.1 X.2.1 d_Mo_elect_93 hl rfl (by decide) (by decide) rfl (fun ls hl => ?_)
                have hl : lv_has ls 6 [(4, .int (nI 3)), (3, .int (nI 2)), (5, .int (nI ((3 * g) + 2))), (2, .int (nI (ab_top a g))), (0, .ref (ad 224)), (1, .int (nI g))] := hl
                refine lv_goto (tgt := 31) X.1 X.2.1 d_Mo_elect_96 (by decide) ?_
                refine lv_iload X.1 X.2.1 d_Mo_elect_31 (lv_at hl 0 rfl) ?_
                refine lv_iconst (v := nI 3) X.1 X.2.1 d_Mo_elect_33 (by decide) ?_
                refine gx_icmp_ge X.1 X.2.1 (tgt := 99) d_Mo_elect_34 (by decide) (by omega) (by omega) (fun h34 => ?_) (fun h34 => absurd h34 (by decide))
                refine fin 2 ?_ _ _ ls hP hS (lv_sub hl [1, 3, 4, 5] rfl)
                clear fin hP hS hl X S hr hlk hK hN hJ hx hw I
                unfold ab_best
                grind
          · skip
            have gd1 : ab_good a g 1 = true := by unfold ab_good; rw [u1, h63_1]; simp
            refine lv_iload_n X.1 X.2.1 d_Mo_elect_66 rfl (lv_at hl 2 rfl) ?_
            refine lv_if_lt X.1 X.2.1 (tgt := 90) d_Mo_elect_67 (by decide) (fun h67 => ?_) (fun h67 => absurd (show (-1 : Int32) < 0 by decide) h67)
            refine lv_iload X.1 X.2.1 d_Mo_elect_90 (lv_at hl 1 rfl) ?_
            refine lv_istore_n X.1 X.2.1 d_Mo_elect_92 rfl hl (by decide) rfl (fun ls hl => ?_)
            have hl : lv_has ls 6 [(3, .int (nI 1)), (5, .int (nI ((3 * g) + 1))), (4, .int (nI 1)), (2, .int (nI (ab_top a g))), (0, .ref (ad 224)), (1, .int (nI g))] := hl
            refine lv_iinc (k := 2) (v := nI (2)) X.1 X.2.1 d_Mo_elect_93 hl rfl (by decide) (by decide) rfl (fun ls hl => ?_)
            have hl : lv_has ls 6 [(4, .int (nI 2)), (3, .int (nI 1)), (5, .int (nI ((3 * g) + 1))), (2, .int (nI (ab_top a g))), (0, .ref (ad 224)), (1, .int (nI g))] := hl
            refine lv_goto (tgt := 31) X.1 X.2.1 d_Mo_elect_96 (by decide) ?_
            refine lv_iload X.1 X.2.1 d_Mo_elect_31 (lv_at hl 0 rfl) ?_
            refine lv_iconst (v := nI 3) X.1 X.2.1 d_Mo_elect_33 (by decide) ?_
            refine gx_icmp_ge X.1 X.2.1 (tgt := 99) d_Mo_elect_34 (by decide) (by omega) (by omega) (fun h34 => absurd h34 (by decide)) (fun h34 => ?_)
            refine lv_iconst (v := nI 3) X.1 X.2.1 d_Mo_elect_37 (by decide) ?_
            refine lv_iload_n X.1 X.2.1 d_Mo_elect_38 rfl (lv_at hl 5 rfl) ?_
            refine gx_imul X.1 X.2.1 d_Mo_elect_39 ?_
            refine lv_iload X.1 X.2.1 d_Mo_elect_40 (lv_at hl 0 rfl) ?_
            refine gx_iadd X.1 X.2.1 d_Mo_elect_42 ?_
            refine lv_istore X.1 X.2.1 d_Mo_elect_43 hl (by decide) rfl (fun ls hl => ?_)
            have hl : lv_has ls 6 [(5, .int (nI ((3 * g) + 2))), (4, .int (nI 2)), (3, .int (nI 1)), (2, .int (nI (ab_top a g))), (0, .ref (ad 224)), (1, .int (nI g))] := hl
            refine lv_aload_n X.1 X.2.1 d_Mo_elect_45 rfl (lv_at hl 4 rfl) ?_
            refine gg_Mo_26 X hP d_Mo_elect_46 ?_
            refine lv_iload X.1 X.2.1 d_Mo_elect_49 (lv_at hl 0 rfl) ?_
            refine ga_230 (by omega) X hP d_Mo_elect_51 ?_
            rw [p2]
            refine gx_if_ne X.1 X.2.1 (tgt := 93) d_Mo_elect_52 (by decide) (by omega) (fun h52_2 => ?_) (fun h52_2 => ?_)
            · skip
              have u2 : ab_up a g 2 = false := by have z := xb_one.mp (show xb (!ab_up a g 2) = 1 by omega); simpa using z
              have gd2 : ab_good a g 2 = false := by unfold ab_good; rw [u2]; rfl
              refine lv_iinc (k := 1) (v := nI (3)) X.1 X.2.1 d_Mo_elect_93 hl rfl (by decide) (by decide) rfl (fun ls hl => ?_)
              have hl : lv_has ls 6 [(4, .int (nI 3)), (5, .int (nI ((3 * g) + 2))), (3, .int (nI 1)), (2, .int (nI (ab_top a g))), (0, .ref (ad 224)), (1, .int (nI g))] := hl
              refine lv_goto (tgt := 31) X.1 X.2.1 d_Mo_elect_96 (by decide) ?_
              refine lv_iload X.1 X.2.1 d_Mo_elect_31 (lv_at hl 0 rfl) ?_
              refine lv_iconst (v := nI 3) X.1 X.2.1 d_Mo_elect_33 (by decide) ?_
              refine gx_icmp_ge X.1 X.2.1 (tgt := 99) d_Mo_elect_34 (by decide) (by omega) (by omega) (fun h34 => ?_) (fun h34 => absurd h34 (by decide))
              refine fin 1 ?_ _ _ ls hP hS (lv_sub hl [2, 3, 4, 5] rfl)
              clear fin hP hS hl X S hr hlk hK hN hJ hx hw I
              unfold ab_best
              grind
            · skip
              have u2 : ab_up a g 2 = true := by have z := xb_zero.mp h52_2; simpa using z
              refine lv_aload_n X.1 X.2.1 d_Mo_elect_55 rfl (lv_at hl 4 rfl) ?_
              refine gg_Mo_29 X hP d_Mo_elect_56 ?_
              refine lv_iload X.1 X.2.1 d_Mo_elect_59 (lv_at hl 0 rfl) ?_
              refine ga_231 (by omega) X hP d_Mo_elect_61 ?_
              rw [q2]
              refine lv_iload_n X.1 X.2.1 d_Mo_elect_62 rfl (lv_at hl 3 rfl) ?_
              refine gx_icmp_ne X.1 X.2.1 (tgt := 93) d_Mo_elect_63 (by decide) (by omega) (by omega) (fun h63_2 => ?_) (fun h63_2 => ?_)
              · skip
                have gd2 : ab_good a g 2 = false := by unfold ab_good; simp; intro _; exact h63_2
                refine lv_iinc (k := 1) (v := nI (3)) X.1 X.2.1 d_Mo_elect_93 hl rfl (by decide) (by decide) rfl (fun ls hl => ?_)
                have hl : lv_has ls 6 [(4, .int (nI 3)), (5, .int (nI ((3 * g) + 2))), (3, .int (nI 1)), (2, .int (nI (ab_top a g))), (0, .ref (ad 224)), (1, .int (nI g))] := hl
                refine lv_goto (tgt := 31) X.1 X.2.1 d_Mo_elect_96 (by decide) ?_
                refine lv_iload X.1 X.2.1 d_Mo_elect_31 (lv_at hl 0 rfl) ?_
                refine lv_iconst (v := nI 3) X.1 X.2.1 d_Mo_elect_33 (by decide) ?_
                refine gx_icmp_ge X.1 X.2.1 (tgt := 99) d_Mo_elect_34 (by decide) (by omega) (by omega) (fun h34 => ?_) (fun h34 => absurd h34 (by decide))
                refine fin 1 ?_ _ _ ls hP hS (lv_sub hl [2, 3, 4, 5] rfl)
                clear fin hP hS hl X S hr hlk hK hN hJ hx hw I
                unfold ab_best
                grind
              · skip
                have gd2 : ab_good a g 2 = true := by unfold ab_good; rw [u2, h63_2]; simp
                refine lv_iload_n X.1 X.2.1 d_Mo_elect_66 rfl (lv_at hl 2 rfl) ?_
                refine gx_if_lt X.1 X.2.1 (tgt := 90) d_Mo_elect_67 (by decide) (by omega) ?_
                refine lv_aload_n X.1 X.2.1 d_Mo_elect_70 rfl (lv_at hl 4 rfl) ?_
                refine gg_Mo_32 X hP d_Mo_elect_71 ?_
                refine lv_iload X.1 X.2.1 d_Mo_elect_74 (lv_at hl 0 rfl) ?_
                refine ga_232 (by omega) X hP d_Mo_elect_76 ?_
                rw [l2]
                refine lv_aload_n X.1 X.2.1 d_Mo_elect_77 rfl (lv_at hl 4 rfl) ?_
                refine gg_Mo_32 X hP d_Mo_elect_78 ?_
                refine lv_iconst (v := nI 3) X.1 X.2.1 d_Mo_elect_81 (by decide) ?_
                refine lv_iload_n X.1 X.2.1 d_Mo_elect_82 rfl (lv_at hl 5 rfl) ?_
                refine gx_imul X.1 X.2.1 d_Mo_elect_83 ?_
                refine lv_iload_n X.1 X.2.1 d_Mo_elect_84 rfl (lv_at hl 2 rfl) ?_
                refine gx_iadd X.1 X.2.1 d_Mo_elect_85 ?_
                refine ga_232 (by omega) X hP d_Mo_elect_86 ?_
                rw [l1]
                refine gx_icmp_le X.1 X.2.1 (tgt := 93) d_Mo_elect_87 (by decide) (by omega) (by omega) (fun h87_2 => ?_) (fun h87_2 => ?_)
                · skip
                  refine lv_iinc (k := 1) (v := nI (3)) X.1 X.2.1 d_Mo_elect_93 hl rfl (by decide) (by decide) rfl (fun ls hl => ?_)
                  have hl : lv_has ls 6 [(4, .int (nI 3)), (5, .int (nI ((3 * g) + 2))), (3, .int (nI 1)), (2, .int (nI (ab_top a g))), (0, .ref (ad 224)), (1, .int (nI g))] := hl
                  refine lv_goto (tgt := 31) X.1 X.2.1 d_Mo_elect_96 (by decide) ?_
                  refine lv_iload X.1 X.2.1 d_Mo_elect_31 (lv_at hl 0 rfl) ?_
                  refine lv_iconst (v := nI 3) X.1 X.2.1 d_Mo_elect_33 (by decide) ?_
                  refine gx_icmp_ge X.1 X.2.1 (tgt := 99) d_Mo_elect_34 (by decide) (by omega) (by omega) (fun h34 => ?_) (fun h34 => absurd h34 (by decide))
                  refine fin 1 ?_ _ _ ls hP hS (lv_sub hl [2, 3, 4, 5] rfl)
                  clear fin hP hS hl X S hr hlk hK hN hJ hx hw I
                  unfold ab_best
                  grind
                · skip
                  refine lv_iload X.1 X.2.1 d_Mo_elect_90 (lv_at hl 1 rfl) ?_
                  refine lv_istore_n X.1 X.2.1 d_Mo_elect_92 rfl hl (by decide) rfl (fun ls hl => ?_)
                  have hl : lv_has ls 6 [(3, .int (nI 2)), (5, .int (nI ((3 * g) + 2))), (4, .int (nI 2)), (2, .int (nI (ab_top a g))), (0, .ref (ad 224)), (1, .int (nI g))] := hl
                  refine lv_iinc (k := 2) (v := nI (3)) X.1 X.2.1 d_Mo_elect_93 hl rfl (by decide) (by decide) rfl (fun ls hl => ?_)
                  have hl : lv_has ls 6 [(4, .int (nI 3)), (3, .int (nI 2)), (5, .int (nI ((3 * g) + 2))), (2, .int (nI (ab_top a g))), (0, .ref (ad 224)), (1, .int (nI g))] := hl
                  refine lv_goto (tgt := 31) X.1 X.2.1 d_Mo_elect_96 (by decide) ?_
                  refine lv_iload X.1 X.2.1 d_Mo_elect_31 (lv_at hl 0 rfl) ?_
                  refine lv_iconst (v := nI 3) X.1 X.2.1 d_Mo_elect_33 (by decide) ?_
                  refine gx_icmp_ge X.1 X.2.1 (tgt := 99) d_Mo_elect_34 (by decide) (by omega) (by omega) (fun h34 => ?_) (fun h34 => absurd h34 (by decide))
                  refine fin 2 ?_ _ _ ls hP hS (lv_sub hl [1, 3, 4, 5] rfl)
                  clear fin hP hS hl X S hr hlk hK hN hJ hx hw I
                  unfold ab_best
                  grind
      · skip
        have u0 : ab_up a g 0 = true := by have z := xb_zero.mp h52_0; simpa using z
        refine lv_aload_n X.1 X.2.1 d_Mo_elect_55 rfl (lv_at hl 4 rfl) ?_
        refine gg_Mo_29 X hP d_Mo_elect_56 ?_
        refine lv_iload X.1 X.2.1 d_Mo_elect_59 (lv_at hl 0 rfl) ?_
        refine ga_231 (by omega) X hP d_Mo_elect_61 ?_
        rw [q0]
        refine lv_iload_n X.1 X.2.1 d_Mo_elect_62 rfl (lv_at hl 3 rfl) ?_
        refine gx_icmp_ne X.1 X.2.1 (tgt := 93) d_Mo_elect_63 (by decide) (by omega) (by omega) (fun h63_0 => ?_) (fun h63_0 => ?_)
        · skip
          have gd0 : ab_good a g 0 = false := by unfold ab_good; simp; intro _; exact h63_0
          refine lv_iinc (k := 1) (v := nI (1)) X.1 X.2.1 d_Mo_elect_93 hl rfl (by decide) (by decide) rfl (fun ls hl => ?_)
          have hl : lv_has ls 6 [(4, .int (nI 1)), (5, .int (nI ((3 * g) + 0))), (3, .int (-1)), (2, .int (nI (ab_top a g))), (0, .ref (ad 224)), (1, .int (nI g))] := hl
          refine lv_goto (tgt := 31) X.1 X.2.1 d_Mo_elect_96 (by decide) ?_
          refine lv_iload X.1 X.2.1 d_Mo_elect_31 (lv_at hl 0 rfl) ?_
          refine lv_iconst (v := nI 3) X.1 X.2.1 d_Mo_elect_33 (by decide) ?_
          refine gx_icmp_ge X.1 X.2.1 (tgt := 99) d_Mo_elect_34 (by decide) (by omega) (by omega) (fun h34 => absurd h34 (by decide)) (fun h34 => ?_)
          refine lv_iconst (v := nI 3) X.1 X.2.1 d_Mo_elect_37 (by decide) ?_
          refine lv_iload_n X.1 X.2.1 d_Mo_elect_38 rfl (lv_at hl 5 rfl) ?_
          refine gx_imul X.1 X.2.1 d_Mo_elect_39 ?_
          refine lv_iload X.1 X.2.1 d_Mo_elect_40 (lv_at hl 0 rfl) ?_
          refine gx_iadd X.1 X.2.1 d_Mo_elect_42 ?_
          refine lv_istore X.1 X.2.1 d_Mo_elect_43 hl (by decide) rfl (fun ls hl => ?_)
          have hl : lv_has ls 6 [(5, .int (nI ((3 * g) + 1))), (4, .int (nI 1)), (3, .int (-1)), (2, .int (nI (ab_top a g))), (0, .ref (ad 224)), (1, .int (nI g))] := hl
          refine lv_aload_n X.1 X.2.1 d_Mo_elect_45 rfl (lv_at hl 4 rfl) ?_
          refine gg_Mo_26 X hP d_Mo_elect_46 ?_
          refine lv_iload X.1 X.2.1 d_Mo_elect_49 (lv_at hl 0 rfl) ?_
          refine ga_230 (by omega) X hP d_Mo_elect_51 ?_
          rw [p1]
          refine gx_if_ne X.1 X.2.1 (tgt := 93) d_Mo_elect_52 (by decide) (by omega) (fun h52_1 => ?_) (fun h52_1 => ?_)
          · skip
            have u1 : ab_up a g 1 = false := by have z := xb_one.mp (show xb (!ab_up a g 1) = 1 by omega); simpa using z
            have gd1 : ab_good a g 1 = false := by unfold ab_good; rw [u1]; rfl
            refine lv_iinc (k := 1) (v := nI (2)) X.1 X.2.1 d_Mo_elect_93 hl rfl (by decide) (by decide) rfl (fun ls hl => ?_)
            have hl : lv_has ls 6 [(4, .int (nI 2)), (5, .int (nI ((3 * g) + 1))), (3, .int (-1)), (2, .int (nI (ab_top a g))), (0, .ref (ad 224)), (1, .int (nI g))] := hl
            refine lv_goto (tgt := 31) X.1 X.2.1 d_Mo_elect_96 (by decide) ?_
            refine lv_iload X.1 X.2.1 d_Mo_elect_31 (lv_at hl 0 rfl) ?_
            refine lv_iconst (v := nI 3) X.1 X.2.1 d_Mo_elect_33 (by decide) ?_
            refine gx_icmp_ge X.1 X.2.1 (tgt := 99) d_Mo_elect_34 (by decide) (by omega) (by omega) (fun h34 => absurd h34 (by decide)) (fun h34 => ?_)
            refine lv_iconst (v := nI 3) X.1 X.2.1 d_Mo_elect_37 (by decide) ?_
            refine lv_iload_n X.1 X.2.1 d_Mo_elect_38 rfl (lv_at hl 5 rfl) ?_
            refine gx_imul X.1 X.2.1 d_Mo_elect_39 ?_
            refine lv_iload X.1 X.2.1 d_Mo_elect_40 (lv_at hl 0 rfl) ?_
            refine gx_iadd X.1 X.2.1 d_Mo_elect_42 ?_
            refine lv_istore X.1 X.2.1 d_Mo_elect_43 hl (by decide) rfl (fun ls hl => ?_)
            have hl : lv_has ls 6 [(5, .int (nI ((3 * g) + 2))), (4, .int (nI 2)), (3, .int (-1)), (2, .int (nI (ab_top a g))), (0, .ref (ad 224)), (1, .int (nI g))] := hl
            refine lv_aload_n X.1 X.2.1 d_Mo_elect_45 rfl (lv_at hl 4 rfl) ?_
            refine gg_Mo_26 X hP d_Mo_elect_46 ?_
            refine lv_iload X.1 X.2.1 d_Mo_elect_49 (lv_at hl 0 rfl) ?_
            refine ga_230 (by omega) X hP d_Mo_elect_51 ?_
            rw [p2]
            refine gx_if_ne X.1 X.2.1 (tgt := 93) d_Mo_elect_52 (by decide) (by omega) (fun h52_2 => ?_) (fun h52_2 => ?_)
            · skip
              have u2 : ab_up a g 2 = false := by have z := xb_one.mp (show xb (!ab_up a g 2) = 1 by omega); simpa using z
              have gd2 : ab_good a g 2 = false := by unfold ab_good; rw [u2]; rfl
              refine lv_iinc (k := 1) (v := nI (3)) X.1 X.2.1 d_Mo_elect_93 hl rfl (by decide) (by decide) rfl (fun ls hl => ?_)
              have hl : lv_has ls 6 [(4, .int (nI 3)), (5, .int (nI ((3 * g) + 2))), (3, .int (-1)), (2, .int (nI (ab_top a g))), (0, .ref (ad 224)), (1, .int (nI g))] := hl
              refine lv_goto (tgt := 31) X.1 X.2.1 d_Mo_elect_96 (by decide) ?_
              refine lv_iload X.1 X.2.1 d_Mo_elect_31 (lv_at hl 0 rfl) ?_
              refine lv_iconst (v := nI 3) X.1 X.2.1 d_Mo_elect_33 (by decide) ?_
              refine gx_icmp_ge X.1 X.2.1 (tgt := 99) d_Mo_elect_34 (by decide) (by omega) (by omega) (fun h34 => ?_) (fun h34 => absurd h34 (by decide))
              exact absurd (ab_good_ex h15 gd0 gd1 gd2) id
            · skip
              have u2 : ab_up a g 2 = true := by have z := xb_zero.mp h52_2; simpa using z
              refine lv_aload_n X.1 X.2.1 d_Mo_elect_55 rfl (lv_at hl 4 rfl) ?_
              refine gg_Mo_29 X hP d_Mo_elect_56 ?_
              refine lv_iload X.1 X.2.1 d_Mo_elect_59 (lv_at hl 0 rfl) ?_
              refine ga_231 (by omega) X hP d_Mo_elect_61 ?_
              rw [q2]
              refine lv_iload_n X.1 X.2.1 d_Mo_elect_62 rfl (lv_at hl 3 rfl) ?_
              refine gx_icmp_ne X.1 X.2.1 (tgt := 93) d_Mo_elect_63 (by decide) (by omega) (by omega) (fun h63_2 => ?_) (fun h63_2 => ?_)
              · skip
                have gd2 : ab_good a g 2 = false := by unfold ab_good; simp; intro _; exact h63_2
                refine lv_iinc (k := 1) (v := nI (3)) X.1 X.2.1 d_Mo_elect_93 hl rfl (by decide) (by decide) rfl (fun ls hl => ?_)
                have hl : lv_has ls 6 [(4, .int (nI 3)), (5, .int (nI ((3 * g) + 2))), (3, .int (-1)), (2, .int (nI (ab_top a g))), (0, .ref (ad 224)), (1, .int (nI g))] := hl
                refine lv_goto (tgt := 31) X.1 X.2.1 d_Mo_elect_96 (by decide) ?_
                refine lv_iload X.1 X.2.1 d_Mo_elect_31 (lv_at hl 0 rfl) ?_
                refine lv_iconst (v := nI 3) X.1 X.2.1 d_Mo_elect_33 (by decide) ?_
                refine gx_icmp_ge X.1 X.2.1 (tgt := 99) d_Mo_elect_34 (by decide) (by omega) (by omega) (fun h34 => ?_) (fun h34 => absurd h34 (by decide))
                exact absurd (ab_good_ex h15 gd0 gd1 gd2) id
              · skip
                have gd2 : ab_good a g 2 = true := by unfold ab_good; rw [u2, h63_2]; simp
                refine lv_iload_n X.1 X.2.1 d_Mo_elect_66 rfl (lv_at hl 2 rfl) ?_
                refine lv_if_lt X.1 X.2.1 (tgt := 90) d_Mo_elect_67 (by decide) (fun h67 => ?_) (fun h67 => absurd (show (-1 : Int32) < 0 by decide) h67)
                refine lv_iload X.1 X.2.1 d_Mo_elect_90 (lv_at hl 1 rfl) ?_
                refine lv_istore_n X.1 X.2.1 d_Mo_elect_92 rfl hl (by decide) rfl (fun ls hl => ?_)
                have hl : lv_has ls 6 [(3, .int (nI 2)), (5, .int (nI ((3 * g) + 2))), (4, .int (nI 2)), (2, .int (nI (ab_top a g))), (0, .ref (ad 224)), (1, .int (nI g))] := hl
                refine lv_iinc (k := 2) (v := nI (3)) X.1 X.2.1 d_Mo_elect_93 hl rfl (by decide) (by decide) rfl (fun ls hl => ?_)
                have hl : lv_has ls 6 [(4, .int (nI 3)), (3, .int (nI 2)), (5, .int (nI ((3 * g) + 2))), (2, .int (nI (ab_top a g))), (0, .ref (ad 224)), (1, .int (nI g))] := hl
                refine lv_goto (tgt := 31) X.1 X.2.1 d_Mo_elect_96 (by decide) ?_
                refine lv_iload X.1 X.2.1 d_Mo_elect_31 (lv_at hl 0 rfl) ?_
                refine lv_iconst (v := nI 3) X.1 X.2.1 d_Mo_elect_33 (by decide) ?_
                refine gx_icmp_ge X.1 X.2.1 (tgt := 99) d_Mo_elect_34 (by decide) (by omega) (by omega) (fun h34 => ?_) (fun h34 => absurd h34 (by decide))
                refine fin 2 ?_ _ _ ls hP hS (lv_sub hl [1, 3, 4, 5] rfl)
                clear fin hP hS hl X S hr hlk hK hN hJ hx hw I
                unfold ab_best
                grind
          · skip
            have u1 : ab_up a g 1 = true := by have z := xb_zero.mp h52_1; simpa using z
            refine lv_aload_n X.1 X.2.1 d_Mo_elect_55 rfl (lv_at hl 4 rfl) ?_
            refine gg_Mo_29 X hP d_Mo_elect_56 ?_
            refine lv_iload X.1 X.2.1 d_Mo_elect_59 (lv_at hl 0 rfl) ?_
            refine ga_231 (by omega) X hP d_Mo_elect_61 ?_
            rw [q1]
            refine lv_iload_n X.1 X.2.1 d_Mo_elect_62 rfl (lv_at hl 3 rfl) ?_
            refine gx_icmp_ne X.1 X.2.1 (tgt := 93) d_Mo_elect_63 (by decide) (by omega) (by omega) (fun h63_1 => ?_) (fun h63_1 => ?_)
            · skip
              have gd1 : ab_good a g 1 = false := by unfold ab_good; simp; intro _; exact h63_1
              refine lv_iinc (k := 1) (v := nI (2)) X.1 X.2.1 d_Mo_elect_93 hl rfl (by decide) (by decide) rfl (fun ls hl => ?_)
              have hl : lv_has ls 6 [(4, .int (nI 2)), (5, .int (nI ((3 * g) + 1))), (3, .int (-1)), (2, .int (nI (ab_top a g))), (0, .ref (ad 224)), (1, .int (nI g))] := hl
              refine lv_goto (tgt := 31) X.1 X.2.1 d_Mo_elect_96 (by decide) ?_
              refine lv_iload X.1 X.2.1 d_Mo_elect_31 (lv_at hl 0 rfl) ?_
              refine lv_iconst (v := nI 3) X.1 X.2.1 d_Mo_elect_33 (by decide) ?_
              refine gx_icmp_ge X.1 X.2.1 (tgt := 99) d_Mo_elect_34 (by decide) (by omega) (by omega) (fun h34 => absurd h34 (by decide)) (fun h34 => ?_)
              refine lv_iconst (v := nI 3) X.1 X.2.1 d_Mo_elect_37 (by decide) ?_
              refine lv_iload_n X.1 X.2.1 d_Mo_elect_38 rfl (lv_at hl 5 rfl) ?_
              refine gx_imul X.1 X.2.1 d_Mo_elect_39 ?_
              refine lv_iload X.1 X.2.1 d_Mo_elect_40 (lv_at hl 0 rfl) ?_
              refine gx_iadd X.1 X.2.1 d_Mo_elect_42 ?_
              refine lv_istore X.1 X.2.1 d_Mo_elect_43 hl (by decide) rfl (fun ls hl => ?_)
              have hl : lv_has ls 6 [(5, .int (nI ((3 * g) + 2))), (4, .int (nI 2)), (3, .int (-1)), (2, .int (nI (ab_top a g))), (0, .ref (ad 224)), (1, .int (nI g))] := hl
              refine lv_aload_n X.1 X.2.1 d_Mo_elect_45 rfl (lv_at hl 4 rfl) ?_
              refine gg_Mo_26 X hP d_Mo_elect_46 ?_
              refine lv_iload X.1 X.2.1 d_Mo_elect_49 (lv_at hl 0 rfl) ?_
              refine ga_230 (by omega) X hP d_Mo_elect_51 ?_
              rw [p2]
              refine gx_if_ne X.1 X.2.1 (tgt := 93) d_Mo_elect_52 (by decide) (by omega) (fun h52_2 => ?_) (fun h52_2 => ?_)
              · skip
                have u2 : ab_up a g 2 = false := by have z := xb_one.mp (show xb (!ab_up a g 2) = 1 by omega); simpa using z
                have gd2 : ab_good a g 2 = false := by unfold ab_good; rw [u2]; rfl
                refine lv_iinc (k := 1) (v := nI (3)) X.1 X.2.1 d_Mo_elect_93 hl rfl (by decide) (by decide) rfl (fun ls hl => ?_)
                have hl : lv_has ls 6 [(4, .int (nI 3)), (5, .int (nI ((3 * g) + 2))), (3, .int (-1)), (2, .int (nI (ab_top a g))), (0, .ref (ad 224)), (1, .int (nI g))] := hl
                refine lv_goto (tgt := 31) X.1 X.2.1 d_Mo_elect_96 (by decide) ?_
                refine lv_iload X.1 X.2.1 d_Mo_elect_31 (lv_at hl 0 rfl) ?_
                refine lv_iconst (v := nI 3) X.1 X.2.1 d_Mo_elect_33 (by decide) ?_
                refine gx_icmp_ge X.1 X.2.1 (tgt := 99) d_Mo_elect_34 (by decide) (by omega) (by omega) (fun h34 => ?_) (fun h34 => absurd h34 (by decide))
                exact absurd (ab_good_ex h15 gd0 gd1 gd2) id
              · skip
                have u2 : ab_up a g 2 = true := by have z := xb_zero.mp h52_2; simpa using z
                refine lv_aload_n X.1 X.2.1 d_Mo_elect_55 rfl (lv_at hl 4 rfl) ?_
                refine gg_Mo_29 X hP d_Mo_elect_56 ?_
                refine lv_iload X.1 X.2.1 d_Mo_elect_59 (lv_at hl 0 rfl) ?_
                refine ga_231 (by omega) X hP d_Mo_elect_61 ?_
                rw [q2]
                refine lv_iload_n X.1 X.2.1 d_Mo_elect_62 rfl (lv_at hl 3 rfl) ?_
                refine gx_icmp_ne X.1 X.2.1 (tgt := 93) d_Mo_elect_63 (by decide) (by omega) (by omega) (fun h63_2 => ?_) (fun h63_2 => ?_)
                · skip
                  have gd2 : ab_good a g 2 = false := by unfold ab_good; simp; intro _; exact h63_2
                  refine lv_iinc (k := 1) (v := nI (3)) X.1 X.2.1 d_Mo_elect_93 hl rfl (by decide) (by decide) rfl (fun ls hl => ?_)
                  have hl : lv_has ls 6 [(4, .int (nI 3)), (5, .int (nI ((3 * g) + 2))), (3, .int (-1)), (2, .int (nI (ab_top a g))), (0, .ref (ad 224)), (1, .int (nI g))] := hl
                  refine lv_goto (tgt := 31) X.1 X.2.1 d_Mo_elect_96 (by decide) ?_
                  refine lv_iload X.1 X.2.1 d_Mo_elect_31 (lv_at hl 0 rfl) ?_
                  refine lv_iconst (v := nI 3) X.1 X.2.1 d_Mo_elect_33 (by decide) ?_
                  refine gx_icmp_ge X.1 X.2.1 (tgt := 99) d_Mo_elect_34 (by decide) (by omega) (by omega) (fun h34 => ?_) (fun h34 => absurd h34 (by decide))
                  exact absurd (ab_good_ex h15 gd0 gd1 gd2) id
                · skip
                  have gd2 : ab_good a g 2 = true := by unfold ab_good; rw [u2, h63_2]; simp
                  refine lv_iload_n X.1 X.2.1 d_Mo_elect_66 rfl (lv_at hl 2 rfl) ?_
                  refine lv_if_lt X.1 X.2.1 (tgt := 90) d_Mo_elect_67 (by decide) (fun h67 => ?_) (fun h67 => absurd (show (-1 : Int32) < 0 by decide) h67)
                  refine lv_iload X.1 X.2.1 d_Mo_elect_90 (lv_at hl 1 rfl) ?_
                  refine lv_istore_n X.1 X.2.1 d_Mo_elect_92 rfl hl (by decide) rfl (fun ls hl => ?_)
                  have hl : lv_has ls 6 [(3, .int (nI 2)), (5, .int (nI ((3 * g) + 2))), (4, .int (nI 2)), (2, .int (nI (ab_top a g))), (0, .ref (ad 224)), (1, .int (nI g))] := hl
                  refine lv_iinc (k := 2) (v := nI (3)) X.1 X.2.1 d_Mo_elect_93 hl rfl (by decide) (by decide) rfl (fun ls hl => ?_)
                  have hl : lv_has ls 6 [(4, .int (nI 3)), (3, .int (nI 2)), (5, .int (nI ((3 * g) + 2))), (2, .int (nI (ab_top a g))), (0, .ref (ad 224)), (1, .int (nI g))] := hl
                  refine lv_goto (tgt := 31) X.1 X.2.1 d_Mo_elect_96 (by decide) ?_
                  refine lv_iload X.1 X.2.1 d_Mo_elect_31 (lv_at hl 0 rfl) ?_
                  refine lv_iconst (v := nI 3) X.1 X.2.1 d_Mo_elect_33 (by decide) ?_
                  refine gx_icmp_ge X.1 X.2.1 (tgt := 99) d_Mo_elect_34 (by decide) (by omega) (by omega) (fun h34 => ?_) (fun h34 => absurd h34 (by decide))
                  refine fin 2 ?_ _ _ ls hP hS (lv_sub hl [1, 3, 4, 5] rfl)
                  clear fin hP hS hl X S hr hlk hK hN hJ hx hw I
                  unfold ab_best
                  grind
            · skip
              have gd1 : ab_good a g 1 = true := by unfold ab_good; rw [u1, h63_1]; simp
              refine lv_iload_n X.1 X.2.1 d_Mo_elect_66 rfl (lv_at hl 2 rfl) ?_
              refine lv_if_lt X.1 X.2.1 (tgt := 90) d_Mo_elect_67 (by decide) (fun h67 => ?_) (fun h67 => absurd (show (-1 : Int32) < 0 by decide) h67)
              refine lv_iload X.1 X.2.1 d_Mo_elect_90 (lv_at hl 1 rfl) ?_
              refine lv_istore_n X.1 X.2.1 d_Mo_elect_92 rfl hl (by decide) rfl (fun ls hl => ?_)
              have hl : lv_has ls 6 [(3, .int (nI 1)), (5, .int (nI ((3 * g) + 1))), (4, .int (nI 1)), (2, .int (nI (ab_top a g))), (0, .ref (ad 224)), (1, .int (nI g))] := hl
              refine lv_iinc (k := 2) (v := nI (2)) X.1 X.2.1 d_Mo_elect_93 hl rfl (by decide) (by decide) rfl (fun ls hl => ?_)
              have hl : lv_has ls 6 [(4, .int (nI 2)), (3, .int (nI 1)), (5, .int (nI ((3 * g) + 1))), (2, .int (nI (ab_top a g))), (0, .ref (ad 224)), (1, .int (nI g))] := hl
              refine lv_goto (tgt := 31) X.1 X.2.1 d_Mo_elect_96 (by decide) ?_
              refine lv_iload X.1 X.2.1 d_Mo_elect_31 (lv_at hl 0 rfl) ?_
              refine lv_iconst (v := nI 3) X.1 X.2.1 d_Mo_elect_33 (by decide) ?_
              refine gx_icmp_ge X.1 X.2.1 (tgt := 99) d_Mo_elect_34 (by decide) (by omega) (by omega) (fun h34 => absurd h34 (by decide)) (fun h34 => ?_)
              refine lv_iconst (v := nI 3) X.1 X.2.1 d_Mo_elect_37 (by decide) ?_
              refine lv_iload_n X.1 X.2.1 d_Mo_elect_38 rfl (lv_at hl 5 rfl) ?_
              refine gx_imul X.1 X.2.1 d_Mo_elect_39 ?_
              refine lv_iload X.1 X.2.1 d_Mo_elect_40 (lv_at hl 0 rfl) ?_
              refine gx_iadd X.1 X.2.1 d_Mo_elect_42 ?_
              refine lv_istore X.1 X.2.1 d_Mo_elect_43 hl (by decide) rfl (fun ls hl => ?_)
              have hl : lv_has ls 6 [(5, .int (nI ((3 * g) + 2))), (4, .int (nI 2)), (3, .int (nI 1)), (2, .int (nI (ab_top a g))), (0, .ref (ad 224)), (1, .int (nI g))] := hl
              refine lv_aload_n X.1 X.2.1 d_Mo_elect_45 rfl (lv_at hl 4 rfl) ?_
              refine gg_Mo_26 X hP d_Mo_elect_46 ?_
              refine lv_iload X.1 X.2.1 d_Mo_elect_49 (lv_at hl 0 rfl) ?_
              refine ga_230 (by omega) X hP d_Mo_elect_51 ?_
              rw [p2]
              refine gx_if_ne X.1 X.2.1 (tgt := 93) d_Mo_elect_52 (by decide) (by omega) (fun h52_2 => ?_) (fun h52_2 => ?_)
              · skip
                have u2 : ab_up a g 2 = false := by have z := xb_one.mp (show xb (!ab_up a g 2) = 1 by omega); simpa using z
                have gd2 : ab_good a g 2 = false := by unfold ab_good; rw [u2]; rfl
                refine lv_iinc (k := 1) (v := nI (3)) X.1 X.2.1 d_Mo_elect_93 hl rfl (by decide) (by decide) rfl (fun ls hl => ?_)
                have hl : lv_has ls 6 [(4, .int (nI 3)), (5, .int (nI ((3 * g) + 2))), (3, .int (nI 1)), (2, .int (nI (ab_top a g))), (0, .ref (ad 224)), (1, .int (nI g))] := hl
                refine lv_goto (tgt := 31) X.1 X.2.1 d_Mo_elect_96 (by decide) ?_
                refine lv_iload X.1 X.2.1 d_Mo_elect_31 (lv_at hl 0 rfl) ?_
                refine lv_iconst (v := nI 3) X.1 X.2.1 d_Mo_elect_33 (by decide) ?_
                refine gx_icmp_ge X.1 X.2.1 (tgt := 99) d_Mo_elect_34 (by decide) (by omega) (by omega) (fun h34 => ?_) (fun h34 => absurd h34 (by decide))
                refine fin 1 ?_ _ _ ls hP hS (lv_sub hl [2, 3, 4, 5] rfl)
                clear fin hP hS hl X S hr hlk hK hN hJ hx hw I
                unfold ab_best
                grind
              · skip
                have u2 : ab_up a g 2 = true := by have z := xb_zero.mp h52_2; simpa using z
                refine lv_aload_n X.1 X.2.1 d_Mo_elect_55 rfl (lv_at hl 4 rfl) ?_
                refine gg_Mo_29 X hP d_Mo_elect_56 ?_
                refine lv_iload X.1 X.2.1 d_Mo_elect_59 (lv_at hl 0 rfl) ?_
                refine ga_231 (by omega) X hP d_Mo_elect_61 ?_
                rw [q2]
                refine lv_iload_n X.1 X.2.1 d_Mo_elect_62 rfl (lv_at hl 3 rfl) ?_
                refine gx_icmp_ne X.1 X.2.1 (tgt := 93) d_Mo_elect_63 (by decide) (by omega) (by omega) (fun h63_2 => ?_) (fun h63_2 => ?_)
                · skip
                  have gd2 : ab_good a g 2 = false := by unfold ab_good; simp; intro _; exact h63_2
                  refine lv_iinc (k := 1) (v := nI (3)) X.1 X.2.1 d_Mo_elect_93 hl rfl (by decide) (by decide) rfl (fun ls hl => ?_)
                  have hl : lv_has ls 6 [(4, .int (nI 3)), (5, .int (nI ((3 * g) + 2))), (3, .int (nI 1)), (2, .int (nI (ab_top a g))), (0, .ref (ad 224)), (1, .int (nI g))] := hl
                  refine lv_goto (tgt := 31) X.1 X.2.1 d_Mo_elect_96 (by decide) ?_
                  refine lv_iload X.1 X.2.1 d_Mo_elect_31 (lv_at hl 0 rfl) ?_
                  refine lv_iconst (v := nI 3) X.1 X.2.1 d_Mo_elect_33 (by decide) ?_
                  refine gx_icmp_ge X.1 X.2.1 (tgt := 99) d_Mo_elect_34 (by decide) (by omega) (by omega) (fun h34 => ?_) (fun h34 => absurd h34 (by decide))
                  refine fin 1 ?_ _ _ ls hP hS (lv_sub hl [2, 3, 4, 5] rfl)
                  clear fin hP hS hl X S hr hlk hK hN hJ hx hw I
                  unfold ab_best
                  grind
                · skip
                  have gd2 : ab_good a g 2 = true := by unfold ab_good; rw [u2, h63_2]; simp
                  refine lv_iload_n X.1 X.2.1 d_Mo_elect_66 rfl (lv_at hl 2 rfl) ?_
                  refine gx_if_lt X.1 X.2.1 (tgt := 90) d_Mo_elect_67 (by decide) (by omega) ?_
                  refine lv_aload_n X.1 X.2.1 d_Mo_elect_70 rfl (lv_at hl 4 rfl) ?_
                  refine gg_Mo_32 X hP d_Mo_elect_71 ?_
                  refine lv_iload X.1 X.2.1 d_Mo_elect_74 (lv_at hl 0 rfl) ?_
                  refine ga_232 (by omega) X hP d_Mo_elect_76 ?_
                  rw [l2]
                  refine lv_aload_n X.1 X.2.1 d_Mo_elect_77 rfl (lv_at hl 4 rfl) ?_
                  refine gg_Mo_32 X hP d_Mo_elect_78 ?_
                  refine lv_iconst (v := nI 3) X.1 X.2.1 d_Mo_elect_81 (by decide) ?_
                  refine lv_iload_n X.1 X.2.1 d_Mo_elect_82 rfl (lv_at hl 5 rfl) ?_
                  refine gx_imul X.1 X.2.1 d_Mo_elect_83 ?_
                  refine lv_iload_n X.1 X.2.1 d_Mo_elect_84 rfl (lv_at hl 2 rfl) ?_
                  refine gx_iadd X.1 X.2.1 d_Mo_elect_85 ?_
                  refine ga_232 (by omega) X hP d_Mo_elect_86 ?_
                  rw [l1]
                  refine gx_icmp_le X.1 X.2.1 (tgt := 93) d_Mo_elect_87 (by decide) (by omega) (by omega) (fun h87_2 => ?_) (fun h87_2 => ?_)
                  · skip
                    refine lv_iinc (k := 1) (v := nI (3)) X.1 X.2.1 d_Mo_elect_93 hl rfl (by decide) (by decide) rfl (fun ls hl => ?_)
                    have hl : lv_has ls 6 [(4, .int (nI 3)), (5, .int (nI ((3 * g) + 2))), (3, .int (nI 1)), (2, .int (nI (ab_top a g))), (0, .ref (ad 224)), (1, .int (nI g))] := hl
                    refine lv_goto (tgt := 31) X.1 X.2.1 d_Mo_elect_96 (by decide) ?_
                    refine lv_iload X.1 X.2.1 d_Mo_elect_31 (lv_at hl 0 rfl) ?_
                    refine lv_iconst (v := nI 3) X.1 X.2.1 d_Mo_elect_33 (by decide) ?_
                    refine gx_icmp_ge X.1 X.2.1 (tgt := 99) d_Mo_elect_34 (by decide) (by omega) (by omega) (fun h34 => ?_) (fun h34 => absurd h34 (by decide))
                    refine fin 1 ?_ _ _ ls hP hS (lv_sub hl [2, 3, 4, 5] rfl)
                    clear fin hP hS hl X S hr hlk hK hN hJ hx hw I
                    unfold ab_best
                    grind
                  · skip
                    refine lv_iload X.1 X.2.1 d_Mo_elect_90 (lv_at hl 1 rfl) ?_
                    refine lv_istore_n X.1 X.2.1 d_Mo_elect_92 rfl hl (by decide) rfl (fun ls hl => ?_)
                    have hl : lv_has ls 6 [(3, .int (nI 2)), (5, .int (nI ((3 * g) + 2))), (4, .int (nI 2)), (2, .int (nI (ab_top a g))), (0, .ref (ad 224)), (1, .int (nI g))] := hl
                    refine lv_iinc (k := 2) (v := nI (3)) X.1 X.2.1 d_Mo_elect_93 hl rfl (by decide) (by decide) rfl (fun ls hl => ?_)
                    have hl : lv_has ls 6 [(4, .int (nI 3)), (3, .int (nI 2)), (5, .int (nI ((3 * g) + 2))), (2, .int (nI (ab_top a g))), (0, .ref (ad 224)), (1, .int (nI g))] := hl
                    refine lv_goto (tgt := 31) X.1 X.2.1 d_Mo_elect_96 (by decide) ?_
                    refine lv_iload X.1 X.2.1 d_Mo_elect_31 (lv_at hl 0 rfl) ?_
                    refine lv_iconst (v := nI 3) X.1 X.2.1 d_Mo_elect_33 (by decide) ?_
                    refine gx_icmp_ge X.1 X.2.1 (tgt := 99) d_Mo_elect_34 (by decide) (by omega) (by omega) (fun h34 => ?_) (fun h34 => absurd h34 (by decide))
                    refine fin 2 ?_ _ _ ls hP hS (lv_sub hl [1, 3, 4, 5] rfl)
                    clear fin hP hS hl X S hr hlk hK hN hJ hx hw I
                    unfold ab_best
                    grind
        · skip
          have gd0 : ab_good a g 0 = true := by unfold ab_good; rw [u0, h63_0]; simp
          refine lv_iload_n X.1 X.2.1 d_Mo_elect_66 rfl (lv_at hl 2 rfl) ?_
          refine lv_if_lt X.1 X.2.1 (tgt := 90) d_Mo_elect_67 (by decide) (fun h67 => ?_) (fun h67 => absurd (show (-1 : Int32) < 0 by decide) h67)
          refine lv_iload X.1 X.2.1 d_Mo_elect_90 (lv_at hl 1 rfl) ?_
          refine lv_istore_n X.1 X.2.1 d_Mo_elect_92 rfl hl (by decide) rfl (fun ls hl => ?_)
          have hl : lv_has ls 6 [(3, .int (nI 0)), (5, .int (nI ((3 * g) + 0))), (4, .int (nI 0)), (2, .int (nI (ab_top a g))), (0, .ref (ad 224)), (1, .int (nI g))] := hl
          refine lv_iinc (k := 2) (v := nI (1)) X.1 X.2.1 d_Mo_elect_93 hl rfl (by decide) (by decide) rfl (fun ls hl => ?_)
          have hl : lv_has ls 6 [(4, .int (nI 1)), (3, .int (nI 0)), (5, .int (nI ((3 * g) + 0))), (2, .int (nI (ab_top a g))), (0, .ref (ad 224)), (1, .int (nI g))] := hl
          refine lv_goto (tgt := 31) X.1 X.2.1 d_Mo_elect_96 (by decide) ?_
          refine lv_iload X.1 X.2.1 d_Mo_elect_31 (lv_at hl 0 rfl) ?_
          refine lv_iconst (v := nI 3) X.1 X.2.1 d_Mo_elect_33 (by decide) ?_
          refine gx_icmp_ge X.1 X.2.1 (tgt := 99) d_Mo_elect_34 (by decide) (by omega) (by omega) (fun h34 => absurd h34 (by decide)) (fun h34 => ?_)
          refine lv_iconst (v := nI 3) X.1 X.2.1 d_Mo_elect_37 (by decide) ?_
          refine lv_iload_n X.1 X.2.1 d_Mo_elect_38 rfl (lv_at hl 5 rfl) ?_
          refine gx_imul X.1 X.2.1 d_Mo_elect_39 ?_
          refine lv_iload X.1 X.2.1 d_Mo_elect_40 (lv_at hl 0 rfl) ?_
          refine gx_iadd X.1 X.2.1 d_Mo_elect_42 ?_
          refine lv_istore X.1 X.2.1 d_Mo_elect_43 hl (by decide) rfl (fun ls hl => ?_)
          have hl : lv_has ls 6 [(5, .int (nI ((3 * g) + 1))), (4, .int (nI 1)), (3, .int (nI 0)), (2, .int (nI (ab_top a g))), (0, .ref (ad 224)), (1, .int (nI g))] := hl
          refine lv_aload_n X.1 X.2.1 d_Mo_elect_45 rfl (lv_at hl 4 rfl) ?_
          refine gg_Mo_26 X hP d_Mo_elect_46 ?_
          refine lv_iload X.1 X.2.1 d_Mo_elect_49 (lv_at hl 0 rfl) ?_
          refine ga_230 (by omega) X hP d_Mo_elect_51 ?_
          rw [p1]
          refine gx_if_ne X.1 X.2.1 (tgt := 93) d_Mo_elect_52 (by decide) (by omega) (fun h52_1 => ?_) (fun h52_1 => ?_)
          · skip
            have u1 : ab_up a g 1 = false := by have z := xb_one.mp (show xb (!ab_up a g 1) = 1 by omega); simpa using z
            have gd1 : ab_good a g 1 = false := by unfold ab_good; rw [u1]; rfl
            refine lv_iinc (k := 1) (v := nI (2)) X.1 X.2.1 d_Mo_elect_93 hl rfl (by decide) (by decide) rfl (fun ls hl => ?_)
            have hl : lv_has ls 6 [(4, .int (nI 2)), (5, .int (nI ((3 * g) + 1))), (3, .int (nI 0)), (2, .int (nI (ab_top a g))), (0, .ref (ad 224)), (1, .int (nI g))] := hl
            refine lv_goto (tgt := 31) X.1 X.2.1 d_Mo_elect_96 (by decide) ?_
            refine lv_iload X.1 X.2.1 d_Mo_elect_31 (lv_at hl 0 rfl) ?_
            refine lv_iconst (v := nI 3) X.1 X.2.1 d_Mo_elect_33 (by decide) ?_
            refine gx_icmp_ge X.1 X.2.1 (tgt := 99) d_Mo_elect_34 (by decide) (by omega) (by omega) (fun h34 => absurd h34 (by decide)) (fun h34 => ?_)
            refine lv_iconst (v := nI 3) X.1 X.2.1 d_Mo_elect_37 (by decide) ?_
            refine lv_iload_n X.1 X.2.1 d_Mo_elect_38 rfl (lv_at hl 5 rfl) ?_
            refine gx_imul X.1 X.2.1 d_Mo_elect_39 ?_
            refine lv_iload X.1 X.2.1 d_Mo_elect_40 (lv_at hl 0 rfl) ?_
            refine gx_iadd X.1 X.2.1 d_Mo_elect_42 ?_
            refine lv_istore X.1 X.2.1 d_Mo_elect_43 hl (by decide) rfl (fun ls hl => ?_)
            have hl : lv_has ls 6 [(5, .int (nI ((3 * g) + 2))), (4, .int (nI 2)), (3, .int (nI 0)), (2, .int (nI (ab_top a g))), (0, .ref (ad 224)), (1, .int (nI g))] := hl
            refine lv_aload_n X.1 X.2.1 d_Mo_elect_45 rfl (lv_at hl 4 rfl) ?_
            refine gg_Mo_26 X hP d_Mo_elect_46 ?_
            refine lv_iload X.1 X.2.1 d_Mo_elect_49 (lv_at hl 0 rfl) ?_
            refine ga_230 (by omega) X hP d_Mo_elect_51 ?_
            rw [p2]
            refine gx_if_ne X.1 X.2.1 (tgt := 93) d_Mo_elect_52 (by decide) (by omega) (fun h52_2 => ?_) (fun h52_2 => ?_)
            · skip
              have u2 : ab_up a g 2 = false := by have z := xb_one.mp (show xb (!ab_up a g 2) = 1 by omega); simpa using z
              have gd2 : ab_good a g 2 = false := by unfold ab_good; rw [u2]; rfl
              refine lv_iinc (k := 1) (v := nI (3)) X.1 X.2.1 d_Mo_elect_93 hl rfl (by decide) (by decide) rfl (fun ls hl => ?_)
              have hl : lv_has ls 6 [(4, .int (nI 3)), (5, .int (nI ((3 * g) + 2))), (3, .int (nI 0)), (2, .int (nI (ab_top a g))), (0, .ref (ad 224)), (1, .int (nI g))] := hl
              refine lv_goto (tgt := 31) X.1 X.2.1 d_Mo_elect_96 (by decide) ?_
              refine lv_iload X.1 X.2.1 d_Mo_elect_31 (lv_at hl 0 rfl) ?_
              refine lv_iconst (v := nI 3) X.1 X.2.1 d_Mo_elect_33 (by decide) ?_
              refine gx_icmp_ge X.1 X.2.1 (tgt := 99) d_Mo_elect_34 (by decide) (by omega) (by omega) (fun h34 => ?_) (fun h34 => absurd h34 (by decide))
              refine fin 0 ?_ _ _ ls hP hS (lv_sub hl [2, 3, 4, 5] rfl)
              clear fin hP hS hl X S hr hlk hK hN hJ hx hw I
              unfold ab_best
              grind
            · skip
              have u2 : ab_up a g 2 = true := by have z := xb_zero.mp h52_2; simpa using z
              refine lv_aload_n X.1 X.2.1 d_Mo_elect_55 rfl (lv_at hl 4 rfl) ?_
              refine gg_Mo_29 X hP d_Mo_elect_56 ?_
              refine lv_iload X.1 X.2.1 d_Mo_elect_59 (lv_at hl 0 rfl) ?_
              refine ga_231 (by omega) X hP d_Mo_elect_61 ?_
              rw [q2]
              refine lv_iload_n X.1 X.2.1 d_Mo_elect_62 rfl (lv_at hl 3 rfl) ?_
              refine gx_icmp_ne X.1 X.2.1 (tgt := 93) d_Mo_elect_63 (by decide) (by omega) (by omega) (fun h63_2 => ?_) (fun h63_2 => ?_)
              · skip
                have gd2 : ab_good a g 2 = false := by unfold ab_good; simp; intro _; exact h63_2
                refine lv_iinc (k := 1) (v := nI (3)) X.1 X.2.1 d_Mo_elect_93 hl rfl (by decide) (by decide) rfl (fun ls hl => ?_)
                have hl : lv_has ls 6 [(4, .int (nI 3)), (5, .int (nI ((3 * g) + 2))), (3, .int (nI 0)), (2, .int (nI (ab_top a g))), (0, .ref (ad 224)), (1, .int (nI g))] := hl
                refine lv_goto (tgt := 31) X.1 X.2.1 d_Mo_elect_96 (by decide) ?_
                refine lv_iload X.1 X.2.1 d_Mo_elect_31 (lv_at hl 0 rfl) ?_
                refine lv_iconst (v := nI 3) X.1 X.2.1 d_Mo_elect_33 (by decide) ?_
                refine gx_icmp_ge X.1 X.2.1 (tgt := 99) d_Mo_elect_34 (by decide) (by omega) (by omega) (fun h34 => ?_) (fun h34 => absurd h34 (by decide))
                refine fin 0 ?_ _ _ ls hP hS (lv_sub hl [2, 3, 4, 5] rfl)
                clear fin hP hS hl X S hr hlk hK hN hJ hx hw I
                unfold ab_best
                grind
              · skip
                have gd2 : ab_good a g 2 = true := by unfold ab_good; rw [u2, h63_2]; simp
                refine lv_iload_n X.1 X.2.1 d_Mo_elect_66 rfl (lv_at hl 2 rfl) ?_
                refine gx_if_lt X.1 X.2.1 (tgt := 90) d_Mo_elect_67 (by decide) (by omega) ?_
                refine lv_aload_n X.1 X.2.1 d_Mo_elect_70 rfl (lv_at hl 4 rfl) ?_
                refine gg_Mo_32 X hP d_Mo_elect_71 ?_
                refine lv_iload X.1 X.2.1 d_Mo_elect_74 (lv_at hl 0 rfl) ?_
                refine ga_232 (by omega) X hP d_Mo_elect_76 ?_
                rw [l2]
                refine lv_aload_n X.1 X.2.1 d_Mo_elect_77 rfl (lv_at hl 4 rfl) ?_
                refine gg_Mo_32 X hP d_Mo_elect_78 ?_
                refine lv_iconst (v := nI 3) X.1 X.2.1 d_Mo_elect_81 (by decide) ?_
                refine lv_iload_n X.1 X.2.1 d_Mo_elect_82 rfl (lv_at hl 5 rfl) ?_
                refine gx_imul X.1 X.2.1 d_Mo_elect_83 ?_
                refine lv_iload_n X.1 X.2.1 d_Mo_elect_84 rfl (lv_at hl 2 rfl) ?_
                refine gx_iadd X.1 X.2.1 d_Mo_elect_85 ?_
                refine ga_232 (by omega) X hP d_Mo_elect_86 ?_
                rw [l0]
                refine gx_icmp_le X.1 X.2.1 (tgt := 93) d_Mo_elect_87 (by decide) (by omega) (by omega) (fun h87_2 => ?_) (fun h87_2 => ?_)
                · skip
                  refine lv_iinc (k := 1) (v := nI (3)) X.1 X.2.1 d_Mo_elect_93 hl rfl (by decide) (by decide) rfl (fun ls hl => ?_)
                  have hl : lv_has ls 6 [(4, .int (nI 3)), (5, .int (nI ((3 * g) + 2))), (3, .int (nI 0)), (2, .int (nI (ab_top a g))), (0, .ref (ad 224)), (1, .int (nI g))] := hl
                  refine lv_goto (tgt := 31) X.1 X.2.1 d_Mo_elect_96 (by decide) ?_
                  refine lv_iload X.1 X.2.1 d_Mo_elect_31 (lv_at hl 0 rfl) ?_
                  refine lv_iconst (v := nI 3) X.1 X.2.1 d_Mo_elect_33 (by decide) ?_
                  refine gx_icmp_ge X.1 X.2.1 (tgt := 99) d_Mo_elect_34 (by decide) (by omega) (by omega) (fun h34 => ?_) (fun h34 => absurd h34 (by decide))
                  refine fin 0 ?_ _ _ ls hP hS (lv_sub hl [2, 3, 4, 5] rfl)
                  clear fin hP hS hl X S hr hlk hK hN hJ hx hw I
                  unfold ab_best
                  grind
                · skip
                  refine lv_iload X.1 X.2.1 d_Mo_elect_90 (lv_at hl 1 rfl) ?_
                  refine lv_istore_n X.1 X.2.1 d_Mo_elect_92 rfl hl (by decide) rfl (fun ls hl => ?_)
                  have hl : lv_has ls 6 [(3, .int (nI 2)), (5, .int (nI ((3 * g) + 2))), (4, .int (nI 2)), (2, .int (nI (ab_top a g))), (0, .ref (ad 224)), (1, .int (nI g))] := hl
                  refine lv_iinc (k := 2) (v := nI (3)) X.1 X.2.1 d_Mo_elect_93 hl rfl (by decide) (by decide) rfl (fun ls hl => ?_)
                  have hl : lv_has ls 6 [(4, .int (nI 3)), (3, .int (nI 2)), (5, .int (nI ((3 * g) + 2))), (2, .int (nI (ab_top a g))), (0, .ref (ad 224)), (1, .int (nI g))] := hl
                  refine lv_goto (tgt := 31) X.1 X.2.1 d_Mo_elect_96 (by decide) ?_
                  refine lv_iload X.1 X.2.1 d_Mo_elect_31 (lv_at hl 0 rfl) ?_
                  refine lv_iconst (v := nI 3) X.1 X.2.1 d_Mo_elect_33 (by decide) ?_
                  refine gx_icmp_ge X.1 X.2.1 (tgt := 99) d_Mo_elect_34 (by decide) (by omega) (by omega) (fun h34 => ?_) (fun h34 => absurd h34 (by decide))
                  refine fin 2 ?_ _ _ ls hP hS (lv_sub hl [1, 3, 4, 5] rfl)
                  clear fin hP hS hl X S hr hlk hK hN hJ hx hw I
                  unfold ab_best
                  grind
          · skip
            have u1 : ab_up a g 1 = true := by have z := xb_zero.mp h52_1; simpa using z
            refine lv_aload_n X.1 X.2.1 d_Mo_elect_55 rfl (lv_at hl 4 rfl) ?_
            refine gg_Mo_29 X hP d_Mo_elect_56 ?_
            refine lv_iload X.1 X.2.1 d_Mo_elect_59 (lv_at hl 0 rfl) ?_
            refine ga_231 (by omega) X hP d_Mo_elect_61 ?_
            rw [q1]
            refine lv_iload_n X.1 X.2.1 d_Mo_elect_62 rfl (lv_at hl 3 rfl) ?_
            refine gx_icmp_ne X.1 X.2.1 (tgt := 93) d_Mo_elect_63 (by decide) (by omega) (by omega) (fun h63_1 => ?_) (fun h63_1 => ?_)
            · skip
              have gd1 : ab_good a g 1 = false := by unfold ab_good; simp; intro _; exact h63_1
              refine lv_iinc (k := 1) (v := nI (2)) X.1 X.2.1 d_Mo_elect_93 hl rfl (by decide) (by decide) rfl (fun ls hl => ?_)
              have hl : lv_has ls 6 [(4, .int (nI 2)), (5, .int (nI ((3 * g) + 1))), (3, .int (nI 0)), (2, .int (nI (ab_top a g))), (0, .ref (ad 224)), (1, .int (nI g))] := hl
              refine lv_goto (tgt := 31) X.1 X.2.1 d_Mo_elect_96 (by decide) ?_
              refine lv_iload X.1 X.2.1 d_Mo_elect_31 (lv_at hl 0 rfl) ?_
              refine lv_iconst (v := nI 3) X.1 X.2.1 d_Mo_elect_33 (by decide) ?_
              refine gx_icmp_ge X.1 X.2.1 (tgt := 99) d_Mo_elect_34 (by decide) (by omega) (by omega) (fun h34 => absurd h34 (by decide)) (fun h34 => ?_)
              refine lv_iconst (v := nI 3) X.1 X.2.1 d_Mo_elect_37 (by decide) ?_
              refine lv_iload_n X.1 X.2.1 d_Mo_elect_38 rfl (lv_at hl 5 rfl) ?_
              refine gx_imul X.1 X.2.1 d_Mo_elect_39 ?_
              refine lv_iload X.1 X.2.1 d_Mo_elect_40 (lv_at hl 0 rfl) ?_
              refine gx_iadd X.1 X.2.1 d_Mo_elect_42 ?_
              refine lv_istore X.1 X.2.1 d_Mo_elect_43 hl (by decide) rfl (fun ls hl => ?_)
              have hl : lv_has ls 6 [(5, .int (nI ((3 * g) + 2))), (4, .int (nI 2)), (3, .int (nI 0)), (2, .int (nI (ab_top a g))), (0, .ref (ad 224)), (1, .int (nI g))] := hl
              refine lv_aload_n X.1 X.2.1 d_Mo_elect_45 rfl (lv_at hl 4 rfl) ?_
              refine gg_Mo_26 X hP d_Mo_elect_46 ?_
              refine lv_iload X.1 X.2.1 d_Mo_elect_49 (lv_at hl 0 rfl) ?_
              refine ga_230 (by omega) X hP d_Mo_elect_51 ?_
              rw [p2]
              refine gx_if_ne X.1 X.2.1 (tgt := 93) d_Mo_elect_52 (by decide) (by omega) (fun h52_2 => ?_) (fun h52_2 => ?_)
              · skip
                have u2 : ab_up a g 2 = false := by have z := xb_one.mp (show xb (!ab_up a g 2) = 1 by omega); simpa using z
                have gd2 : ab_good a g 2 = false := by unfold ab_good; rw [u2]; rfl
                refine lv_iinc (k := 1) (v := nI (3)) X.1 X.2.1 d_Mo_elect_93 hl rfl (by decide) (by decide) rfl (fun ls hl => ?_)
                have hl : lv_has ls 6 [(4, .int (nI 3)), (5, .int (nI ((3 * g) + 2))), (3, .int (nI 0)), (2, .int (nI (ab_top a g))), (0, .ref (ad 224)), (1, .int (nI g))] := hl
                refine lv_goto (tgt := 31) X.1 X.2.1 d_Mo_elect_96 (by decide) ?_
                refine lv_iload X.1 X.2.1 d_Mo_elect_31 (lv_at hl 0 rfl) ?_
                refine lv_iconst (v := nI 3) X.1 X.2.1 d_Mo_elect_33 (by decide) ?_
                refine gx_icmp_ge X.1 X.2.1 (tgt := 99) d_Mo_elect_34 (by decide) (by omega) (by omega) (fun h34 => ?_) (fun h34 => absurd h34 (by decide))
                refine fin 0 ?_ _ _ ls hP hS (lv_sub hl [2, 3, 4, 5] rfl)
                clear fin hP hS hl X S hr hlk hK hN hJ hx hw I
                unfold ab_best
                grind
              · skip
                have u2 : ab_up a g 2 = true := by have z := xb_zero.mp h52_2; simpa using z
                refine lv_aload_n X.1 X.2.1 d_Mo_elect_55 rfl (lv_at hl 4 rfl) ?_
                refine gg_Mo_29 X hP d_Mo_elect_56 ?_
                refine lv_iload X.1 X.2.1 d_Mo_elect_59 (lv_at hl 0 rfl) ?_
                refine ga_231 (by omega) X hP d_Mo_elect_61 ?_
                rw [q2]
                refine lv_iload_n X.1 X.2.1 d_Mo_elect_62 rfl (lv_at hl 3 rfl) ?_
                refine gx_icmp_ne X.1 X.2.1 (tgt := 93) d_Mo_elect_63 (by decide) (by omega) (by omega) (fun h63_2 => ?_) (fun h63_2 => ?_)
                · skip
                  have gd2 : ab_good a g 2 = false := by unfold ab_good; simp; intro _; exact h63_2
                  refine lv_iinc (k := 1) (v := nI (3)) X.1 X.2.1 d_Mo_elect_93 hl rfl (by decide) (by decide) rfl (fun ls hl => ?_)
                  have hl : lv_has ls 6 [(4, .int (nI 3)), (5, .int (nI ((3 * g) + 2))), (3, .int (nI 0)), (2, .int (nI (ab_top a g))), (0, .ref (ad 224)), (1, .int (nI g))] := hl
                  refine lv_goto (tgt := 31) X.1 X.2.1 d_Mo_elect_96 (by decide) ?_
                  refine lv_iload X.1 X.2.1 d_Mo_elect_31 (lv_at hl 0 rfl) ?_
                  refine lv_iconst (v := nI 3) X.1 X.2.1 d_Mo_elect_33 (by decide) ?_
                  refine gx_icmp_ge X.1 X.2.1 (tgt := 99) d_Mo_elect_34 (by decide) (by omega) (by omega) (fun h34 => ?_) (fun h34 => absurd h34 (by decide))
                  refine fin 0 ?_ _ _ ls hP hS (lv_sub hl [2, 3, 4, 5] rfl)
                  clear fin hP hS hl X S hr hlk hK hN hJ hx hw I
                  unfold ab_best
                  grind
                · skip
                  have gd2 : ab_good a g 2 = true := by unfold ab_good; rw [u2, h63_2]; simp
                  refine lv_iload_n X.1 X.2.1 d_Mo_elect_66 rfl (lv_at hl 2 rfl) ?_
                  refine gx_if_lt X.1 X.2.1 (tgt := 90) d_Mo_elect_67 (by decide) (by omega) ?_
                  refine lv_aload_n X.1 X.2.1 d_Mo_elect_70 rfl (lv_at hl 4 rfl) ?_
                  refine gg_Mo_32 X hP d_Mo_elect_71 ?_
                  refine lv_iload X.1 X.2.1 d_Mo_elect_74 (lv_at hl 0 rfl) ?_
                  refine ga_232 (by omega) X hP d_Mo_elect_76 ?_
                  rw [l2]
                  refine lv_aload_n X.1 X.2.1 d_Mo_elect_77 rfl (lv_at hl 4 rfl) ?_
                  refine gg_Mo_32 X hP d_Mo_elect_78 ?_
                  refine lv_iconst (v := nI 3) X.1 X.2.1 d_Mo_elect_81 (by decide) ?_
                  refine lv_iload_n X.1 X.2.1 d_Mo_elect_82 rfl (lv_at hl 5 rfl) ?_
                  refine gx_imul X.1 X.2.1 d_Mo_elect_83 ?_
                  refine lv_iload_n X.1 X.2.1 d_Mo_elect_84 rfl (lv_at hl 2 rfl) ?_
                  refine gx_iadd X.1 X.2.1 d_Mo_elect_85 ?_
                  refine ga_232 (by omega) X hP d_Mo_elect_86 ?_
                  rw [l0]
                  refine gx_icmp_le X.1 X.2.1 (tgt := 93) d_Mo_elect_87 (by decide) (by omega) (by omega) (fun h87_2 => ?_) (fun h87_2 => ?_)
                  · skip
                    refine lv_iinc (k := 1) (v := nI (3)) X.1 X.2.1 d_Mo_elect_93 hl rfl (by decide) (by decide) rfl (fun ls hl => ?_)
                    have hl : lv_has ls 6 [(4, .int (nI 3)), (5, .int (nI ((3 * g) + 2))), (3, .int (nI 0)), (2, .int (nI (ab_top a g))), (0, .ref (ad 224)), (1, .int (nI g))] := hl
                    refine lv_goto (tgt := 31) X.1 X.2.1 d_Mo_elect_96 (by decide) ?_
                    refine lv_iload X.1 X.2.1 d_Mo_elect_31 (lv_at hl 0 rfl) ?_
                    refine lv_iconst (v := nI 3) X.1 X.2.1 d_Mo_elect_33 (by decide) ?_
                    refine gx_icmp_ge X.1 X.2.1 (tgt := 99) d_Mo_elect_34 (by decide) (by omega) (by omega) (fun h34 => ?_) (fun h34 => absurd h34 (by decide))
                    refine fin 0 ?_ _ _ ls hP hS (lv_sub hl [2, 3, 4, 5] rfl)
                    clear fin hP hS hl X S hr hlk hK hN hJ hx hw I
                    unfold ab_best
                    grind
                  · skip
                    refine lv_iload X.1 X.2.1 d_Mo_elect_90 (lv_at hl 1 rfl) ?_
                    refine lv_istore_n X.1 X.2.1 d_Mo_elect_92 rfl hl (by decide) rfl (fun ls hl => ?_)
                    have hl : lv_has ls 6 [(3, .int (nI 2)), (5, .int (nI ((3 * g) + 2))), (4, .int (nI 2)), (2, .int (nI (ab_top a g))), (0, .ref (ad 224)), (1, .int (nI g))] := hl
                    refine lv_iinc (k := 2) (v := nI (3)) X.1 X.2.1 d_Mo_elect_93 hl rfl (by decide) (by decide) rfl (fun ls hl => ?_)
                    have hl : lv_has ls 6 [(4, .int (nI 3)), (3, .int (nI 2)), (5, .int (nI ((3 * g) + 2))), (2, .int (nI (ab_top a g))), (0, .ref (ad 224)), (1, .int (nI g))] := hl
                    refine lv_goto (tgt := 31) X.1 X.2.1 d_Mo_elect_96 (by decide) ?_
                    refine lv_iload X.1 X.2.1 d_Mo_elect_31 (lv_at hl 0 rfl) ?_
                    refine lv_iconst (v := nI 3) X.1 X.2.1 d_Mo_elect_33 (by decide) ?_
                    refine gx_icmp_ge X.1 X.2.1 (tgt := 99) d_Mo_elect_34 (by decide) (by omega) (by omega) (fun h34 => ?_) (fun h34 => absurd h34 (by decide))
                    refine fin 2 ?_ _ _ ls hP hS (lv_sub hl [1, 3, 4, 5] rfl)
                    clear fin hP hS hl X S hr hlk hK hN hJ hx hw I
                    unfold ab_best
                    grind
            · skip
              have gd1 : ab_good a g 1 = true := by unfold ab_good; rw [u1, h63_1]; simp
              refine lv_iload_n X.1 X.2.1 d_Mo_elect_66 rfl (lv_at hl 2 rfl) ?_
              refine gx_if_lt X.1 X.2.1 (tgt := 90) d_Mo_elect_67 (by decide) (by omega) ?_
              refine lv_aload_n X.1 X.2.1 d_Mo_elect_70 rfl (lv_at hl 4 rfl) ?_
              refine gg_Mo_32 X hP d_Mo_elect_71 ?_
              refine lv_iload X.1 X.2.1 d_Mo_elect_74 (lv_at hl 0 rfl) ?_
              refine ga_232 (by omega) X hP d_Mo_elect_76 ?_
              rw [l1]
              refine lv_aload_n X.1 X.2.1 d_Mo_elect_77 rfl (lv_at hl 4 rfl) ?_
              refine gg_Mo_32 X hP d_Mo_elect_78 ?_
              refine lv_iconst (v := nI 3) X.1 X.2.1 d_Mo_elect_81 (by decide) ?_
              refine lv_iload_n X.1 X.2.1 d_Mo_elect_82 rfl (lv_at hl 5 rfl) ?_
              refine gx_imul X.1 X.2.1 d_Mo_elect_83 ?_
              refine lv_iload_n X.1 X.2.1 d_Mo_elect_84 rfl (lv_at hl 2 rfl) ?_
              refine gx_iadd X.1 X.2.1 d_Mo_elect_85 ?_
              refine ga_232 (by omega) X hP d_Mo_elect_86 ?_
              rw [l0]
              refine gx_icmp_le X.1 X.2.1 (tgt := 93) d_Mo_elect_87 (by decide) (by omega) (by omega) (fun h87_1 => ?_) (fun h87_1 => ?_)
              · skip
                refine lv_iinc (k := 1) (v := nI (2)) X.1 X.2.1 d_Mo_elect_93 hl rfl (by decide) (by decide) rfl (fun ls hl => ?_)
                have hl : lv_has ls 6 [(4, .int (nI 2)), (5, .int (nI ((3 * g) + 1))), (3, .int (nI 0)), (2, .int (nI (ab_top a g))), (0, .ref (ad 224)), (1, .int (nI g))] := hl
                refine lv_goto (tgt := 31) X.1 X.2.1 d_Mo_elect_96 (by decide) ?_
                refine lv_iload X.1 X.2.1 d_Mo_elect_31 (lv_at hl 0 rfl) ?_
                refine lv_iconst (v := nI 3) X.1 X.2.1 d_Mo_elect_33 (by decide) ?_
                refine gx_icmp_ge X.1 X.2.1 (tgt := 99) d_Mo_elect_34 (by decide) (by omega) (by omega) (fun h34 => absurd h34 (by decide)) (fun h34 => ?_)
                refine lv_iconst (v := nI 3) X.1 X.2.1 d_Mo_elect_37 (by decide) ?_
                refine lv_iload_n X.1 X.2.1 d_Mo_elect_38 rfl (lv_at hl 5 rfl) ?_
                refine gx_imul X.1 X.2.1 d_Mo_elect_39 ?_
                refine lv_iload X.1 X.2.1 d_Mo_elect_40 (lv_at hl 0 rfl) ?_
                refine gx_iadd X.1 X.2.1 d_Mo_elect_42 ?_
                refine lv_istore X.1 X.2.1 d_Mo_elect_43 hl (by decide) rfl (fun ls hl => ?_)
                have hl : lv_has ls 6 [(5, .int (nI ((3 * g) + 2))), (4, .int (nI 2)), (3, .int (nI 0)), (2, .int (nI (ab_top a g))), (0, .ref (ad 224)), (1, .int (nI g))] := hl
                refine lv_aload_n X.1 X.2.1 d_Mo_elect_45 rfl (lv_at hl 4 rfl) ?_
                refine gg_Mo_26 X hP d_Mo_elect_46 ?_
                refine lv_iload X.1 X.2.1 d_Mo_elect_49 (lv_at hl 0 rfl) ?_
                refine ga_230 (by omega) X hP d_Mo_elect_51 ?_
                rw [p2]
                refine gx_if_ne X.1 X.2.1 (tgt := 93) d_Mo_elect_52 (by decide) (by omega) (fun h52_2 => ?_) (fun h52_2 => ?_)
                · skip
                  have u2 : ab_up a g 2 = false := by have z := xb_one.mp (show xb (!ab_up a g 2) = 1 by omega); simpa using z
                  have gd2 : ab_good a g 2 = false := by unfold ab_good; rw [u2]; rfl
                  refine lv_iinc (k := 1) (v := nI (3)) X.1 X.2.1 d_Mo_elect_93 hl rfl (by decide) (by decide) rfl (fun ls hl => ?_)
                  have hl : lv_has ls 6 [(4, .int (nI 3)), (5, .int (nI ((3 * g) + 2))), (3, .int (nI 0)), (2, .int (nI (ab_top a g))), (0, .ref (ad 224)), (1, .int (nI g))] := hl
                  refine lv_goto (tgt := 31) X.1 X.2.1 d_Mo_elect_96 (by decide) ?_
                  refine lv_iload X.1 X.2.1 d_Mo_elect_31 (lv_at hl 0 rfl) ?_
                  refine lv_iconst (v := nI 3) X.1 X.2.1 d_Mo_elect_33 (by decide) ?_
                  refine gx_icmp_ge X.1 X.2.1 (tgt := 99) d_Mo_elect_34 (by decide) (by omega) (by omega) (fun h34 => ?_) (fun h34 => absurd h34 (by decide))
                  refine fin 0 ?_ _ _ ls hP hS (lv_sub hl [2, 3, 4, 5] rfl)
                  clear fin hP hS hl X S hr hlk hK hN hJ hx hw I
                  unfold ab_best
                  grind
                · skip
                  have u2 : ab_up a g 2 = true := by have z := xb_zero.mp h52_2; simpa using z
                  refine lv_aload_n X.1 X.2.1 d_Mo_elect_55 rfl (lv_at hl 4 rfl) ?_
                  refine gg_Mo_29 X hP d_Mo_elect_56 ?_
                  refine lv_iload X.1 X.2.1 d_Mo_elect_59 (lv_at hl 0 rfl) ?_
                  refine ga_231 (by omega) X hP d_Mo_elect_61 ?_
                  rw [q2]
                  refine lv_iload_n X.1 X.2.1 d_Mo_elect_62 rfl (lv_at hl 3 rfl) ?_
                  refine gx_icmp_ne X.1 X.2.1 (tgt := 93) d_Mo_elect_63 (by decide) (by omega) (by omega) (fun h63_2 => ?_) (fun h63_2 => ?_)
                  · skip
                    have gd2 : ab_good a g 2 = false := by unfold ab_good; simp; intro _; exact h63_2
                    refine lv_iinc (k := 1) (v := nI (3)) X.1 X.2.1 d_Mo_elect_93 hl rfl (by decide) (by decide) rfl (fun ls hl => ?_)
                    have hl : lv_has ls 6 [(4, .int (nI 3)), (5, .int (nI ((3 * g) + 2))), (3, .int (nI 0)), (2, .int (nI (ab_top a g))), (0, .ref (ad 224)), (1, .int (nI g))] := hl
                    refine lv_goto (tgt := 31) X.1 X.2.1 d_Mo_elect_96 (by decide) ?_
                    refine lv_iload X.1 X.2.1 d_Mo_elect_31 (lv_at hl 0 rfl) ?_
                    refine lv_iconst (v := nI 3) X.1 X.2.1 d_Mo_elect_33 (by decide) ?_
                    refine gx_icmp_ge X.1 X.2.1 (tgt := 99) d_Mo_elect_34 (by decide) (by omega) (by omega) (fun h34 => ?_) (fun h34 => absurd h34 (by decide))
                    refine fin 0 ?_ _ _ ls hP hS (lv_sub hl [2, 3, 4, 5] rfl)
                    clear fin hP hS hl X S hr hlk hK hN hJ hx hw I
                    unfold ab_best
                    grind
                  · skip
                    have gd2 : ab_good a g 2 = true := by unfold ab_good; rw [u2, h63_2]; simp
                    refine lv_iload_n X.1 X.2.1 d_Mo_elect_66 rfl (lv_at hl 2 rfl) ?_
                    refine gx_if_lt X.1 X.2.1 (tgt := 90) d_Mo_elect_67 (by decide) (by omega) ?_
                    refine lv_aload_n X.1 X.2.1 d_Mo_elect_70 rfl (lv_at hl 4 rfl) ?_
                    refine gg_Mo_32 X hP d_Mo_elect_71 ?_
                    refine lv_iload X.1 X.2.1 d_Mo_elect_74 (lv_at hl 0 rfl) ?_
                    refine ga_232 (by omega) X hP d_Mo_elect_76 ?_
                    rw [l2]
                    refine lv_aload_n X.1 X.2.1 d_Mo_elect_77 rfl (lv_at hl 4 rfl) ?_
                    refine gg_Mo_32 X hP d_Mo_elect_78 ?_
                    refine lv_iconst (v := nI 3) X.1 X.2.1 d_Mo_elect_81 (by decide) ?_
                    refine lv_iload_n X.1 X.2.1 d_Mo_elect_82 rfl (lv_at hl 5 rfl) ?_
                    refine gx_imul X.1 X.2.1 d_Mo_elect_83 ?_
                    refine lv_iload_n X.1 X.2.1 d_Mo_elect_84 rfl (lv_at hl 2 rfl) ?_
                    refine gx_iadd X.1 X.2.1 d_Mo_elect_85 ?_
                    refine ga_232 (by omega) X hP d_Mo_elect_86 ?_
                    rw [l0]
                    refine gx_icmp_le X.1 X.2.1 (tgt := 93) d_Mo_elect_87 (by decide) (by omega) (by omega) (fun h87_2 => ?_) (fun h87_2 => ?_)
                    · skip
                      refine lv_iinc (k := 1) (v := nI (3)) X.1 X.2.1 d_Mo_elect_93 hl rfl (by decide) (by decide) rfl (fun ls hl => ?_)
                      have hl : lv_has ls 6 [(4, .int (nI 3)), (5, .int (nI ((3 * g) + 2))), (3, .int (nI 0)), (2, .int (nI (ab_top a g))), (0, .ref (ad 224)), (1, .int (nI g))] := hl
                      refine lv_goto (tgt := 31) X.1 X.2.1 d_Mo_elect_96 (by decide) ?_
                      refine lv_iload X.1 X.2.1 d_Mo_elect_31 (lv_at hl 0 rfl) ?_
                      refine lv_iconst (v := nI 3) X.1 X.2.1 d_Mo_elect_33 (by decide) ?_
                      refine gx_icmp_ge X.1 X.2.1 (tgt := 99) d_Mo_elect_34 (by decide) (by omega) (by omega) (fun h34 => ?_) (fun h34 => absurd h34 (by decide))
                      refine fin 0 ?_ _ _ ls hP hS (lv_sub hl [2, 3, 4, 5] rfl)
                      clear fin hP hS hl X S hr hlk hK hN hJ hx hw I
                      unfold ab_best
                      grind
                    · skip
                      refine lv_iload X.1 X.2.1 d_Mo_elect_90 (lv_at hl 1 rfl) ?_
                      refine lv_istore_n X.1 X.2.1 d_Mo_elect_92 rfl hl (by decide) rfl (fun ls hl => ?_)
                      have hl : lv_has ls 6 [(3, .int (nI 2)), (5, .int (nI ((3 * g) + 2))), (4, .int (nI 2)), (2, .int (nI (ab_top a g))), (0, .ref (ad 224)), (1, .int (nI g))] := hl
                      refine lv_iinc (k := 2) (v := nI (3)) X.1 X.2.1 d_Mo_elect_93 hl rfl (by decide) (by decide) rfl (fun ls hl => ?_)
                      have hl : lv_has ls 6 [(4, .int (nI 3)), (3, .int (nI 2)), (5, .int (nI ((3 * g) + 2))), (2, .int (nI (ab_top a g))), (0, .ref (ad 224)), (1, .int (nI g))] := hl
                      refine lv_goto (tgt := 31) X.1 X.2.1 d_Mo_elect_96 (by decide) ?_
                      refine lv_iload X.1 X.2.1 d_Mo_elect_31 (lv_at hl 0 rfl) ?_
                      refine lv_iconst (v := nI 3) X.1 X.2.1 d_Mo_elect_33 (by decide) ?_
                      refine gx_icmp_ge X.1 X.2.1 (tgt := 99) d_Mo_elect_34 (by decide) (by omega) (by omega) (fun h34 => ?_) (fun h34 => absurd h34 (by decide))
                      refine fin 2 ?_ _ _ ls hP hS (lv_sub hl [1, 3, 4, 5] rfl)
                      clear fin hP hS hl X S hr hlk hK hN hJ hx hw I
                      unfold ab_best
                      grind
              · skip
                refine lv_iload X.1 X.2.1 d_Mo_elect_90 (lv_at hl 1 rfl) ?_
                refine lv_istore_n X.1 X.2.1 d_Mo_elect_92 rfl hl (by decide) rfl (fun ls hl => ?_)
                have hl : lv_has ls 6 [(3, .int (nI 1)), (5, .int (nI ((3 * g) + 1))), (4, .int (nI 1)), (2, .int (nI (ab_top a g))), (0, .ref (ad 224)), (1, .int (nI g))] := hl
                refine lv_iinc (k := 2) (v := nI (2)) X.1 X.2.1 d_Mo_elect_93 hl rfl (by decide) (by decide) rfl (fun ls hl => ?_)
                have hl : lv_has ls 6 [(4, .int (nI 2)), (3, .int (nI 1)), (5, .int (nI ((3 * g) + 1))), (2, .int (nI (ab_top a g))), (0, .ref (ad 224)), (1, .int (nI g))] := hl
                refine lv_goto (tgt := 31) X.1 X.2.1 d_Mo_elect_96 (by decide) ?_
                refine lv_iload X.1 X.2.1 d_Mo_elect_31 (lv_at hl 0 rfl) ?_
                refine lv_iconst (v := nI 3) X.1 X.2.1 d_Mo_elect_33 (by decide) ?_
                refine gx_icmp_ge X.1 X.2.1 (tgt := 99) d_Mo_elect_34 (by decide) (by omega) (by omega) (fun h34 => absurd h34 (by decide)) (fun h34 => ?_)
                refine lv_iconst (v := nI 3) X.1 X.2.1 d_Mo_elect_37 (by decide) ?_
                refine lv_iload_n X.1 X.2.1 d_Mo_elect_38 rfl (lv_at hl 5 rfl) ?_
                refine gx_imul X.1 X.2.1 d_Mo_elect_39 ?_
                refine lv_iload X.1 X.2.1 d_Mo_elect_40 (lv_at hl 0 rfl) ?_
                refine gx_iadd X.1 X.2.1 d_Mo_elect_42 ?_
                refine lv_istore X.1 X.2.1 d_Mo_elect_43 hl (by decide) rfl (fun ls hl => ?_)
                have hl : lv_has ls 6 [(5, .int (nI ((3 * g) + 2))), (4, .int (nI 2)), (3, .int (nI 1)), (2, .int (nI (ab_top a g))), (0, .ref (ad 224)), (1, .int (nI g))] := hl
                refine lv_aload_n X.1 X.2.1 d_Mo_elect_45 rfl (lv_at hl 4 rfl) ?_
                refine gg_Mo_26 X hP d_Mo_elect_46 ?_
                refine lv_iload X.1 X.2.1 d_Mo_elect_49 (lv_at hl 0 rfl) ?_
                refine ga_230 (by omega) X hP d_Mo_elect_51 ?_
                rw [p2]
                refine gx_if_ne X.1 X.2.1 (tgt := 93) d_Mo_elect_52 (by decide) (by omega) (fun h52_2 => ?_) (fun h52_2 => ?_)
                · skip
                  have u2 : ab_up a g 2 = false := by have z := xb_one.mp (show xb (!ab_up a g 2) = 1 by omega); simpa using z
                  have gd2 : ab_good a g 2 = false := by unfold ab_good; rw [u2]; rfl
                  refine lv_iinc (k := 1) (v := nI (3)) X.1 X.2.1 d_Mo_elect_93 hl rfl (by decide) (by decide) rfl (fun ls hl => ?_)
                  have hl : lv_has ls 6 [(4, .int (nI 3)), (5, .int (nI ((3 * g) + 2))), (3, .int (nI 1)), (2, .int (nI (ab_top a g))), (0, .ref (ad 224)), (1, .int (nI g))] := hl
                  refine lv_goto (tgt := 31) X.1 X.2.1 d_Mo_elect_96 (by decide) ?_
                  refine lv_iload X.1 X.2.1 d_Mo_elect_31 (lv_at hl 0 rfl) ?_
                  refine lv_iconst (v := nI 3) X.1 X.2.1 d_Mo_elect_33 (by decide) ?_
                  refine gx_icmp_ge X.1 X.2.1 (tgt := 99) d_Mo_elect_34 (by decide) (by omega) (by omega) (fun h34 => ?_) (fun h34 => absurd h34 (by decide))
                  refine fin 1 ?_ _ _ ls hP hS (lv_sub hl [2, 3, 4, 5] rfl)
                  clear fin hP hS hl X S hr hlk hK hN hJ hx hw I
                  unfold ab_best
                  grind
                · skip
                  have u2 : ab_up a g 2 = true := by have z := xb_zero.mp h52_2; simpa using z
                  refine lv_aload_n X.1 X.2.1 d_Mo_elect_55 rfl (lv_at hl 4 rfl) ?_
                  refine gg_Mo_29 X hP d_Mo_elect_56 ?_
                  refine lv_iload X.1 X.2.1 d_Mo_elect_59 (lv_at hl 0 rfl) ?_
                  refine ga_231 (by omega) X hP d_Mo_elect_61 ?_
                  rw [q2]
                  refine lv_iload_n X.1 X.2.1 d_Mo_elect_62 rfl (lv_at hl 3 rfl) ?_
                  refine gx_icmp_ne X.1 X.2.1 (tgt := 93) d_Mo_elect_63 (by decide) (by omega) (by omega) (fun h63_2 => ?_) (fun h63_2 => ?_)
                  · skip
                    have gd2 : ab_good a g 2 = false := by unfold ab_good; simp; intro _; exact h63_2
                    refine lv_iinc (k := 1) (v := nI (3)) X.1 X.2.1 d_Mo_elect_93 hl rfl (by decide) (by decide) rfl (fun ls hl => ?_)
                    have hl : lv_has ls 6 [(4, .int (nI 3)), (5, .int (nI ((3 * g) + 2))), (3, .int (nI 1)), (2, .int (nI (ab_top a g))), (0, .ref (ad 224)), (1, .int (nI g))] := hl
                    refine lv_goto (tgt := 31) X.1 X.2.1 d_Mo_elect_96 (by decide) ?_
                    refine lv_iload X.1 X.2.1 d_Mo_elect_31 (lv_at hl 0 rfl) ?_
                    refine lv_iconst (v := nI 3) X.1 X.2.1 d_Mo_elect_33 (by decide) ?_
                    refine gx_icmp_ge X.1 X.2.1 (tgt := 99) d_Mo_elect_34 (by decide) (by omega) (by omega) (fun h34 => ?_) (fun h34 => absurd h34 (by decide))
                    refine fin 1 ?_ _ _ ls hP hS (lv_sub hl [2, 3, 4, 5] rfl)
                    clear fin hP hS hl X S hr hlk hK hN hJ hx hw I
                    unfold ab_best
                    grind
                  · skip
                    have gd2 : ab_good a g 2 = true := by unfold ab_good; rw [u2, h63_2]; simp
                    refine lv_iload_n X.1 X.2.1 d_Mo_elect_66 rfl (lv_at hl 2 rfl) ?_
                    refine gx_if_lt X.1 X.2.1 (tgt := 90) d_Mo_elect_67 (by decide) (by omega) ?_
                    refine lv_aload_n X.1 X.2.1 d_Mo_elect_70 rfl (lv_at hl 4 rfl) ?_
                    refine gg_Mo_32 X hP d_Mo_elect_71 ?_
                    refine lv_iload X.1 X.2.1 d_Mo_elect_74 (lv_at hl 0 rfl) ?_
                    refine ga_232 (by omega) X hP d_Mo_elect_76 ?_
                    rw [l2]
                    refine lv_aload_n X.1 X.2.1 d_Mo_elect_77 rfl (lv_at hl 4 rfl) ?_
                    refine gg_Mo_32 X hP d_Mo_elect_78 ?_
                    refine lv_iconst (v := nI 3) X.1 X.2.1 d_Mo_elect_81 (by decide) ?_
                    refine lv_iload_n X.1 X.2.1 d_Mo_elect_82 rfl (lv_at hl 5 rfl) ?_
                    refine gx_imul X.1 X.2.1 d_Mo_elect_83 ?_
                    refine lv_iload_n X.1 X.2.1 d_Mo_elect_84 rfl (lv_at hl 2 rfl) ?_
                    refine gx_iadd X.1 X.2.1 d_Mo_elect_85 ?_
                    refine ga_232 (by omega) X hP d_Mo_elect_86 ?_
                    rw [l1]
                    refine gx_icmp_le X.1 X.2.1 (tgt := 93) d_Mo_elect_87 (by decide) (by omega) (by omega) (fun h87_2 => ?_) (fun h87_2 => ?_)
                    · skip
                      refine lv_iinc (k := 1) (v := nI (3)) X.1 X.2.1 d_Mo_elect_93 hl rfl (by decide) (by decide) rfl (fun ls hl => ?_)
                      have hl : lv_has ls 6 [(4, .int (nI 3)), (5, .int (nI ((3 * g) + 2))), (3, .int (nI 1)), (2, .int (nI (ab_top a g))), (0, .ref (ad 224)), (1, .int (nI g))] := hl
                      refine lv_goto (tgt := 31) X.1 X.2.1 d_Mo_elect_96 (by decide) ?_
                      refine lv_iload X.1 X.2.1 d_Mo_elect_31 (lv_at hl 0 rfl) ?_
                      refine lv_iconst (v := nI 3) X.1 X.2.1 d_Mo_elect_33 (by decide) ?_
                      refine gx_icmp_ge X.1 X.2.1 (tgt := 99) d_Mo_elect_34 (by decide) (by omega) (by omega) (fun h34 => ?_) (fun h34 => absurd h34 (by decide))
                      refine fin 1 ?_ _ _ ls hP hS (lv_sub hl [2, 3, 4, 5] rfl)
                      clear fin hP hS hl X S hr hlk hK hN hJ hx hw I
                      unfold ab_best
                      grind
                    · skip
                      refine lv_iload X.1 X.2.1 d_Mo_elect_90 (lv_at hl 1 rfl) ?_
                      refine lv_istore_n X.1 X.2.1 d_Mo_elect_92 rfl hl (by decide) rfl (fun ls hl => ?_)
                      have hl : lv_has ls 6 [(3, .int (nI 2)), (5, .int (nI ((3 * g) + 2))), (4, .int (nI 2)), (2, .int (nI (ab_top a g))), (0, .ref (ad 224)), (1, .int (nI g))] := hl
                      refine lv_iinc (k := 2) (v := nI (3)) X.1 X.2.1 d_Mo_elect_93 hl rfl (by decide) (by decide) rfl (fun ls hl => ?_)
                      have hl : lv_has ls 6 [(4, .int (nI 3)), (3, .int (nI 2)), (5, .int (nI ((3 * g) + 2))), (2, .int (nI (ab_top a g))), (0, .ref (ad 224)), (1, .int (nI g))] := hl
                      refine lv_goto (tgt := 31) X.1 X.2.1 d_Mo_elect_96 (by decide) ?_
                      refine lv_iload X.1 X.2.1 d_Mo_elect_31 (lv_at hl 0 rfl) ?_
                      refine lv_iconst (v := nI 3) X.1 X.2.1 d_Mo_elect_33 (by decide) ?_
                      refine gx_icmp_ge X.1 X.2.1 (tgt := 99) d_Mo_elect_34 (by decide) (by omega) (by omega) (fun h34 => ?_) (fun h34 => absurd h34 (by decide))
                      refine fin 2 ?_ _ _ ls hP hS (lv_sub hl [1, 3, 4, 5] rfl)
                      clear fin hP hS hl X S hr hlk hK hN hJ hx hw I
                      unfold ab_best
                      grind
    · skip
      refine lv_iconst (v := -1) X.1 X.2.1 d_Mo_elect_18 (by decide) ?_
      refine gx_iret X.1 X.2.1 hr hlk hP hS d_Mo_elect_19 ?_
      have e : ab_elect a (nI g).toInt = (-1, a) := by unfold ab_elect; exact if_pos (fun hh => by have := hh.2.2; rw [g3] at this; omega)
      rw [e]
      exact ⟨rfl, hx, fun n _ => rfl⟩
set_option maxRecDepth 100000 in
set_option maxHeartbeats 4000000 in
theorem K_Mo_refusal (l : Launch) (dC : Nat → ClassId) (dI : Nat → Nat → Nat) (cx : Nat → ClassId) (ad : Nat → Nat) (hJ : gx_J gx_N ad (gx_A gx_N ad)) (σ : gx_M) (a : ab_S) (tq sq : Int32) (hw : ab_W a) (hx : mr σ a) : cg_Mi l dC dI cx ad y_Mo_refusal w_Mo_refusal 1 [.ref (ad 224), .int tq, .int sq] σ (fun r σ' => σ' = σ ∧ ((¬ ab_ok a tq.toInt sq.toInt ∧ r = -1) ∨ (ab_ok a tq.toInt sq.toInt ∧ ab_ha a = true ∧ r = -2) ∨ (ab_ok a tq.toInt sq.toInt ∧ ab_ha a = false ∧ r = nI 0))) := by
  refine gx_ofW (cc := c_Mo_refusal) (maxL := 3) (ret := (Option.some Jvm.ClassFile.FieldType.int)) (by decide) rfl (Nat.le_of_ble_eq_true rfl) ?_
  intro p e s m below meth c ls S hr hlk hK hN hl hP
  have X : cg_X c_Mo_refusal "CommitGroupsModel" 3 dC dI cx p m c s _ := ⟨S.1, S.2.1, S.2.2.2.1, fun w h => S.2.2.2.2 w (List.mem_cons_of_mem _ h), hK, hN, S.2.2.1⟩
  have hS : va_S (gx_A gx_N ad) s.heap s.heap [] := va_S.rf
  have hl : lv_has ls 3 [(0, .ref (ad 224)), (1, .int tq), (2, .int sq)] := hl
  have hn : σ 224 0 = ab_n a := hx.1
  have hn20 := hw.1
  have hxb := xb_le (ab_ha a)
  refine lv_iload_n X.1 X.2.1 d_Mo_refusal_0 rfl (lv_at hl 1 rfl) ?_
  refine lv_iconst (v := nI 1) X.1 X.2.1 d_Mo_refusal_1 (by decide) ?_
  refine lv_aload_n X.1 X.2.1 d_Mo_refusal_2 rfl (lv_at hl 0 rfl) ?_
  refine gg_Mo_59 X hP d_Mo_refusal_3 ?_
  rw [hn]
  refine cv_Mo_63 (rest := []) X hJ hP hS (K_Mo_in l dC dI cx ad hJ _ tq 1 (ab_n a) (by omega) (by omega)) rfl rfl (by decide) hl.1 (Nat.le_of_ble_eq_true rfl) ⟨Nat.le_refl _, Nat.le_refl _⟩ d_Mo_refusal_6 (fun r σ' H locs hq hP hS => ?_)
  obtain ⟨hq0, b6, rfl, hb6, hp6⟩ := hq
  rw [hq0] at hP
  refine gx_if_eq X.1 X.2.1 (tgt := 30) d_Mo_refusal_9 (by decide) (by omega) (fun h9 => ?_) (fun h9 => ?_)
  · skip
    refine lv_iconst (v := -1) X.1 X.2.1 d_Mo_refusal_30 (by decide) ?_
    refine gx_iret X.1 X.2.1 hr hlk hP hS d_Mo_refusal_31 ?_
    exact ⟨rfl, Or.inl ⟨fun hh => by have := hp6.mpr ⟨hh.1.1, hh.1.2⟩; omega, rfl⟩⟩
  · skip
    refine lv_iload_n X.1 X.2.1 d_Mo_refusal_12 rfl (lv_at hl 2 rfl) ?_
    refine lv_iconst (v := nI 0) X.1 X.2.1 d_Mo_refusal_13 (by decide) ?_
    refine lv_iconst (v := nI 2) X.1 X.2.1 d_Mo_refusal_14 (by decide) ?_
    refine cv_Mo_63 (rest := []) X hJ hP hS (K_Mo_in l dC dI cx ad hJ _ sq 0 2 (by omega) (by omega)) rfl rfl (by decide) hl.1 (Nat.le_of_ble_eq_true rfl) ⟨Nat.le_refl _, Nat.le_refl _⟩ d_Mo_refusal_15 (fun r σ' H locs hq hP hS => ?_)
    obtain ⟨hq0, b15, rfl, hb15, hp15⟩ := hq
    rw [hq0] at hP
    refine gx_if_eq X.1 X.2.1 (tgt := 30) d_Mo_refusal_18 (by decide) (by omega) (fun h18 => ?_) (fun h18 => ?_)
    · skip
      refine lv_iconst (v := -1) X.1 X.2.1 d_Mo_refusal_30 (by decide) ?_
      refine gx_iret X.1 X.2.1 hr hlk hP hS d_Mo_refusal_31 ?_
      exact ⟨rfl, Or.inl ⟨fun hh => by have := hp15.mpr ⟨hh.2.1, hh.2.2.1⟩; omega, rfl⟩⟩
    · skip
      have hh6 := hp6.mp (by omega)
      have hh15 := hp15.mp (by omega)
      obtain ⟨u, rfl, u1, u2, u3⟩ := gi_of (t := tq) (n := ab_n a) (by omega) (by omega)
      obtain ⟨x, rfl, x1, x2, x3⟩ := gi_of (t := sq) (n := 2) (by omega) (by omega)
      refine lv_aload_n X.1 X.2.1 d_Mo_refusal_21 rfl (lv_at hl 0 rfl) ?_
      refine lv_iload_n X.1 X.2.1 d_Mo_refusal_22 rfl (lv_at hl 1 rfl) ?_
      refine lv_iload_n X.1 X.2.1 d_Mo_refusal_23 rfl (lv_at hl 2 rfl) ?_
      refine cv_Mo_103 (rest := []) X hJ hP hS (by decide) (ec_Mo_0 _) (K_Mo_touches l dC dI cx ad hJ _ a u x hx hw (by omega) (by omega)) rfl rfl (by decide) hl.1 (Nat.le_of_ble_eq_true rfl) ⟨Nat.le_refl _, Nat.le_refl _⟩ d_Mo_refusal_24 (fun r σ' H locs hq hP hS => ?_)
      obtain ⟨hq0, b24, rfl, hb24, hp24⟩ := hq
      rw [hq0] at hP
      refine gx_if_ne X.1 X.2.1 (tgt := 32) d_Mo_refusal_27 (by decide) (by omega) (fun h27 => ?_) (fun h27 => ?_)
      · skip
        have hok : ab_ok a (nI u).toInt (nI x).toInt := ⟨⟨by omega, by omega⟩, by omega, by omega, by rw [u3, x3]; exact hp24.mp (by omega)⟩
        refine lv_aload_n X.1 X.2.1 d_Mo_refusal_32 rfl (lv_at hl 0 rfl) ?_
        refine gg_Mo_106 X hP d_Mo_refusal_33 ?_
        rw [hx.2.2.2.1]
        refine gx_if_eq X.1 X.2.1 (tgt := 44) d_Mo_refusal_36 (by decide) (by omega) (fun h36 => ?_) (fun h36 => ?_)
        · skip
          refine lv_iconst (v := nI 0) X.1 X.2.1 d_Mo_refusal_44 (by decide) ?_
          refine gx_iret X.1 X.2.1 hr hlk hP hS d_Mo_refusal_45 ?_
          exact ⟨rfl, Or.inr (Or.inr ⟨hok, xb_zero.mp h36, rfl⟩)⟩
        · skip
          refine lv_bipush (v := -2) X.1 X.2.1 d_Mo_refusal_39 (by decide) ?_
          refine lv_goto (tgt := 45) X.1 X.2.1 d_Mo_refusal_41 (by decide) ?_
          refine gx_iret X.1 X.2.1 hr hlk hP hS d_Mo_refusal_45 ?_
          exact ⟨rfl, Or.inr (Or.inl ⟨hok, xb_one.mp (by omega), rfl⟩)⟩
      · skip
        refine lv_iconst (v := -1) X.1 X.2.1 d_Mo_refusal_30 (by decide) ?_
        refine gx_iret X.1 X.2.1 hr hlk hP hS d_Mo_refusal_31 ?_
        exact ⟨rfl, Or.inl ⟨fun hh => by have z := hh.2.2.2; rw [u3, x3] at z; have := hp24.mpr z; omega, rfl⟩⟩
set_option maxRecDepth 100000 in
set_option maxHeartbeats 4000000 in
theorem K_Mo_refusalAll (l : Launch) (dC : Nat → ClassId) (dI : Nat → Nat → Nat) (cx : Nat → ClassId) (ad : Nat → Nat) (hJ : gx_J gx_N ad (gx_A gx_N ad)) (σ : gx_M) (a : ab_S) (tq : Int32) (hw : ab_W a) (hx : mr σ a) : cg_Mi l dC dI cx ad y_Mo_refusalAll w_Mo_refusalAll 1 [.ref (ad 224), .int tq] σ (fun r σ' => σ' = σ ∧ ((¬ ab_okd a tq.toInt ∧ r = -1) ∨ (ab_okd a tq.toInt ∧ ab_ha a = true ∧ r = -2) ∨ (ab_okd a tq.toInt ∧ ab_ha a = false ∧ r = nI 0))) := by
  refine gx_ofW (cc := c_Mo_refusalAll) (maxL := 2) (ret := (Option.some Jvm.ClassFile.FieldType.int)) (by decide) rfl (Nat.le_of_ble_eq_true rfl) ?_
  intro p e s m below meth c ls S hr hlk hK hN hl hP
  have X : cg_X c_Mo_refusalAll "CommitGroupsModel" 2 dC dI cx p m c s _ := ⟨S.1, S.2.1, S.2.2.2.1, fun w h => S.2.2.2.2 w (List.mem_cons_of_mem _ h), hK, hN, S.2.2.1⟩
  have hS : va_S (gx_A gx_N ad) s.heap s.heap [] := va_S.rf
  have hl : lv_has ls 2 [(0, .ref (ad 224)), (1, .int tq)] := hl
  have hn : σ 224 0 = ab_n a := hx.1
  have hn20 := hw.1
  have hxb := xb_le (ab_ha a)
  refine lv_iload_n X.1 X.2.1 d_Mo_refusalAll_0 rfl (lv_at hl 1 rfl) ?_
  refine lv_iconst (v := nI 1) X.1 X.2.1 d_Mo_refusalAll_1 (by decide) ?_
  refine lv_aload_n X.1 X.2.1 d_Mo_refusalAll_2 rfl (lv_at hl 0 rfl) ?_
  refine gg_Mo_59 X hP d_Mo_refusalAll_3 ?_
  rw [hn]
  refine cv_Mo_63 (rest := []) X hJ hP hS (K_Mo_in l dC dI cx ad hJ _ tq 1 (ab_n a) (by omega) (by omega)) rfl rfl (by decide) hl.1 (Nat.le_of_ble_eq_true rfl) ⟨Nat.le_refl _, Nat.le_refl _⟩ d_Mo_refusalAll_6 (fun r σ' H locs hq hP hS => ?_)
  obtain ⟨hq0, b6, rfl, hb6, hp6⟩ := hq
  rw [hq0] at hP
  refine gx_if_eq X.1 X.2.1 (tgt := 21) d_Mo_refusalAll_9 (by decide) (by omega) (fun h9 => ?_) (fun h9 => ?_)
  · skip
    refine lv_iconst (v := -1) X.1 X.2.1 d_Mo_refusalAll_21 (by decide) ?_
    refine gx_iret X.1 X.2.1 hr hlk hP hS d_Mo_refusalAll_22 ?_
    exact ⟨rfl, Or.inl ⟨fun hh => by have := hp6.mpr ⟨hh.1.1, hh.1.2⟩; omega, rfl⟩⟩
  · skip
    have hh6 := hp6.mp (by omega)
    obtain ⟨u, rfl, u1, u2, u3⟩ := gi_of (t := tq) (n := ab_n a) (by omega) (by omega)
    have hl4 := (hw.2.1 u).1
    refine lv_aload_n X.1 X.2.1 d_Mo_refusalAll_12 rfl (lv_at hl 0 rfl) ?_
    refine gg_Mo_7 X hP d_Mo_refusalAll_13 ?_
    refine lv_iload_n X.1 X.2.1 d_Mo_refusalAll_16 rfl (lv_at hl 1 rfl) ?_
    refine ga_225 (by omega) X hP d_Mo_refusalAll_17 ?_
    rw [(hx.2.1 u (by omega)).1]
    refine gx_if_ne X.1 X.2.1 (tgt := 23) d_Mo_refusalAll_18 (by decide) (by omega) (fun h18 => ?_) (fun h18 => ?_)
    · skip
      have hok : ab_okd a (nI u).toInt := ⟨⟨by omega, by omega⟩, by rw [u3]; exact h18⟩
      refine lv_aload_n X.1 X.2.1 d_Mo_refusalAll_23 rfl (lv_at hl 0 rfl) ?_
      refine gg_Mo_106 X hP d_Mo_refusalAll_24 ?_
      rw [hx.2.2.2.1]
      refine gx_if_eq X.1 X.2.1 (tgt := 35) d_Mo_refusalAll_27 (by decide) (by omega) (fun h27 => ?_) (fun h27 => ?_)
      · skip
        refine lv_iconst (v := nI 0) X.1 X.2.1 d_Mo_refusalAll_35 (by decide) ?_
        refine gx_iret X.1 X.2.1 hr hlk hP hS d_Mo_refusalAll_36 ?_
        exact ⟨rfl, Or.inr (Or.inr ⟨hok, xb_zero.mp h27, rfl⟩)⟩
      · skip
        refine lv_bipush (v := -2) X.1 X.2.1 d_Mo_refusalAll_30 (by decide) ?_
        refine lv_goto (tgt := 36) X.1 X.2.1 d_Mo_refusalAll_32 (by decide) ?_
        refine gx_iret X.1 X.2.1 hr hlk hP hS d_Mo_refusalAll_36 ?_
        exact ⟨rfl, Or.inr (Or.inl ⟨hok, xb_one.mp (by omega), rfl⟩)⟩
    · skip
      refine lv_iconst (v := -1) X.1 X.2.1 d_Mo_refusalAll_21 (by decide) ?_
      refine gx_iret X.1 X.2.1 hr hlk hP hS d_Mo_refusalAll_22 ?_
      exact ⟨rfl, Or.inl ⟨fun hh => hh.2 (by rw [u3]; exact h18), rfl⟩⟩
set_option maxRecDepth 100000 in
set_option maxHeartbeats 4000000 in
theorem K_Mo_halt (l : Launch) (dC : Nat → ClassId) (dI : Nat → Nat → Nat) (cx : Nat → ClassId) (ad : Nat → Nat) (hJ : gx_J gx_N ad (gx_A gx_N ad)) (σ : gx_M) (a : ab_S) (hx : mr σ a) : cg_Mi l dC dI cx ad y_Mo_halt w_Mo_halt 0 [.ref (ad 224)] σ (fun r σ' => r = nI (xb (ab_halt a).1) ∧ mr σ' (ab_halt a).2 ∧ ∀ n, n < 224 → σ' n = σ n) := by
  refine gx_ofW (cc := c_Mo_halt) (maxL := 2) (ret := (Option.some Jvm.ClassFile.FieldType.boolean)) (by decide) rfl (Nat.le_of_ble_eq_true rfl) ?_
  intro p e s m below meth c ls S hr hlk hK hN hl hP
  have X : cg_X c_Mo_halt "CommitGroupsModel" 2 dC dI cx p m c s _ := ⟨S.1, S.2.1, S.2.2.2.1, fun w h => S.2.2.2.2 w (List.mem_cons_of_mem _ h), hK, hN, S.2.2.1⟩
  have hS : va_S (gx_A gx_N ad) s.heap s.heap [] := va_S.rf
  have hl : lv_has ls 2 [(0, .ref (ad 224))] := hl
  have hxb := xb_le (ab_ha a)
  have lp2 : ∀ (k : Nat) (i : Nat) (τ : gx_M), i + k = 21 → ab_ha a = false → (∀ n, n ≠ 235 → n ≠ 236 → τ n = gx_w σ 224 11 1 n) → (∀ j, j < 63 → τ 235 j = 0) → (∀ j, j < i → τ 236 j = 0) → ∀ (H : Heap) (locs : List Loc) (ls : Array Slot), cg_P dC dI cx ad τ H → va_S (gx_A gx_N ad) s.heap H locs → lv_has ls 2 [(1, .int (nI i)), (0, .ref (ad 224))] → W p l e (rmL 0) s m ([.ref (ad 224)] : List Value).toArray below meth c H locs 0 0 (cg_Qi dC dI cx ad (fun r σ' => r = nI (xb (ab_halt a).1) ∧ mr σ' (ab_halt a).2 ∧ ∀ n, n < 224 → σ' n = σ n) below [.ref (ad 224)] s) (F0 m 37 ls []) := by
    intro k
    induction k with
    | zero =>
      intro i τ hik hha f1 f2 f3 H locs ls hP hS hl
      refine lv_iload_n X.1 X.2.1 d_Mo_halt_37 rfl (lv_at hl 0 rfl) ?_
      refine lv_bipush (v := nI 20) X.1 X.2.1 d_Mo_halt_38 (by decide) ?_
      refine gx_icmp_gt X.1 X.2.1 (tgt := 56) d_Mo_halt_40 (by decide) (by omega) (by omega) (fun h40 => ?_) (fun h40 => absurd h40 (by omega))
      refine lv_iconst (v := nI 1) X.1 X.2.1 d_Mo_halt_56 (by decide) ?_
      refine gx_zret X.1 X.2.1 hr hlk hP hS d_Mo_halt_57 (by decide) ?_
      have e : ab_halt a = (true, ab_forget a) := by unfold ab_halt; rw [if_neg (by rw [hha]; decide)]
      rw [e]
      exact ⟨rfl, mr_forget hx f1 f2 (fun j hj => f3 j (by omega)), fun n hn => by rw [f1 n (by omega) (by omega), gx_w_row _ _ _ (by omega)]⟩
    | succ k ih =>
      intro i τ hik hha f1 f2 f3 H locs ls hP hS hl
      refine lv_iload_n X.1 X.2.1 d_Mo_halt_37 rfl (lv_at hl 0 rfl) ?_
      refine lv_bipush (v := nI 20) X.1 X.2.1 d_Mo_halt_38 (by decide) ?_
      refine gx_icmp_gt X.1 X.2.1 (tgt := 56) d_Mo_halt_40 (by decide) (by omega) (by omega) (fun h40 => absurd h40 (by omega)) (fun h40 => ?_)
      refine lv_aload_n X.1 X.2.1 d_Mo_halt_43 rfl (lv_at hl 1 rfl) ?_
      refine gg_Mo_44 X hP d_Mo_halt_44 ?_
      refine lv_iload_n X.1 X.2.1 d_Mo_halt_47 rfl (lv_at hl 0 rfl) ?_
      refine lv_iconst (v := nI 0) X.1 X.2.1 d_Mo_halt_48 (by decide) ?_
      refine gs_236 (by omega) X hJ hP hS d_Mo_halt_49 (fun H locs hP hS => ?_)
      refine lv_iinc (k := 0) (v := nI (i + 1)) X.1 X.2.1 d_Mo_halt_50 hl rfl (nI_add _ _) (by decide) rfl (fun ls hl => ?_)
      have hl : lv_has ls 2 [(1, .int (nI (i + 1))), (0, .ref (ad 224))] := hl
      refine lv_goto (tgt := 37) X.1 X.2.1 d_Mo_halt_53 (by decide) ?_
      refine ih (i + 1) _ (by omega) hha ?_ ?_ ?_ H locs ls hP hS (lv_sub hl [0, 1] rfl)
      · intro n n1 n2; rw [gx_w_row _ _ _ n2]; exact f1 n n1 n2
      · intro j hj; rw [gx_w_row _ _ _ (by decide)]; exact f2 j hj
      · intro j hj
        by_cases q : j = i
        · rw [q, gx_w_self]
        · rw [gx_w_col _ _ _ q]; exact f3 j (by omega)
  have lp1 : ∀ (k : Nat) (i : Nat) (τ : gx_M), i + k = 63 → ab_ha a = false → (∀ n, n ≠ 235 → n ≠ 236 → τ n = gx_w σ 224 11 1 n) → (∀ j, j < i → τ 235 j = 0) → ∀ (H : Heap) (locs : List Loc) (ls : Array Slot), cg_P dC dI cx ad τ H → va_S (gx_A gx_N ad) s.heap H locs → lv_has ls 2 [(1, .int (nI i)), (0, .ref (ad 224))] → W p l e (rmL 0) s m ([.ref (ad 224)] : List Value).toArray below meth c H locs 0 0 (cg_Qi dC dI cx ad (fun r σ' => r = nI (xb (ab_halt a).1) ∧ mr σ' (ab_halt a).2 ∧ ∀ n, n < 224 → σ' n = σ n) below [.ref (ad 224)] s) (F0 m 16 ls []) := by
    intro k
    induction k with
    | zero =>
      intro i τ hik hha f1 f2 H locs ls hP hS hl
      refine lv_iload_n X.1 X.2.1 d_Mo_halt_16 rfl (lv_at hl 0 rfl) ?_
      refine lv_bipush (v := nI 63) X.1 X.2.1 d_Mo_halt_17 (by decide) ?_
      refine gx_icmp_ge X.1 X.2.1 (tgt := 35) d_Mo_halt_19 (by decide) (by omega) (by omega) (fun h19 => ?_) (fun h19 => absurd h19 (by omega))
      refine lv_iconst (v := nI 0) X.1 X.2.1 d_Mo_halt_35 (by decide) ?_
      refine lv_istore_n X.1 X.2.1 d_Mo_halt_36 rfl hl (by decide) rfl (fun ls hl => ?_)
      have hl : lv_has ls 2 [(1, .int (nI 0)), (0, .ref (ad 224))] := hl
      exact lp2 21 0 _ rfl hha f1 (fun j hj => f2 j (by omega)) (fun j hj => absurd hj (Nat.not_lt_zero _)) H locs ls hP hS (lv_sub hl [0, 1] rfl)
    | succ k ih =>
      intro i τ hik hha f1 f2 H locs ls hP hS hl
      refine lv_iload_n X.1 X.2.1 d_Mo_halt_16 rfl (lv_at hl 0 rfl) ?_
      refine lv_bipush (v := nI 63) X.1 X.2.1 d_Mo_halt_17 (by decide) ?_
      refine gx_icmp_ge X.1 X.2.1 (tgt := 35) d_Mo_halt_19 (by decide) (by omega) (by omega) (fun h19 => absurd h19 (by omega)) (fun h19 => ?_)
      refine lv_aload_n X.1 X.2.1 d_Mo_halt_22 rfl (lv_at hl 1 rfl) ?_
      refine gg_Mo_41 X hP d_Mo_halt_23 ?_
      refine lv_iload_n X.1 X.2.1 d_Mo_halt_26 rfl (lv_at hl 0 rfl) ?_
      refine lv_iconst (v := nI 0) X.1 X.2.1 d_Mo_halt_27 (by decide) ?_
      refine gs_235 (by omega) X hJ hP hS d_Mo_halt_28 (fun H locs hP hS => ?_)
      refine lv_iinc (k := 0) (v := nI (i + 1)) X.1 X.2.1 d_Mo_halt_29 hl rfl (nI_add _ _) (by decide) rfl (fun ls hl => ?_)
      have hl : lv_has ls 2 [(1, .int (nI (i + 1))), (0, .ref (ad 224))] := hl
      refine lv_goto (tgt := 16) X.1 X.2.1 d_Mo_halt_32 (by decide) ?_
      refine ih (i + 1) _ (by omega) hha ?_ ?_ H locs ls hP hS (lv_sub hl [0, 1] rfl)
      · intro n n1 n2; rw [gx_w_row _ _ _ n1]; exact f1 n n1 n2
      · intro j hj
        by_cases q : j = i
        · rw [q, gx_w_self]
        · rw [gx_w_col _ _ _ q]; exact f2 j (by omega)
  refine lv_aload_n X.1 X.2.1 d_Mo_halt_0 rfl (lv_at hl 0 rfl) ?_
  refine gg_Mo_106 X hP d_Mo_halt_1 ?_
  rw [hx.2.2.2.1]
  refine gx_if_eq X.1 X.2.1 (tgt := 9) d_Mo_halt_4 (by decide) (by omega) (fun h4 => ?_) (fun h4 => ?_)
  · skip
    refine lv_aload_n X.1 X.2.1 d_Mo_halt_9 rfl (lv_at hl 0 rfl) ?_
    refine lv_iconst (v := nI 1) X.1 X.2.1 d_Mo_halt_10 (by decide) ?_
    refine gp_Mo_106 (by omega) X hJ hP hS d_Mo_halt_11 (fun H locs hP hS => ?_)
    refine lv_iconst (v := nI 0) X.1 X.2.1 d_Mo_halt_14 (by decide) ?_
    refine lv_istore_n X.1 X.2.1 d_Mo_halt_15 rfl hl (by decide) rfl (fun ls hl => ?_)
    have hl : lv_has ls 2 [(1, .int (nI 0)), (0, .ref (ad 224))] := hl
    exact lp1 63 0 _ rfl (xb_zero.mp h4) (fun n _ _ => rfl) (fun j hj => absurd hj (Nat.not_lt_zero _)) _ _ ls hP hS (lv_sub hl [0, 1] rfl)
  · skip
    refine lv_iconst (v := nI 0) X.1 X.2.1 d_Mo_halt_7 (by decide) ?_
    refine gx_zret X.1 X.2.1 hr hlk hP hS d_Mo_halt_8 (by decide) ?_
    have e : ab_halt a = (false, a) := by unfold ab_halt; rw [if_pos (xb_one.mp (by omega))]
    rw [e]
    exact ⟨rfl, hx, fun n _ => rfl⟩
set_option maxRecDepth 100000 in
set_option maxHeartbeats 4000000 in
theorem K_Mo_resume (l : Launch) (dC : Nat → ClassId) (dI : Nat → Nat → Nat) (cx : Nat → ClassId) (ad : Nat → Nat) (hJ : gx_J gx_N ad (gx_A gx_N ad)) (σ : gx_M) (a : ab_S) (hx : mr σ a) : cg_Mi l dC dI cx ad y_Mo_resume w_Mo_resume 0 [.ref (ad 224)] σ (fun r σ' => r = nI (xb (ab_resume a).1) ∧ mr σ' (ab_resume a).2 ∧ ∀ n, n < 224 → σ' n = σ n) := by
  refine gx_ofW (cc := c_Mo_resume) (maxL := 2) (ret := (Option.some Jvm.ClassFile.FieldType.boolean)) (by decide) rfl (Nat.le_of_ble_eq_true rfl) ?_
  intro p e s m below meth c ls S hr hlk hK hN hl hP
  have X : cg_X c_Mo_resume "CommitGroupsModel" 2 dC dI cx p m c s _ := ⟨S.1, S.2.1, S.2.2.2.1, fun w h => S.2.2.2.2 w (List.mem_cons_of_mem _ h), hK, hN, S.2.2.1⟩
  have hS : va_S (gx_A gx_N ad) s.heap s.heap [] := va_S.rf
  have hl : lv_has ls 2 [(0, .ref (ad 224))] := hl
  have hxb := xb_le (ab_ha a)
  refine lv_aload_n X.1 X.2.1 d_Mo_resume_0 rfl (lv_at hl 0 rfl) ?_
  refine gg_Mo_106 X hP d_Mo_resume_1 ?_
  rw [hx.2.2.2.1]
  refine lv_istore_n X.1 X.2.1 d_Mo_resume_4 rfl hl (by decide) rfl (fun ls hl => ?_)
  have hl : lv_has ls 2 [(1, .int (nI (xb (ab_ha a)))), (0, .ref (ad 224))] := hl
  refine lv_aload_n X.1 X.2.1 d_Mo_resume_5 rfl (lv_at hl 1 rfl) ?_
  refine lv_iconst (v := nI 0) X.1 X.2.1 d_Mo_resume_6 (by decide) ?_
  refine gp_Mo_106 (by omega) X hJ hP hS d_Mo_resume_7 (fun H locs hP hS => ?_)
  refine lv_iload_n X.1 X.2.1 d_Mo_resume_10 rfl (lv_at hl 0 rfl) ?_
  refine gx_zret X.1 X.2.1 hr hlk hP hS d_Mo_resume_11 (by rcases (show xb (ab_ha a) = 0 ∨ xb (ab_ha a) = 1 by omega) with z | z <;> rw [z] <;> decide) ?_
  have hm := mr_setha hx false
  by_cases q : ab_ha a = true
  · have e : ab_resume a = (true, ab_setha a false) := by unfold ab_resume; rw [if_pos q]
    rw [e, q]
    exact ⟨rfl, hm, fun n hn => gx_w_row _ _ _ (by omega)⟩
  · have q2 : ab_ha a = false := by simpa using q
    have e : ab_resume a = (false, a) := by unfold ab_resume; rw [if_neg q]
    have e2 : ab_setha a false = a := by unfold ab_setha; rw [← q2]; rfl
    rw [e, q2]
    rw [e2] at hm
    exact ⟨rfl, hm, fun n hn => gx_w_row _ _ _ (by omega)⟩
set_option maxRecDepth 100000 in
set_option maxHeartbeats 4000000 in
theorem K_Mo_vote (l : Launch) (dC : Nat → ClassId) (dI : Nat → Nat → Nat) (cx : Nat → ClassId) (ad : Nat → Nat) (hJ : gx_J gx_N ad (gx_A gx_N ad)) (σ : gx_M) (a : ab_S) (tq sq : Int32) (hw : ab_W a) (hx : mr σ a) : cg_Mi l dC dI cx ad y_Mo_vote w_Mo_vote 1 [.ref (ad 224), .int tq, .int sq] σ (fun r σ' => σ' = σ ∧ r = nI (ab_vote a tq.toInt sq.toInt)) := by
  refine gx_ofW (cc := c_Mo_vote) (maxL := 3) (ret := (Option.some Jvm.ClassFile.FieldType.int)) (by decide) rfl (Nat.le_of_ble_eq_true rfl) ?_
  intro p e s m below meth c ls S hr hlk hK hN hl hP
  have X : cg_X c_Mo_vote "CommitGroupsModel" 3 dC dI cx p m c s _ := ⟨S.1, S.2.1, S.2.2.2.1, fun w h => S.2.2.2.2 w (List.mem_cons_of_mem _ h), hK, hN, S.2.2.1⟩
  have hS : va_S (gx_A gx_N ad) s.heap s.heap [] := va_S.rf
  have hl : lv_has ls 3 [(0, .ref (ad 224)), (1, .int tq), (2, .int sq)] := hl
  have hn : σ 224 0 = ab_n a := hx.1
  have hn20 := hw.1
  have hxb := xb_le (ab_ha a)
  refine lv_iload_n X.1 X.2.1 d_Mo_vote_0 rfl (lv_at hl 1 rfl) ?_
  refine lv_iconst (v := nI 1) X.1 X.2.1 d_Mo_vote_1 (by decide) ?_
  refine lv_aload_n X.1 X.2.1 d_Mo_vote_2 rfl (lv_at hl 0 rfl) ?_
  refine gg_Mo_59 X hP d_Mo_vote_3 ?_
  rw [hn]
  refine cv_Mo_63 (rest := []) X hJ hP hS (K_Mo_in l dC dI cx ad hJ _ tq 1 (ab_n a) (by omega) (by omega)) rfl rfl (by decide) hl.1 (Nat.le_of_ble_eq_true rfl) ⟨Nat.le_refl _, Nat.le_refl _⟩ d_Mo_vote_6 (fun r σ' H locs hq hP hS => ?_)
  obtain ⟨hq0, b6, rfl, hb6, hp6⟩ := hq
  rw [hq0] at hP
  refine gx_if_eq X.1 X.2.1 (tgt := 34) d_Mo_vote_9 (by decide) (by omega) (fun h9 => ?_) (fun h9 => ?_)
  · skip
    refine lv_iconst (v := nI 0) X.1 X.2.1 d_Mo_vote_34 (by decide) ?_
    refine gx_iret X.1 X.2.1 hr hlk hP hS d_Mo_vote_35 ?_
    refine ⟨rfl, ?_⟩
    unfold ab_vote
    rw [if_neg (fun hh => by have := hp6.mpr ⟨hh.1.1, hh.1.2⟩; omega)]
  · skip
    refine lv_iload_n X.1 X.2.1 d_Mo_vote_12 rfl (lv_at hl 2 rfl) ?_
    refine lv_iconst (v := nI 0) X.1 X.2.1 d_Mo_vote_13 (by decide) ?_
    refine lv_iconst (v := nI 2) X.1 X.2.1 d_Mo_vote_14 (by decide) ?_
    refine cv_Mo_63 (rest := []) X hJ hP hS (K_Mo_in l dC dI cx ad hJ _ sq 0 2 (by omega) (by omega)) rfl rfl (by decide) hl.1 (Nat.le_of_ble_eq_true rfl) ⟨Nat.le_refl _, Nat.le_refl _⟩ d_Mo_vote_15 (fun r σ' H locs hq hP hS => ?_)
    obtain ⟨hq0, b15, rfl, hb15, hp15⟩ := hq
    rw [hq0] at hP
    refine gx_if_eq X.1 X.2.1 (tgt := 34) d_Mo_vote_18 (by decide) (by omega) (fun h18 => ?_) (fun h18 => ?_)
    · skip
      refine lv_iconst (v := nI 0) X.1 X.2.1 d_Mo_vote_34 (by decide) ?_
      refine gx_iret X.1 X.2.1 hr hlk hP hS d_Mo_vote_35 ?_
      refine ⟨rfl, ?_⟩
      unfold ab_vote
      rw [if_neg (fun hh => by have := hp15.mpr ⟨hh.2.1, hh.2.2⟩; omega)]
    · skip
      have hh6 := hp6.mp (by omega)
      have hh15 := hp15.mp (by omega)
      obtain ⟨u, rfl, u1, u2, u3⟩ := gi_of (t := tq) (n := ab_n a) (by omega) (by omega)
      obtain ⟨x, rfl, x1, x2, x3⟩ := gi_of (t := sq) (n := 2) (by omega) (by omega)
      refine lv_aload_n X.1 X.2.1 d_Mo_vote_21 rfl (lv_at hl 0 rfl) ?_
      refine gg_Mo_41 X hP d_Mo_vote_22 ?_
      refine lv_iconst (v := nI 3) X.1 X.2.1 d_Mo_vote_25 (by decide) ?_
      refine lv_iload_n X.1 X.2.1 d_Mo_vote_26 rfl (lv_at hl 1 rfl) ?_
      refine gx_imul X.1 X.2.1 d_Mo_vote_27 ?_
      refine lv_iload_n X.1 X.2.1 d_Mo_vote_28 rfl (lv_at hl 2 rfl) ?_
      refine gx_iadd X.1 X.2.1 d_Mo_vote_29 ?_
      refine ga_235 (by omega) X hP d_Mo_vote_30 ?_
      rw [hx.2.2.2.2.1 u x (by omega) (by omega)]
      refine lv_goto (tgt := 35) X.1 X.2.1 d_Mo_vote_31 (by decide) ?_
      refine gx_iret X.1 X.2.1 hr hlk hP hS d_Mo_vote_35 ?_
      refine ⟨rfl, ?_⟩
      unfold ab_vote
      rw [if_pos ⟨⟨by omega, by omega⟩, by omega, by omega⟩, u3, x3]
set_option maxRecDepth 100000 in
set_option maxHeartbeats 4000000 in
theorem K_Mo_outcome (l : Launch) (dC : Nat → ClassId) (dI : Nat → Nat → Nat) (cx : Nat → ClassId) (ad : Nat → Nat) (hJ : gx_J gx_N ad (gx_A gx_N ad)) (σ : gx_M) (a : ab_S) (tq : Int32) (hw : ab_W a) (hx : mr σ a) : cg_Mi l dC dI cx ad y_Mo_outcome w_Mo_outcome 1 [.ref (ad 224), .int tq] σ (fun r σ' => σ' = σ ∧ r = nI (ab_outcome a tq.toInt)) := by
  refine gx_ofW (cc := c_Mo_outcome) (maxL := 2) (ret := (Option.some Jvm.ClassFile.FieldType.int)) (by decide) rfl (Nat.le_of_ble_eq_true rfl) ?_
  intro p e s m below meth c ls S hr hlk hK hN hl hP
  have X : cg_X c_Mo_outcome "CommitGroupsModel" 2 dC dI cx p m c s _ := ⟨S.1, S.2.1, S.2.2.2.1, fun w h => S.2.2.2.2 w (List.mem_cons_of_mem _ h), hK, hN, S.2.2.1⟩
  have hS : va_S (gx_A gx_N ad) s.heap s.heap [] := va_S.rf
  have hl : lv_has ls 2 [(0, .ref (ad 224)), (1, .int tq)] := hl
  have hn : σ 224 0 = ab_n a := hx.1
  have hn20 := hw.1
  have hxb := xb_le (ab_ha a)
  refine lv_iload_n X.1 X.2.1 d_Mo_outcome_0 rfl (lv_at hl 1 rfl) ?_
  refine lv_iconst (v := nI 1) X.1 X.2.1 d_Mo_outcome_1 (by decide) ?_
  refine lv_aload_n X.1 X.2.1 d_Mo_outcome_2 rfl (lv_at hl 0 rfl) ?_
  refine gg_Mo_59 X hP d_Mo_outcome_3 ?_
  rw [hn]
  refine cv_Mo_63 (rest := []) X hJ hP hS (K_Mo_in l dC dI cx ad hJ _ tq 1 (ab_n a) (by omega) (by omega)) rfl rfl (by decide) hl.1 (Nat.le_of_ble_eq_true rfl) ⟨Nat.le_refl _, Nat.le_refl _⟩ d_Mo_outcome_6 (fun r σ' H locs hq hP hS => ?_)
  obtain ⟨hq0, b6, rfl, hb6, hp6⟩ := hq
  rw [hq0] at hP
  refine gx_if_eq X.1 X.2.1 (tgt := 21) d_Mo_outcome_9 (by decide) (by omega) (fun h9 => ?_) (fun h9 => ?_)
  · skip
    refine lv_iconst (v := nI 0) X.1 X.2.1 d_Mo_outcome_21 (by decide) ?_
    refine gx_iret X.1 X.2.1 hr hlk hP hS d_Mo_outcome_22 ?_
    refine ⟨rfl, ?_⟩
    unfold ab_outcome
    rw [if_neg (fun hh => by have := hp6.mpr ⟨hh.1, hh.2⟩; omega)]
  · skip
    have hh6 := hp6.mp (by omega)
    obtain ⟨u, rfl, u1, u2, u3⟩ := gi_of (t := tq) (n := ab_n a) (by omega) (by omega)
    refine lv_aload_n X.1 X.2.1 d_Mo_outcome_12 rfl (lv_at hl 0 rfl) ?_
    refine gg_Mo_44 X hP d_Mo_outcome_13 ?_
    refine lv_iload_n X.1 X.2.1 d_Mo_outcome_16 rfl (lv_at hl 1 rfl) ?_
    refine ga_236 (by omega) X hP d_Mo_outcome_17 ?_
    rw [hx.2.2.2.2.2 u (by omega)]
    refine lv_goto (tgt := 22) X.1 X.2.1 d_Mo_outcome_18 (by decide) ?_
    refine gx_iret X.1 X.2.1 hr hlk hP hS d_Mo_outcome_22 ?_
    refine ⟨rfl, ?_⟩
    unfold ab_outcome
    rw [if_pos ⟨by omega, by omega⟩, u3]
set_option maxRecDepth 100000 in
set_option maxHeartbeats 4000000 in
theorem K_Mo_view (l : Launch) (dC : Nat → ClassId) (dI : Nat → Nat → Nat) (cx : Nat → ClassId) (ad : Nat → Nat) (hJ : gx_J gx_N ad (gx_A gx_N ad)) (σ : gx_M) (a : ab_S) (gq rq : Int32) (hx : mr σ a) : cg_Mi l dC dI cx ad y_Mo_view w_Mo_view 1 [.ref (ad 224), .int gq, .int rq] σ (fun r σ' => σ' = σ ∧ r = Int32.ofInt (ab_at (ab_vi a) gq.toInt rq.toInt)) := by
  refine gx_ofW (cc := c_Mo_view) (maxL := 3) (ret := (Option.some Jvm.ClassFile.FieldType.int)) (by decide) rfl (Nat.le_of_ble_eq_true rfl) ?_
  intro p e s m below meth c ls S hr hlk hK hN hl hP
  have X : cg_X c_Mo_view "CommitGroupsModel" 3 dC dI cx p m c s _ := ⟨S.1, S.2.1, S.2.2.2.1, fun w h => S.2.2.2.2 w (List.mem_cons_of_mem _ h), hK, hN, S.2.2.1⟩
  have hS : va_S (gx_A gx_N ad) s.heap s.heap [] := va_S.rf
  have hl : lv_has ls 3 [(0, .ref (ad 224)), (1, .int gq), (2, .int rq)] := hl
  refine lv_iload_n X.1 X.2.1 d_Mo_view_0 rfl (lv_at hl 1 rfl) ?_
  refine lv_iconst (v := nI 0) X.1 X.2.1 d_Mo_view_1 (by decide) ?_
  refine lv_iconst (v := nI 3) X.1 X.2.1 d_Mo_view_2 (by decide) ?_
  refine cv_Mo_63 (rest := []) X hJ hP hS (K_Mo_in l dC dI cx ad hJ _ gq 0 3 (by omega) (by omega)) rfl rfl (by decide) hl.1 (Nat.le_of_ble_eq_true rfl) ⟨Nat.le_refl _, Nat.le_refl _⟩ d_Mo_view_3 (fun r σ' H locs hq hP hS => ?_)
  obtain ⟨hq0, b3, rfl, hb3, hp3⟩ := hq
  rw [hq0] at hP
  refine gx_if_eq X.1 X.2.1 (tgt := 31) d_Mo_view_6 (by decide) (by omega) (fun h6 => ?_) (fun h6 => ?_)
  · skip
    refine lv_iconst (v := -1) X.1 X.2.1 d_Mo_view_31 (by decide) ?_
    refine gx_iret X.1 X.2.1 hr hlk hP hS d_Mo_view_32 ?_
    refine ⟨rfl, ?_⟩
    unfold ab_at
    rw [if_neg (fun hh => by have := hp3.mpr ⟨hh.1, hh.2.1⟩; omega)]
    rfl
  · skip
    refine lv_iload_n X.1 X.2.1 d_Mo_view_9 rfl (lv_at hl 2 rfl) ?_
    refine lv_iconst (v := nI 0) X.1 X.2.1 d_Mo_view_10 (by decide) ?_
    refine lv_iconst (v := nI 2) X.1 X.2.1 d_Mo_view_11 (by decide) ?_
    refine cv_Mo_63 (rest := []) X hJ hP hS (K_Mo_in l dC dI cx ad hJ _ rq 0 2 (by omega) (by omega)) rfl rfl (by decide) hl.1 (Nat.le_of_ble_eq_true rfl) ⟨Nat.le_refl _, Nat.le_refl _⟩ d_Mo_view_12 (fun r σ' H locs hq hP hS => ?_)
    obtain ⟨hq0, b12, rfl, hb12, hp12⟩ := hq
    rw [hq0] at hP
    refine gx_if_eq X.1 X.2.1 (tgt := 31) d_Mo_view_15 (by decide) (by omega) (fun h15 => ?_) (fun h15 => ?_)
    · skip
      refine lv_iconst (v := -1) X.1 X.2.1 d_Mo_view_31 (by decide) ?_
      refine gx_iret X.1 X.2.1 hr hlk hP hS d_Mo_view_32 ?_
      refine ⟨rfl, ?_⟩
      unfold ab_at
      rw [if_neg (fun hh => by have := hp12.mpr ⟨hh.2.2.1, hh.2.2.2⟩; omega)]
      rfl
    · skip
      have hh3 := hp3.mp (by omega)
      have hh12 := hp12.mp (by omega)
      obtain ⟨g, rfl, g1, g2, g3⟩ := gi_of (t := gq) (n := 3) (by omega) (by omega)
      obtain ⟨r', rfl, r1, r2, r3⟩ := gi_of (t := rq) (n := 2) (by omega) (by omega)
      obtain ⟨p0, q0, l0, d0, -⟩ := hx.2.2.1 g r' (by omega) (by omega)
      refine lv_aload_n X.1 X.2.1 d_Mo_view_18 rfl (lv_at hl 0 rfl) ?_
      refine gg_Mo_29 X hP d_Mo_view_19 ?_
      refine lv_iconst (v := nI 3) X.1 X.2.1 d_Mo_view_22 (by decide) ?_
      refine lv_iload_n X.1 X.2.1 d_Mo_view_23 rfl (lv_at hl 1 rfl) ?_
      refine gx_imul X.1 X.2.1 d_Mo_view_24 ?_
      refine lv_iload_n X.1 X.2.1 d_Mo_view_25 rfl (lv_at hl 2 rfl) ?_
      refine gx_iadd X.1 X.2.1 d_Mo_view_26 ?_
      refine ga_231 (by omega) X hP d_Mo_view_27 ?_
      rw [q0]
      refine lv_goto (tgt := 32) X.1 X.2.1 d_Mo_view_28 (by decide) ?_
      refine gx_iret X.1 X.2.1 hr hlk hP hS d_Mo_view_32 ?_
      refine ⟨rfl, ?_⟩
      unfold ab_at
      rw [if_pos ⟨by omega, by omega, by omega, by omega⟩, g3, r3]
      rfl
set_option maxRecDepth 100000 in
set_option maxHeartbeats 4000000 in
theorem K_Mo_length (l : Launch) (dC : Nat → ClassId) (dI : Nat → Nat → Nat) (cx : Nat → ClassId) (ad : Nat → Nat) (hJ : gx_J gx_N ad (gx_A gx_N ad)) (σ : gx_M) (a : ab_S) (gq rq : Int32) (hx : mr σ a) : cg_Mi l dC dI cx ad y_Mo_length w_Mo_length 1 [.ref (ad 224), .int gq, .int rq] σ (fun r σ' => σ' = σ ∧ r = Int32.ofInt (ab_at (fun g r => (ab_lg a g r).length) gq.toInt rq.toInt)) := by
  refine gx_ofW (cc := c_Mo_length) (maxL := 3) (ret := (Option.some Jvm.ClassFile.FieldType.int)) (by decide) rfl (Nat.le_of_ble_eq_true rfl) ?_
  intro p e s m below meth c ls S hr hlk hK hN hl hP
  have X : cg_X c_Mo_length "CommitGroupsModel" 3 dC dI cx p m c s _ := ⟨S.1, S.2.1, S.2.2.2.1, fun w h => S.2.2.2.2 w (List.mem_cons_of_mem _ h), hK, hN, S.2.2.1⟩
  have hS : va_S (gx_A gx_N ad) s.heap s.heap [] := va_S.rf
  have hl : lv_has ls 3 [(0, .ref (ad 224)), (1, .int gq), (2, .int rq)] := hl
  refine lv_iload_n X.1 X.2.1 d_Mo_length_0 rfl (lv_at hl 1 rfl) ?_
  refine lv_iconst (v := nI 0) X.1 X.2.1 d_Mo_length_1 (by decide) ?_
  refine lv_iconst (v := nI 3) X.1 X.2.1 d_Mo_length_2 (by decide) ?_
  refine cv_Mo_63 (rest := []) X hJ hP hS (K_Mo_in l dC dI cx ad hJ _ gq 0 3 (by omega) (by omega)) rfl rfl (by decide) hl.1 (Nat.le_of_ble_eq_true rfl) ⟨Nat.le_refl _, Nat.le_refl _⟩ d_Mo_length_3 (fun r σ' H locs hq hP hS => ?_)
  obtain ⟨hq0, b3, rfl, hb3, hp3⟩ := hq
  rw [hq0] at hP
  refine gx_if_eq X.1 X.2.1 (tgt := 31) d_Mo_length_6 (by decide) (by omega) (fun h6 => ?_) (fun h6 => ?_)
  · skip
    refine lv_iconst (v := -1) X.1 X.2.1 d_Mo_length_31 (by decide) ?_
    refine gx_iret X.1 X.2.1 hr hlk hP hS d_Mo_length_32 ?_
    refine ⟨rfl, ?_⟩
    unfold ab_at
    rw [if_neg (fun hh => by have := hp3.mpr ⟨hh.1, hh.2.1⟩; omega)]
    rfl
  · skip
    refine lv_iload_n X.1 X.2.1 d_Mo_length_9 rfl (lv_at hl 2 rfl) ?_
    refine lv_iconst (v := nI 0) X.1 X.2.1 d_Mo_length_10 (by decide) ?_
    refine lv_iconst (v := nI 2) X.1 X.2.1 d_Mo_length_11 (by decide) ?_
    refine cv_Mo_63 (rest := []) X hJ hP hS (K_Mo_in l dC dI cx ad hJ _ rq 0 2 (by omega) (by omega)) rfl rfl (by decide) hl.1 (Nat.le_of_ble_eq_true rfl) ⟨Nat.le_refl _, Nat.le_refl _⟩ d_Mo_length_12 (fun r σ' H locs hq hP hS => ?_)
    obtain ⟨hq0, b12, rfl, hb12, hp12⟩ := hq
    rw [hq0] at hP
    refine gx_if_eq X.1 X.2.1 (tgt := 31) d_Mo_length_15 (by decide) (by omega) (fun h15 => ?_) (fun h15 => ?_)
    · skip
      refine lv_iconst (v := -1) X.1 X.2.1 d_Mo_length_31 (by decide) ?_
      refine gx_iret X.1 X.2.1 hr hlk hP hS d_Mo_length_32 ?_
      refine ⟨rfl, ?_⟩
      unfold ab_at
      rw [if_neg (fun hh => by have := hp12.mpr ⟨hh.2.2.1, hh.2.2.2⟩; omega)]
      rfl
    · skip
      have hh3 := hp3.mp (by omega)
      have hh12 := hp12.mp (by omega)
      obtain ⟨g, rfl, g1, g2, g3⟩ := gi_of (t := gq) (n := 3) (by omega) (by omega)
      obtain ⟨r', rfl, r1, r2, r3⟩ := gi_of (t := rq) (n := 2) (by omega) (by omega)
      obtain ⟨p0, q0, l0, d0, -⟩ := hx.2.2.1 g r' (by omega) (by omega)
      refine lv_aload_n X.1 X.2.1 d_Mo_length_18 rfl (lv_at hl 0 rfl) ?_
      refine gg_Mo_32 X hP d_Mo_length_19 ?_
      refine lv_iconst (v := nI 3) X.1 X.2.1 d_Mo_length_22 (by decide) ?_
      refine lv_iload_n X.1 X.2.1 d_Mo_length_23 rfl (lv_at hl 1 rfl) ?_
      refine gx_imul X.1 X.2.1 d_Mo_length_24 ?_
      refine lv_iload_n X.1 X.2.1 d_Mo_length_25 rfl (lv_at hl 2 rfl) ?_
      refine gx_iadd X.1 X.2.1 d_Mo_length_26 ?_
      refine ga_232 (by omega) X hP d_Mo_length_27 ?_
      rw [l0]
      refine lv_goto (tgt := 32) X.1 X.2.1 d_Mo_length_28 (by decide) ?_
      refine gx_iret X.1 X.2.1 hr hlk hP hS d_Mo_length_32 ?_
      refine ⟨rfl, ?_⟩
      unfold ab_at
      rw [if_pos ⟨by omega, by omega, by omega, by omega⟩, g3, r3]
      rfl
set_option maxRecDepth 100000 in
set_option maxHeartbeats 4000000 in
theorem K_Mo_executed (l : Launch) (dC : Nat → ClassId) (dI : Nat → Nat → Nat) (cx : Nat → ClassId) (ad : Nat → Nat) (hJ : gx_J gx_N ad (gx_A gx_N ad)) (σ : gx_M) (a : ab_S) (gq rq : Int32) (hx : mr σ a) : cg_Mi l dC dI cx ad y_Mo_executed w_Mo_executed 1 [.ref (ad 224), .int gq, .int rq] σ (fun r σ' => σ' = σ ∧ r = Int32.ofInt (ab_at (ab_dn a) gq.toInt rq.toInt)) := by
  refine gx_ofW (cc := c_Mo_executed) (maxL := 3) (ret := (Option.some Jvm.ClassFile.FieldType.int)) (by decide) rfl (Nat.le_of_ble_eq_true rfl) ?_
  intro p e s m below meth c ls S hr hlk hK hN hl hP
  have X : cg_X c_Mo_executed "CommitGroupsModel" 3 dC dI cx p m c s _ := ⟨S.1, S.2.1, S.2.2.2.1, fun w h => S.2.2.2.2 w (List.mem_cons_of_mem _ h), hK, hN, S.2.2.1⟩
  have hS : va_S (gx_A gx_N ad) s.heap s.heap [] := va_S.rf
  have hl : lv_has ls 3 [(0, .ref (ad 224)), (1, .int gq), (2, .int rq)] := hl
  refine lv_iload_n X.1 X.2.1 d_Mo_executed_0 rfl (lv_at hl 1 rfl) ?_
  refine lv_iconst (v := nI 0) X.1 X.2.1 d_Mo_executed_1 (by decide) ?_
  refine lv_iconst (v := nI 3) X.1 X.2.1 d_Mo_executed_2 (by decide) ?_
  refine cv_Mo_63 (rest := []) X hJ hP hS (K_Mo_in l dC dI cx ad hJ _ gq 0 3 (by omega) (by omega)) rfl rfl (by decide) hl.1 (Nat.le_of_ble_eq_true rfl) ⟨Nat.le_refl _, Nat.le_refl _⟩ d_Mo_executed_3 (fun r σ' H locs hq hP hS => ?_)
  obtain ⟨hq0, b3, rfl, hb3, hp3⟩ := hq
  rw [hq0] at hP
  refine gx_if_eq X.1 X.2.1 (tgt := 31) d_Mo_executed_6 (by decide) (by omega) (fun h6 => ?_) (fun h6 => ?_)
  · skip
    refine lv_iconst (v := -1) X.1 X.2.1 d_Mo_executed_31 (by decide) ?_
    refine gx_iret X.1 X.2.1 hr hlk hP hS d_Mo_executed_32 ?_
    refine ⟨rfl, ?_⟩
    unfold ab_at
    rw [if_neg (fun hh => by have := hp3.mpr ⟨hh.1, hh.2.1⟩; omega)]
    rfl
  · skip
    refine lv_iload_n X.1 X.2.1 d_Mo_executed_9 rfl (lv_at hl 2 rfl) ?_
    refine lv_iconst (v := nI 0) X.1 X.2.1 d_Mo_executed_10 (by decide) ?_
    refine lv_iconst (v := nI 2) X.1 X.2.1 d_Mo_executed_11 (by decide) ?_
    refine cv_Mo_63 (rest := []) X hJ hP hS (K_Mo_in l dC dI cx ad hJ _ rq 0 2 (by omega) (by omega)) rfl rfl (by decide) hl.1 (Nat.le_of_ble_eq_true rfl) ⟨Nat.le_refl _, Nat.le_refl _⟩ d_Mo_executed_12 (fun r σ' H locs hq hP hS => ?_)
    obtain ⟨hq0, b12, rfl, hb12, hp12⟩ := hq
    rw [hq0] at hP
    refine gx_if_eq X.1 X.2.1 (tgt := 31) d_Mo_executed_15 (by decide) (by omega) (fun h15 => ?_) (fun h15 => ?_)
    · skip
      refine lv_iconst (v := -1) X.1 X.2.1 d_Mo_executed_31 (by decide) ?_
      refine gx_iret X.1 X.2.1 hr hlk hP hS d_Mo_executed_32 ?_
      refine ⟨rfl, ?_⟩
      unfold ab_at
      rw [if_neg (fun hh => by have := hp12.mpr ⟨hh.2.2.1, hh.2.2.2⟩; omega)]
      rfl
    · skip
      have hh3 := hp3.mp (by omega)
      have hh12 := hp12.mp (by omega)
      obtain ⟨g, rfl, g1, g2, g3⟩ := gi_of (t := gq) (n := 3) (by omega) (by omega)
      obtain ⟨r', rfl, r1, r2, r3⟩ := gi_of (t := rq) (n := 2) (by omega) (by omega)
      obtain ⟨p0, q0, l0, d0, -⟩ := hx.2.2.1 g r' (by omega) (by omega)
      refine lv_aload_n X.1 X.2.1 d_Mo_executed_18 rfl (lv_at hl 0 rfl) ?_
      refine gg_Mo_35 X hP d_Mo_executed_19 ?_
      refine lv_iconst (v := nI 3) X.1 X.2.1 d_Mo_executed_22 (by decide) ?_
      refine lv_iload_n X.1 X.2.1 d_Mo_executed_23 rfl (lv_at hl 1 rfl) ?_
      refine gx_imul X.1 X.2.1 d_Mo_executed_24 ?_
      refine lv_iload_n X.1 X.2.1 d_Mo_executed_25 rfl (lv_at hl 2 rfl) ?_
      refine gx_iadd X.1 X.2.1 d_Mo_executed_26 ?_
      refine ga_233 (by omega) X hP d_Mo_executed_27 ?_
      rw [d0]
      refine lv_goto (tgt := 32) X.1 X.2.1 d_Mo_executed_28 (by decide) ?_
      refine gx_iret X.1 X.2.1 hr hlk hP hS d_Mo_executed_32 ?_
      refine ⟨rfl, ?_⟩
      unfold ab_at
      rw [if_pos ⟨by omega, by omega, by omega, by omega⟩, g3, r3]
      rfl
set_option maxRecDepth 100000 in
set_option maxHeartbeats 4000000 in
theorem K_Mo_value (l : Launch) (dC : Nat → ClassId) (dI : Nat → Nat → Nat) (cx : Nat → ClassId) (ad : Nat → Nat) (hJ : gx_J gx_N ad (gx_A gx_N ad)) (σ : gx_M) (a : ab_S) (yq rq : Int32) (hx : mr σ a) (hw : ab_W a) (hv : ab_V a) : cg_Mi l dC dI cx ad y_Mo_value w_Mo_value 5 [.ref (ad 224), .int yq, .int rq] σ (fun r σ' => mC σ σ' ∧ r = nI (ab_value a yq.toInt rq.toInt)) := by
  refine gx_ofW (cc := c_Mo_value) (maxL := 3) (ret := (Option.some Jvm.ClassFile.FieldType.int)) (by decide) rfl (Nat.le_of_ble_eq_true rfl) ?_
  intro p e s m below meth c ls S hr hlk hK hN hl hP
  have X : cg_X c_Mo_value "CommitGroupsModel" 3 dC dI cx p m c s _ := ⟨S.1, S.2.1, S.2.2.2.1, fun w h => S.2.2.2.2 w (List.mem_cons_of_mem _ h), hK, hN, S.2.2.1⟩
  have hS : va_S (gx_A gx_N ad) s.heap s.heap [] := va_S.rf
  have hl : lv_has ls 3 [(0, .ref (ad 224)), (1, .int yq), (2, .int rq)] := hl
  refine lv_iload_n X.1 X.2.1 d_Mo_value_0 rfl (lv_at hl 1 rfl) ?_
  refine lv_iconst (v := nI 0) X.1 X.2.1 d_Mo_value_1 (by decide) ?_
  refine lv_bipush (v := nI 11) X.1 X.2.1 d_Mo_value_2 (by decide) ?_
  refine cv_Mo_63 (rest := []) X hJ hP hS (K_Mo_in l dC dI cx ad hJ _ yq 0 11 (by omega) (by omega)) rfl rfl (by decide) hl.1 (Nat.le_of_ble_eq_true rfl) ⟨Nat.le_refl _, Nat.le_refl _⟩ d_Mo_value_4 (fun r σ' H locs hq hP hS => ?_)
  obtain ⟨hq0, b4, rfl, hb4, hp4⟩ := hq
  rw [hq0] at hP
  refine gx_if_eq X.1 X.2.1 (tgt := 19) d_Mo_value_7 (by decide) (by omega) (fun h7 => ?_) (fun h7 => ?_)
  · skip
    refine lv_iconst (v := nI 0) X.1 X.2.1 d_Mo_value_19 (by decide) ?_
    refine gx_iret X.1 X.2.1 hr hlk hP hS d_Mo_value_20 ?_
    refine ⟨mC_rfl _, ?_⟩
    unfold ab_value
    rw [if_neg (fun hh => ?_)]
    have := hp4.mpr ⟨hh.1.1, hh.1.2⟩; omega
  · skip
    refine lv_iload_n X.1 X.2.1 d_Mo_value_10 rfl (lv_at hl 2 rfl) ?_
    refine lv_iconst (v := nI 0) X.1 X.2.1 d_Mo_value_11 (by decide) ?_
    refine lv_iconst (v := nI 2) X.1 X.2.1 d_Mo_value_12 (by decide) ?_
    refine cv_Mo_63 (rest := []) X hJ hP hS (K_Mo_in l dC dI cx ad hJ _ rq 0 2 (by omega) (by omega)) rfl rfl (by decide) hl.1 (Nat.le_of_ble_eq_true rfl) ⟨Nat.le_refl _, Nat.le_refl _⟩ d_Mo_value_13 (fun r σ' H locs hq hP hS => ?_)
    obtain ⟨hq0, b13, rfl, hb13, hp13⟩ := hq
    rw [hq0] at hP
    refine gx_if_ne X.1 X.2.1 (tgt := 21) d_Mo_value_16 (by decide) (by omega) (fun h16 => ?_) (fun h16 => ?_)
    · skip
      have hh4 := hp4.mp (by omega)
      have hh13 := hp13.mp (by omega)
      obtain ⟨y, rfl, y1, y2, y3⟩ := gi_of (t := yq) (n := 11) (by omega) (by omega)
      obtain ⟨r', rfl, r1, r2, r3⟩ := gi_of (t := rq) (n := 2) (by omega) (by omega)
      refine lv_aload_n X.1 X.2.1 d_Mo_value_21 rfl (lv_at hl 0 rfl) ?_
      refine lv_iload_n X.1 X.2.1 d_Mo_value_22 rfl (lv_at hl 1 rfl) ?_
      refine lv_iconst (v := nI 3) X.1 X.2.1 d_Mo_value_23 (by decide) ?_
      refine gx_irem X.1 X.2.1 d_Mo_value_24 (by omega) (by decide) (by decide) ?_
      refine lv_iload_n X.1 X.2.1 d_Mo_value_25 rfl (lv_at hl 2 rfl) ?_
      refine cv_Mo_113 (rest := []) X hJ hP hS (by decide) (ec_Mo_0 _) (K_Mo_work_s l dC dI cx ad hJ _ a (y % 3) r' hx hw hv (by omega) (by omega)) rfl rfl (by decide) hl.1 (Nat.le_of_ble_eq_true rfl) ⟨Nat.le_refl _, Nat.le_refl _⟩ d_Mo_value_26 (fun σ' H locs hq hP hS => ?_)
      obtain ⟨w1, w2⟩ := hq
      refine lv_aload_n X.1 X.2.1 d_Mo_value_29 rfl (lv_at hl 0 rfl) ?_
      refine gg_Mo_56 X hP d_Mo_value_30 ?_
      refine lv_iload_n X.1 X.2.1 d_Mo_value_33 rfl (lv_at hl 1 rfl) ?_
      refine ga_240 (by omega) X hP d_Mo_value_34 ?_
      rw [w1.2 y (by omega)]
      refine gx_iret X.1 X.2.1 hr hlk hP hS d_Mo_value_35 ?_
      refine ⟨w2, ?_⟩
      unfold ab_value
      rw [if_pos ⟨⟨by omega, by omega⟩, by omega, by omega⟩, y3, r3]
    · skip
      refine lv_iconst (v := nI 0) X.1 X.2.1 d_Mo_value_19 (by decide) ?_
      refine gx_iret X.1 X.2.1 hr hlk hP hS d_Mo_value_20 ?_
      refine ⟨mC_rfl _, ?_⟩
      unfold ab_value
      rw [if_neg (fun hh => ?_)]
      have := hp13.mpr ⟨hh.2.1, hh.2.2⟩; omega
