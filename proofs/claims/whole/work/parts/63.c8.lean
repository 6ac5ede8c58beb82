/-! contracts: groups, spread, log, a new view -/
set_option maxRecDepth 100000 in
set_option maxHeartbeats 4000000 in
theorem K_Gr_spread (l : Launch) (dC : Nat → ClassId) (dI : Nat → Nat → Nat) (cx : Nat → ClassId) (ad : Nat → Nat) (hJ : gx_J gx_N ad (gx_A gx_N ad)) (σ : gx_M) (a : ab_S) (gi f v : Nat) (h0 : gi < 4) (hf : f < 3) (hfu : ab_up a gi f = true) (hx : xr σ a) (hw : ab_W a) (hv : v < 2 ^ 30) (hsp : ∀ q, q < 3 → ab_up a gi q = true → (ab_lg a gi f).take (ab_dn a gi q) = (ab_lg a gi q).take (ab_dn a gi q) ∧ ab_dn a gi q ≤ (ab_lg a gi f).length) : cg_Mv l dC dI cx ad y_Gr_spread w_Gr_spread 4 [.ref (ad (nGr gi)), .ref (ad (nRp gi f)), .int (nI v)] σ (fun σ' => xr σ' (ab_spread a gi (ab_lg a gi f) v) ∧ ∀ n, 224 ≤ n → σ' n = σ n) := by
  refine gx_ofW (cc := c_Gr_spread) (maxL := 5) (ret := (Option.none : Option Jvm.ClassFile.FieldType)) (by decide) rfl (Nat.le_of_ble_eq_true rfl) ?_
  intro p e s m below meth c ls S hr hlk hK hN hl hP
  have X : cg_X c_Gr_spread "CommitGroups$Group" 5 dC dI cx p m c s _ := ⟨S.1, S.2.1, S.2.2.2.1, fun w h => S.2.2.2.2 w (List.mem_cons_of_mem _ h), hK, hN, S.2.2.1⟩
  have hS : va_S (gx_A gx_N ad) s.heap s.heap [] := va_S.rf
  have hl : lv_has ls 5 [(0, .ref (ad (nGr gi))), (1, .ref (ad (nRp gi f))), (2, .int (nI v))] := hl
  have lp : ∀ (k : Nat) (i : Nat) (τ : gx_M), i + k = 3 → xr τ (ab_sp a gi (ab_lg a gi f) v i) → (∀ n, 224 ≤ n → τ n = σ n) → ∀ (H : Heap) (locs : List Loc) (ls : Array Slot), cg_P dC dI cx ad τ H → va_S (gx_A gx_N ad) s.heap H locs → lv_has ls 5 [(3, .int (nI i)), (0, .ref (ad (nGr gi))), (1, .ref (ad (nRp gi f))), (2, .int (nI v))] → W p l e (rmL 4) s m ([.ref (ad (nGr gi)), .ref (ad (nRp gi f)), .int (nI v)] : List Value).toArray below meth c H locs 0 0 (cg_Qv dC dI cx ad (fun σ' => xr σ' (ab_spread a gi (ab_lg a gi f) v) ∧ ∀ n, 224 ≤ n → σ' n = σ n) below [.ref (ad (nGr gi)), .ref (ad (nRp gi f)), .int (nI v)] s) (F0 m 2 ls []) := by
    intro k
    induction k with
    | zero =>
      intro i τ hik hxt hfr H locs ls hP hS hl
      refine lv_iload_n X.1 X.2.1 d_Gr_spread_2 rfl (lv_at hl 0 rfl) ?_
      refine lv_iconst (v := nI 3) X.1 X.2.1 d_Gr_spread_3 (by decide) ?_
      refine gx_icmp_ge X.1 X.2.1 (tgt := 52) d_Gr_spread_4 (by decide) (by omega) (by omega) (fun h4 => ?_) (fun h4 => absurd h4 (by omega))
      refine gx_vret X.1 X.2.1 hr hlk hP hS d_Gr_spread_52 ?_
      obtain rfl : i = 3 := by omega
      rw [ab_sp_all] at hxt
      exact ⟨hxt, hfr⟩
    | succ k ih =>
      intro i τ hik hxt hfr H locs ls hP hS hl
      refine lv_iload_n X.1 X.2.1 d_Gr_spread_2 rfl (lv_at hl 0 rfl) ?_
      refine lv_iconst (v := nI 3) X.1 X.2.1 d_Gr_spread_3 (by decide) ?_
      refine gx_icmp_ge X.1 X.2.1 (tgt := 52) d_Gr_spread_4 (by decide) (by omega) (by omega) (fun h4 => absurd h4 (by omega)) (fun h4 => ?_)
      have hrp := hxt.2.2.1 gi i h0 (by omega)
      have hxb := xb_le (ab_up a gi i)
      refine lv_aload_n X.1 X.2.1 d_Gr_spread_7 rfl (lv_at hl 1 rfl) ?_
      refine gg_Gr_9 (by omega) X hP d_Gr_spread_8 ?_
      refine lv_iload_n X.1 X.2.1 d_Gr_spread_11 rfl (lv_at hl 0 rfl) ?_
      refine gr_nRs (by omega) (by omega) X hP d_Gr_spread_12 ?_
      refine lv_astore X.1 X.2.1 d_Gr_spread_13 hl (by decide) rfl (fun ls hl => ?_)
      have hl : lv_has ls 5 [(4, .ref (ad (nRp gi i))), (3, .int (nI i)), (0, .ref (ad (nGr gi))), (1, .ref (ad (nRp gi f))), (2, .int (nI v))] := hl
      refine lv_aload X.1 X.2.1 d_Gr_spread_15 (lv_at hl 0 rfl) ?_
      refine gg_Gr_15 (by omega) (by omega) X hP d_Gr_spread_17 ?_
      rw [hrp.1]
      show W _ _ _ _ _ _ _ _ _ _ _ _ _ _ _ (F0 m _ _ (.int (nI (xb (ab_up a gi i))) :: _))
      refine gx_if_eq X.1 X.2.1 (tgt := 46) d_Gr_spread_20 (by decide) (by omega) (fun h20 => ?_) (fun h20 => ?_)
      · skip
        refine lv_iinc (k := 1) (v := nI (i + 1)) X.1 X.2.1 d_Gr_spread_46 hl rfl (nI_add _ _) (by decide) rfl (fun ls hl => ?_)
        have hl : lv_has ls 5 [(3, .int (nI (i + 1))), (4, .ref (ad (nRp gi i))), (0, .ref (ad (nGr gi))), (1, .ref (ad (nRp gi f))), (2, .int (nI v))] := hl
        refine lv_goto (tgt := 2) X.1 X.2.1 d_Gr_spread_49 (by decide) ?_
        exact ih (i + 1) _ (by omega) (by rw [← ab_sp_skip a gi _ v i (xb_zero.mp h20)]; exact hxt) hfr H locs ls hP hS (lv_sub hl [0, 2, 3, 4] rfl)
      · skip
        have hup : ab_up a gi i = true := xb_one.mp (by omega)
        obtain ⟨s1, s2, s3⟩ := ab_sp_vi a gi (ab_lg a gi f) v i (r := i) (by omega)
        obtain ⟨p1, p2⟩ := hsp i (by omega) hup
        obtain ⟨wl1, wl2, wl3, wl4⟩ := hw.2.2 gi f h0 hf
        have hmid := ab_W_mid hw (g := gi) (i := i) (v := v) (L := ab_lg a gi f) (by omega) wl1 wl4 hv p2
        refine lv_aload X.1 X.2.1 d_Gr_spread_23 (lv_at hl 0 rfl) ?_
        refine lv_aload_n X.1 X.2.1 d_Gr_spread_25 rfl (lv_at hl 3 rfl) ?_
        refine lv_acmp_eq (rx := some (ad (nRp gi i))) (ry := some (ad (nRp gi f))) X.1 X.2.1 (tgt := 35) d_Gr_spread_26 (by decide) (fun h26 => ?_) (fun h26 => ?_)
        · skip
          have hif : i = f := by
            have z := hJ.1 _ _ (nRp_lt h0 (by omega)) (nRp_lt h0 hf) (Option.some.inj h26)
            exact (nRp_inj h0 (by omega) h0 hf z).2
          have hxl : xr τ (ab_setlg (ab_sp a gi (ab_lg a gi f) v i) gi i (ab_lg a gi f)) := by
            have z : ab_lg a gi f = ab_lg (ab_sp a gi (ab_lg a gi f) v i) gi i := by rw [s2, hif]
            rw [z, ← z, show ab_setlg (ab_sp a gi (ab_lg a gi f) v i) gi i (ab_lg a gi f) = ab_setlg (ab_sp a gi (ab_lg a gi f) v i) gi i (ab_lg (ab_sp a gi (ab_lg a gi f) v i) gi i) by rw [← z], ab_setlg_id]
            exact hxt
          have hxv := xr_setvi hxl h0 (show i < 3 by omega) v
          refine lv_aload X.1 X.2.1 d_Gr_spread_35 (lv_at hl 0 rfl) ?_
          refine lv_iload_n X.1 X.2.1 d_Gr_spread_37 rfl (lv_at hl 4 rfl) ?_
          refine gp_Gr_45 (by omega) (by omega) X hJ hP hS d_Gr_spread_38 (fun H locs hP hS => ?_)
          refine lv_aload X.1 X.2.1 d_Gr_spread_41 (lv_at hl 0 rfl) ?_
          refine cv_Gr_65 (rest := []) X hJ hP hS (nRp_lt (by omega) (by omega)) (ec_nRp (by omega) (by omega) _) (K_Rp_catchUp l dC dI cx ad hJ _ (ab_setvi (ab_setlg (ab_sp a gi (ab_lg a gi f) v i) gi i (ab_lg a gi f)) gi i v) gi i h0 (by omega) hxv hmid) rfl rfl (by decide) hl.1 (Nat.le_of_ble_eq_true rfl) ⟨Nat.le_refl _, Nat.le_refl _⟩ d_Gr_spread_43 (fun σ' H locs hq hP hS => ?_)
          obtain ⟨q1, q2⟩ := hq
          have elen : ab_lg (ab_setvi (ab_setlg (ab_sp a gi (ab_lg a gi f) v i) gi i (ab_lg a gi f)) gi i v) gi i = ab_lg a gi f := by
            show pu_up _ gi (pu_up _ i _) gi i = _
            rw [pu_up_self, pu_up_self]
          rw [elen, ab_sp_step a gi (ab_lg a gi f) v i (by omega) hup] at q1
          refine lv_iinc (k := 1) (v := nI (i + 1)) X.1 X.2.1 d_Gr_spread_46 hl rfl (nI_add _ _) (by decide) rfl (fun ls hl => ?_)
          have hl : lv_has ls 5 [(3, .int (nI (i + 1))), (4, .ref (ad (nRp gi i))), (0, .ref (ad (nGr gi))), (1, .ref (ad (nRp gi f))), (2, .int (nI v))] := hl
          refine lv_goto (tgt := 2) X.1 X.2.1 d_Gr_spread_49 (by decide) ?_
          exact ih (i + 1) _ (by omega) q1 (fun n hn => by rw [q2 n hn, gx_w_row _ _ _ (fun z => by obtain ⟨g', r', b1, b2, b3⟩ := fR_num (n := n) (z ▸ ⟨gi, i, h0, by omega, Or.inl rfl⟩); omega)]; exact hfr n hn) H locs ls hP hS (lv_sub hl [0, 2, 3, 4] rfl)
        · skip
          have hif : f ≠ i := fun z => h26 (by rw [z])
          have hlf : ab_lg (ab_sp a gi (ab_lg a gi f) v i) gi f = ab_lg a gi f := ab_sp_f hf hfu
          have hrf := (hxt.2.2.1 gi f h0 hf).2.2.1
          rw [hlf] at hrf
          refine lv_aload X.1 X.2.1 d_Gr_spread_29 (lv_at hl 0 rfl) ?_
          refine lv_aload_n X.1 X.2.1 d_Gr_spread_31 rfl (lv_at hl 3 rfl) ?_
          refine cv_Gr_61 (rest := []) X hJ hP hS (nRp_lt (by omega) (by omega)) (ec_nRp (by omega) (by omega) _) (K_Rp_copyLog l dC dI cx ad hJ τ gi i f h0 (by omega) hf (by rw [hrf]; exact wl1)) rfl rfl (by decide) hl.1 (Nat.le_of_ble_eq_true rfl) ⟨Nat.le_refl _, Nat.le_refl _⟩ d_Gr_spread_32 (fun σ' H locs hq hP hS => ?_)
          have hxc := xr_copy hxt h0 (show i < 3 by omega) hf hif (by rw [hlf]; exact wl1) (by rw [hlf, s2, s3]; exact p1)
          rw [hlf] at hxc
          rw [hrf] at hq
          rw [hq] at hP
          have hxv := xr_setvi hxc h0 (show i < 3 by omega) v
          refine lv_aload X.1 X.2.1 d_Gr_spread_35 (lv_at hl 0 rfl) ?_
          refine lv_iload_n X.1 X.2.1 d_Gr_spread_37 rfl (lv_at hl 4 rfl) ?_
          refine gp_Gr_45 (by omega) (by omega) X hJ hP hS d_Gr_spread_38 (fun H locs hP hS => ?_)
          refine lv_aload X.1 X.2.1 d_Gr_spread_41 (lv_at hl 0 rfl) ?_
          refine cv_Gr_65 (rest := []) X hJ hP hS (nRp_lt (by omega) (by omega)) (ec_nRp (by omega) (by omega) _) (K_Rp_catchUp l dC dI cx ad hJ _ (ab_setvi (ab_setlg (ab_sp a gi (ab_lg a gi f) v i) gi i (ab_lg a gi f)) gi i v) gi i h0 (by omega) hxv hmid) rfl rfl (by decide) hl.1 (Nat.le_of_ble_eq_true rfl) ⟨Nat.le_refl _, Nat.le_refl _⟩ d_Gr_spread_43 (fun σ' H locs hq hP hS => ?_)
          obtain ⟨q1, q2⟩ := hq
          have elen : ab_lg (ab_setvi (ab_setlg (ab_sp a gi (ab_lg a gi f) v i) gi i (ab_lg a gi f)) gi i v) gi i = ab_lg a gi f := by
            show pu_up _ gi (pu_up _ i _) gi i = _
            rw [pu_up_self, pu_up_self]
          rw [elen, ab_sp_step a gi (ab_lg a gi f) v i (by omega) hup] at q1
          refine lv_iinc (k := 1) (v := nI (i + 1)) X.1 X.2.1 d_Gr_spread_46 hl rfl (nI_add _ _) (by decide) rfl (fun ls hl => ?_)
          have hl : lv_has ls 5 [(3, .int (nI (i + 1))), (4, .ref (ad (nRp gi i))), (0, .ref (ad (nGr gi))), (1, .ref (ad (nRp gi f))), (2, .int (nI v))] := hl
          refine lv_goto (tgt := 2) X.1 X.2.1 d_Gr_spread_49 (by decide) ?_
          exact ih (i + 1) _ (by omega) q1 (fun n hn => by rw [q2 n hn, gx_w_row _ _ _ (fun z => by obtain ⟨g', r', b1, b2, b3⟩ := fR_num (n := n) (z ▸ ⟨gi, i, h0, by omega, Or.inl rfl⟩); omega), gx_w_row _ _ _ (fun z => by obtain ⟨g', r', b1, b2, b3⟩ := fR_num (n := n) (z ▸ ⟨gi, i, h0, by omega, Or.inl rfl⟩); omega), show gx_cp τ (nLg gi f) (nLg gi i) (ab_lg a gi f).length n = τ n from va_up_ne _ _ (fun z => by obtain ⟨g', r', b1, b2, b3⟩ := fR_num (n := n) (z ▸ ⟨gi, i, h0, by omega, Or.inr rfl⟩); omega)]; exact hfr n hn) H locs ls hP hS (lv_sub hl [0, 2, 3, 4] rfl)
  refine lv_iconst (v := nI 0) X.1 X.2.1 d_Gr_spread_0 (by decide) ?_
  refine lv_istore_n X.1 X.2.1 d_Gr_spread_1 rfl hl (by decide) rfl (fun ls hl => ?_)
  have hl : lv_has ls 5 [(3, .int (nI 0)), (0, .ref (ad (nGr gi))), (1, .ref (ad (nRp gi f))), (2, .int (nI v))] := hl
  exact lp 3 0 σ rfl (ab_sp_0 a gi _ v hx) (fun n _ => rfl) _ _ ls hP hS (lv_sub hl [0, 1, 2, 3] rfl)
set_option maxRecDepth 100000 in
set_option maxHeartbeats 4000000 in
theorem K_Gr_log (l : Launch) (dC : Nat → ClassId) (dI : Nat → Nat → Nat) (cx : Nat → ClassId) (ad : Nat → Nat) (hJ : gx_J gx_N ad (gx_A gx_N ad)) (σ : gx_M) (a : ab_S) (gi : Nat) (en : pu_En) (h0 : gi < 4) (hx : xr σ a) (hw : ab_W a) (hen : 1 ≤ en.2 ∧ en.2 ≤ 20 ∧ en.1 ≤ 2) (hsp : ab_ld a gi < 3 → 2 ≤ pu_cnt (ab_up a gi) → ∀ q, q < 3 → ab_up a gi q = true → (ab_lg a gi (ab_ld a gi) ++ [en]).take (ab_dn a gi q) = (ab_lg a gi q).take (ab_dn a gi q) ∧ ab_dn a gi q ≤ (ab_lg a gi (ab_ld a gi)).length) : cg_Mi l dC dI cx ad y_Gr_log w_Gr_log 5 [.ref (ad (nGr gi)), .int (nI (en.2 * 3 + en.1))] σ (fun r σ' => r = Int32.ofInt (ab_log a gi en).1 ∧ xr σ' (ab_log a gi en).2 ∧ ∀ n, 224 ≤ n → σ' n = σ n) := by
  refine gx_ofW (cc := c_Gr_log) (maxL := 4) (ret := (Option.some Jvm.ClassFile.FieldType.int)) (by decide) rfl (Nat.le_of_ble_eq_true rfl) ?_
  intro p e s m below meth c ls S hr hlk hK hN hl hP
  have X : cg_X c_Gr_log "CommitGroups$Group" 4 dC dI cx p m c s _ := ⟨S.1, S.2.1, S.2.2.2.1, fun w h => S.2.2.2.2 w (List.mem_cons_of_mem _ h), hK, hN, S.2.2.1⟩
  have hS : va_S (gx_A gx_N ad) s.heap s.heap [] := va_S.rf
  have hl : lv_has ls 4 [(0, .ref (ad (nGr gi))), (1, .int (nI (en.2 * 3 + en.1)))] := hl
  refine lv_aload_n X.1 X.2.1 d_Gr_log_0 rfl (lv_at hl 0 rfl) ?_
  refine cv_Gr_31 (rest := []) X hJ hP hS (nGr_lt (by omega)) (ec_nGr (by omega) _) (K_Gr_findLeader l dC dI cx ad hJ σ a gi h0 hx hw) rfl rfl (by decide) hl.1 (Nat.le_of_ble_eq_true rfl) ⟨Nat.le_refl _, Nat.le_refl _⟩ d_Gr_log_1 (fun r σ' H locs hq hP hS => ?_)
  obtain ⟨hq0, hq⟩ := hq
  rw [hq0] at hP
  rcases hq with ⟨hld, rfl⟩ | ⟨hld, hlt, hup, rfl⟩
  · skip
    refine lv_istore_n X.1 X.2.1 d_Gr_log_4 rfl hl (by decide) rfl (fun ls hl => ?_)
    have hl : lv_has ls 4 [(2, .int (-1)), (0, .ref (ad (nGr gi))), (1, .int (nI (en.2 * 3 + en.1)))] := hl
    refine lv_iload_n X.1 X.2.1 d_Gr_log_5 rfl (lv_at hl 0 rfl) ?_
    refine lv_if_ge X.1 X.2.1 (tgt := 12) d_Gr_log_6 (by decide) (fun h6 => absurd h6 (by decide)) (fun h6 => ?_)
    refine lv_bipush (v := -3) X.1 X.2.1 d_Gr_log_9 (by decide) ?_
    refine gx_iret X.1 X.2.1 hr hlk hP hS d_Gr_log_11 ?_
    have e : ab_log a gi en = (-3, a) := by unfold ab_log; rw [if_pos hld]
    rw [e]
    exact ⟨rfl, hx, fun n _ => rfl⟩
  · skip
    obtain ⟨wl1, wl2, wl3, wl4⟩ := hw.2.2 gi (ab_ld a gi) h0 hld
    have hrp := hx.2.2.1 gi (ab_ld a gi) h0 hld
    refine lv_istore_n X.1 X.2.1 d_Gr_log_4 rfl hl (by decide) rfl (fun ls hl => ?_)
    have hl : lv_has ls 4 [(2, .int (nI (ab_ld a gi))), (0, .ref (ad (nGr gi))), (1, .int (nI (en.2 * 3 + en.1)))] := hl
    refine lv_iload_n X.1 X.2.1 d_Gr_log_5 rfl (lv_at hl 0 rfl) ?_
    refine gx_if_ge X.1 X.2.1 (tgt := 12) d_Gr_log_6 (by decide) (by omega) ?_
    refine lv_aload_n X.1 X.2.1 d_Gr_log_12 rfl (lv_at hl 1 rfl) ?_
    refine gg_Gr_9 (by omega) X hP d_Gr_log_13 ?_
    refine lv_iload_n X.1 X.2.1 d_Gr_log_16 rfl (lv_at hl 0 rfl) ?_
    refine gr_nRs (by omega) (by omega) X hP d_Gr_log_17 ?_
    refine lv_astore_n X.1 X.2.1 d_Gr_log_18 rfl hl (by decide) rfl (fun ls hl => ?_)
    have hl : lv_has ls 4 [(3, .ref (ad (nRp gi (ab_ld a gi)))), (2, .int (nI (ab_ld a gi))), (0, .ref (ad (nGr gi))), (1, .int (nI (en.2 * 3 + en.1)))] := hl
    refine lv_aload_n X.1 X.2.1 d_Gr_log_19 rfl (lv_at hl 0 rfl) ?_
    refine gg_Gr_34 (by omega) (by omega) X hP d_Gr_log_20 ?_
    rw [hrp.2.2.1]
    refine lv_bipush (v := nI 60) X.1 X.2.1 d_Gr_log_23 (by decide) ?_
    refine gx_icmp_lt X.1 X.2.1 (tgt := 31) d_Gr_log_25 (by decide) (by omega) (by omega) (fun h25 => ?_) (fun h25 => ?_)
    · skip
      refine lv_aload_n X.1 X.2.1 d_Gr_log_31 rfl (lv_at hl 0 rfl) ?_
      refine lv_iload_n X.1 X.2.1 d_Gr_log_32 rfl (lv_at hl 3 rfl) ?_
      refine cv_Gr_38 (rest := []) X hJ hP hS (nRp_lt (by omega) (by omega)) (ec_nRp (by omega) (by omega) _) (K_Rp_append l dC dI cx ad hJ σ gi (ab_ld a gi) (en.2 * 3 + en.1) h0 hld (by rw [hrp.2.2.1]; omega)) rfl rfl (by decide) hl.1 (Nat.le_of_ble_eq_true rfl) ⟨Nat.le_refl _, Nat.le_refl _⟩ d_Gr_log_33 (fun σ' H locs hq hP hS => ?_)
      rw [hrp.2.2.1] at hq
      rw [hq] at hP
      have hx1 := xr_app hx h0 hld en wl3
      have hw1 := ab_W_app hw (g := gi) (f := ab_ld a gi) (en := en) (by omega) hen
      have hc3 : pu_cnt (ab_up a gi) < 2 ^ 31 := by unfold pu_cnt; split <;> split <;> split <;> decide
      refine lv_aload_n X.1 X.2.1 d_Gr_log_36 rfl (lv_at hl 2 rfl) ?_
      refine cv_Gr_42 (rest := []) X hJ hP hS (nGr_lt (by omega)) (ec_nGr (by omega) _) (K_Gr_countUp l dC dI cx ad hJ _ (ab_setlg a gi (ab_ld a gi) (ab_lg a gi (ab_ld a gi) ++ [en])) gi h0 hx1 hw1) rfl rfl (by decide) hl.1 (Nat.le_of_ble_eq_true rfl) ⟨Nat.le_refl _, Nat.le_refl _⟩ d_Gr_log_37 (fun r σ' H locs hq hP hS => ?_)
      obtain ⟨hq0, rfl⟩ := hq
      rw [hq0] at hP
      rw [show pu_cnt (ab_up (ab_setlg a gi (ab_ld a gi) (ab_lg a gi (ab_ld a gi) ++ [en])) gi) = pu_cnt (ab_up a gi) from rfl]
      refine lv_iconst (v := nI 2) X.1 X.2.1 d_Gr_log_40 (by decide) ?_
      refine gx_icmp_ge X.1 X.2.1 (tgt := 47) d_Gr_log_41 (by decide) (by omega) (by omega) (fun h41 => ?_) (fun h41 => ?_)
      · skip
        refine lv_aload_n X.1 X.2.1 d_Gr_log_47 rfl (lv_at hl 2 rfl) ?_
        refine lv_aload_n X.1 X.2.1 d_Gr_log_48 rfl (lv_at hl 0 rfl) ?_
        refine lv_aload_n X.1 X.2.1 d_Gr_log_49 rfl (lv_at hl 0 rfl) ?_
        refine gg_Gr_45 (by omega) (by omega) X hP d_Gr_log_50 ?_
        have elg1 : ab_lg (ab_setlg a gi (ab_ld a gi) (ab_lg a gi (ab_ld a gi) ++ [en])) gi (ab_ld a gi) = ab_lg a gi (ab_ld a gi) ++ [en] := by
          show pu_up _ gi (pu_up _ _ _) gi _ = _
          rw [pu_up_self, pu_up_self]
        have evi1 : (gx_w (gx_w σ (nLg gi (ab_ld a gi)) (ab_lg a gi (ab_ld a gi)).length (en.2 * 3 + en.1)) (nRp gi (ab_ld a gi)) 4 ((ab_lg a gi (ab_ld a gi)).length + 1)) (nRp gi (ab_ld a gi)) 3 = ab_vi a gi (ab_ld a gi) := by rw [gx_w_col _ _ _ (show (3 : Nat) ≠ 4 by decide), gx_w_row _ _ _ (nRp_Lg h0 hld h0 hld)]; exact hrp.2.1
        rw [evi1]
        refine cv_Gr_48 (rest := []) X hJ hP hS (nGr_lt (by omega)) (ec_nGr (by omega) _) (K_Gr_spread l dC dI cx ad hJ _ (ab_setlg a gi (ab_ld a gi) (ab_lg a gi (ab_ld a gi) ++ [en])) gi (ab_ld a gi) (ab_vi a gi (ab_ld a gi)) h0 hld hup hx1 hw1 wl2 (by
            rw [elg1]
            intro q hq3 hqu
            obtain ⟨p1, p2⟩ := hsp hld h41 q hq3 hqu
            show _ = (ab_lg (ab_setlg a gi (ab_ld a gi) (ab_lg a gi (ab_ld a gi) ++ [en])) gi q).take (ab_dn a gi q) ∧ ab_dn a gi q ≤ _
            have e : ab_lg (ab_setlg a gi (ab_ld a gi) (ab_lg a gi (ab_ld a gi) ++ [en])) gi q = if gi = gi ∧ q = ab_ld a gi then ab_lg a gi (ab_ld a gi) ++ [en] else ab_lg a gi q := pu_up2 _ _ _ _ _ _
            rw [e]
            refine ⟨?_, by rw [List.length_append]; omega⟩
            by_cases z : q = ab_ld a gi
            · rw [if_pos ⟨rfl, z⟩]; rfl
            · rw [if_neg (fun y => z y.2)]; exact p1)) rfl rfl (by decide) hl.1 (Nat.le_of_ble_eq_true rfl) ⟨Nat.le_refl _, Nat.le_refl _⟩ d_Gr_log_53 (fun σ' H locs hq hP hS => ?_)
        obtain ⟨q1, q2⟩ := hq
        rw [elg1, ab_spread_setlg a hup] at q1
        refine lv_iconst (v := nI 0) X.1 X.2.1 d_Gr_log_56 (by decide) ?_
        refine gx_iret X.1 X.2.1 hr hlk hP hS d_Gr_log_57 ?_
        have e : ab_log a gi en = (0, ab_spread a gi (ab_lg a gi (ab_ld a gi) ++ [en]) (ab_vi a gi (ab_ld a gi))) := by unfold ab_log; rw [if_neg (by omega), if_neg (by omega), if_neg (by omega)]
        rw [e]
        exact ⟨rfl, q1, fun n hn => by rw [q2 n hn, gx_w_row _ _ _ (fun z => by obtain ⟨g', r', b1, b2, b3⟩ := fR_num (n := n) (z ▸ ⟨gi, ab_ld a gi, h0, hld, Or.inl rfl⟩); omega), gx_w_row _ _ _ (fun z => by obtain ⟨g', r', b1, b2, b3⟩ := fR_num (n := n) (z ▸ ⟨gi, ab_ld a gi, h0, hld, Or.inr rfl⟩); omega)]⟩
      · skip
        refine lv_bipush (v := -5) X.1 X.2.1 d_Gr_log_44 (by decide) ?_
        refine gx_iret X.1 X.2.1 hr hlk hP hS d_Gr_log_46 ?_
        have e : ab_log a gi en = (-5, (ab_setlg a gi (ab_ld a gi) (ab_lg a gi (ab_ld a gi) ++ [en]))) := by unfold ab_log; rw [if_neg (by omega), if_neg (by omega), if_pos (by omega)]
        rw [e]
        exact ⟨rfl, hx1, fun n hn => by rw [gx_w_row _ _ _ (fun z => by obtain ⟨g', r', b1, b2, b3⟩ := fR_num (n := n) (z ▸ ⟨gi, ab_ld a gi, h0, hld, Or.inl rfl⟩); omega), gx_w_row _ _ _ (fun z => by obtain ⟨g', r', b1, b2, b3⟩ := fR_num (n := n) (z ▸ ⟨gi, ab_ld a gi, h0, hld, Or.inr rfl⟩); omega)]⟩
    · skip
      refine lv_bipush (v := -4) X.1 X.2.1 d_Gr_log_28 (by decide) ?_
      refine gx_iret X.1 X.2.1 hr hlk hP hS d_Gr_log_30 ?_
      have e : ab_log a gi en = (-4, a) := by unfold ab_log; rw [if_neg (by omega), if_pos (by omega)]
      rw [e]
      exact ⟨rfl, hx, fun n _ => rfl⟩
set_option maxRecDepth 100000 in
set_option maxHeartbeats 4000000 in
theorem K_Gr_startView (l : Launch) (dC : Nat → ClassId) (dI : Nat → Nat → Nat) (cx : Nat → ClassId) (ad : Nat → Nat) (hJ : gx_J gx_N ad (gx_A gx_N ad)) (σ : gx_M) (a : ab_S) (gi : Nat) (h0 : gi < 4) (hx : xr σ a) (hw : ab_W a) (hb : ab_best a gi < 3) (hbu : ab_up a gi (ab_best a gi) = true) (hn : ab_next a gi < 2 ^ 30) (hsp : ∀ q, q < 3 → ab_up a gi q = true → (ab_lg a gi (ab_best a gi)).take (ab_dn a gi q) = (ab_lg a gi q).take (ab_dn a gi q) ∧ ab_dn a gi q ≤ (ab_lg a gi (ab_best a gi)).length) : cg_Mi l dC dI cx ad y_Gr_startView w_Gr_startView 5 [.ref (ad (nGr gi))] σ (fun r σ' => r = nI (ab_next a gi) ∧ xr σ' (ab_spread a gi (ab_lg a gi (ab_best a gi)) (ab_next a gi)) ∧ ∀ n, 224 ≤ n → σ' n = σ n) := by
  refine gx_ofW (cc := c_Gr_startView) (maxL := 2) (ret := (Option.some Jvm.ClassFile.FieldType.int)) (by decide) rfl (Nat.le_of_ble_eq_true rfl) ?_
  intro p e s m below meth c ls S hr hlk hK hN hl hP
  have X : cg_X c_Gr_startView "CommitGroups$Group" 2 dC dI cx p m c s _ := ⟨S.1, S.2.1, S.2.2.2.1, fun w h => S.2.2.2.2 w (List.mem_cons_of_mem _ h), hK, hN, S.2.2.1⟩
  have hS : va_S (gx_A gx_N ad) s.heap s.heap [] := va_S.rf
  have hl : lv_has ls 2 [(0, .ref (ad (nGr gi)))] := hl
  refine lv_aload_n X.1 X.2.1 d_Gr_startView_0 rfl (lv_at hl 0 rfl) ?_
  refine cv_Gr_52 (rest := []) X hJ hP hS (nGr_lt (by omega)) (ec_nGr (by omega) _) (K_Gr_nextView l dC dI cx ad hJ σ a gi h0 hx hw) rfl rfl (by decide) hl.1 (Nat.le_of_ble_eq_true rfl) ⟨Nat.le_refl _, Nat.le_refl _⟩ d_Gr_startView_1 (fun r σ' H locs hq hP hS => ?_)
  obtain ⟨hq0, rfl⟩ := hq
  rw [hq0] at hP
  refine lv_istore_n X.1 X.2.1 d_Gr_startView_4 rfl hl (by decide) rfl (fun ls hl => ?_)
  have hl : lv_has ls 2 [(1, .int (nI (ab_next a gi))), (0, .ref (ad (nGr gi)))] := hl
  refine lv_aload_n X.1 X.2.1 d_Gr_startView_5 rfl (lv_at hl 1 rfl) ?_
  refine lv_aload_n X.1 X.2.1 d_Gr_startView_6 rfl (lv_at hl 1 rfl) ?_
  refine gg_Gr_9 (by omega) X hP d_Gr_startView_7 ?_
  refine lv_aload_n X.1 X.2.1 d_Gr_startView_10 rfl (lv_at hl 1 rfl) ?_
  refine cv_Gr_55 (rest := [.ref (ad (nRs gi)), .ref (ad (nGr gi))]) X hJ hP hS (nGr_lt (by omega)) (ec_nGr (by omega) _) (K_Gr_bestLog l dC dI cx ad hJ _ a gi h0 hx hw) rfl rfl (by decide) hl.1 (Nat.le_of_ble_eq_true rfl) ⟨Nat.le_refl _, Nat.le_refl _⟩ d_Gr_startView_11 (fun r σ' H locs hq hP hS => ?_)
  obtain ⟨hq0, rfl⟩ := hq
  rw [hq0] at hP
  refine gr_nRs (by omega) (by omega) X hP d_Gr_startView_14 ?_
  refine lv_iload_n X.1 X.2.1 d_Gr_startView_15 rfl (lv_at hl 0 rfl) ?_
  refine cv_Gr_48 (rest := []) X hJ hP hS (nGr_lt (by omega)) (ec_nGr (by omega) _) (K_Gr_spread l dC dI cx ad hJ _ a gi (ab_best a gi) (ab_next a gi) h0 hb hbu hx hw hn hsp) rfl rfl (by decide) hl.1 (Nat.le_of_ble_eq_true rfl) ⟨Nat.le_refl _, Nat.le_refl _⟩ d_Gr_startView_16 (fun σ' H locs hq hP hS => ?_)
  obtain ⟨q1, q2⟩ := hq
  refine lv_iload_n X.1 X.2.1 d_Gr_startView_19 rfl (lv_at hl 0 rfl) ?_
  refine gx_iret X.1 X.2.1 hr hlk hP hS d_Gr_startView_20 ?_
  exact ⟨rfl, q1, q2⟩
