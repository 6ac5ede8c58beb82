/-! the law's loop -/
theorem lw_and (x : Int32) : ∃ k : Nat, k < 32 ∧ x &&& nI 31 = nI k := by
  obtain ⟨n, hn, rfl⟩ := gx_surj x
  refine ⟨n &&& 31, Nat.lt_of_le_of_lt Nat.and_le_right (by decide), gb_and n 31⟩
theorem lw_gt {L j : Nat} (hL : L ≤ 2560) (hj : j ≤ 2565) : nI L - nI 5 < nI j ↔ L < j + 5 := by
  have e : (nI L - nI 5).toInt = (L : Int) - 5 := by
    rw [Int32.toInt_sub, nI_toInt (by omega), nI_toInt (by decide)]
    have e32 : ((2 ^ 32 : Nat) : Int) = 4294967296 := by decide
    rw [Int.bmod_def, e32]
    split <;> omega
  rw [Int32.lt_iff_toInt_lt, e, nI_toInt (by omega)]
  omega
theorem lw_hold {σ : gx_M} {a : ab_S} {yq rq rx r : Int32} (hx : xr σ a)
    (h1 : (¬ ((0 ≤ yq.toInt ∧ yq.toInt ≤ 11) ∧ 0 ≤ rq.toInt ∧ rq.toInt ≤ 2) ∧ rx = nI 0) ∨ ∃ y r' : Nat, yq = nI y ∧ rq = nI r' ∧ y ≤ 11 ∧ r' ≤ 2 ∧ rx = if σ (nSa (y % 3) r') (y / 3) ≠ 0 then nI (σ (nSa (y % 3) r') (y / 3)) else -(nI (bc_pop 24 (σ (nSh (y % 3) r') (y / 3)))))
    (h2 : (¬ ((0 ≤ yq.toInt ∧ yq.toInt ≤ 11) ∧ 0 ≤ rq.toInt ∧ rq.toInt ≤ 2) ∧ r = nI 0) ∨ ∃ y r' : Nat, yq = nI y ∧ rq = nI r' ∧ y ≤ 11 ∧ r' ≤ 2 ∧ hcQ (ab_op a) (ab_ex a (y % 3) r') y r) : rx = r := by
  rcases h1 with ⟨n1, rfl⟩ | ⟨y, r', rfl, rfl, y1, r1, rfl⟩
  · rcases h2 with ⟨n2, rfl⟩ | ⟨y, r', rfl, rfl, y1, r1, -⟩
    · rfl
    · exact absurd ⟨⟨by rw [nI_toInt (by omega)]; omega, by rw [nI_toInt (by omega)]; omega⟩, by rw [nI_toInt (by omega)]; omega, by rw [nI_toInt (by omega)]; omega⟩ n1
  · rcases h2 with ⟨n2, rfl⟩ | ⟨y', r'', e1, e2, y2, r2, hq⟩
    · exact absurd ⟨⟨by rw [nI_toInt (by omega)]; omega, by rw [nI_toInt (by omega)]; omega⟩, by rw [nI_toInt (by omega)]; omega, by rw [nI_toInt (by omega)]; omega⟩ n2
    · have e1 := (nI_eq (by omega) (by omega)).mp e1
      have e2 := (nI_eq (by omega) (by omega)).mp e2
      subst e1
      subst e2
      exact (hcQ_eq (hx.2.2.2.1 (y % 3) r' (Nat.mod_lt _ (by decide)) (by omega)).2 (by omega) rfl hq).symm
set_option maxRecDepth 100000 in
set_option maxHeartbeats 4000000 in
theorem law_loop {p : Program} {e : Env} {s : State} {m : MethodId} {below : List Frame} {meth : Method} {c : Code} (l : Launch) {b L : Nat} {xs : Nat → Int32} (hL : L ≤ 2560) (C0 : lw_At p s m meth c b L xs) (dC : Nat → ClassId) (dI : Nat → Nat → Nat) (cx : Nat → ClassId) (ad : Nat → Nat) (hJ : gx_J gx_N ad (fun q => s.heap.size ≤ q)) (X : cg_X code R_La 4 dC dI cx p m c s #[Value.ref b]) :
    ∀ (k j B : Nat) (a : ab_S) (σ : gx_M), L + 5 ≤ j + 5 * k → j ≤ 2565 → B ≤ j → ab_I B a → xr σ a → mr σ a → ∀ (H : Heap) (locs : List Loc) (ls : Array Slot), cg_P dC dI cx ad σ H → va_S (fun q => s.heap.size ≤ q) s.heap H locs → lv_has ls 4 [(3, .int (nI j)), (0, .ref b), (1, .ref (ad 0)), (2, .ref (ad 224))] → W p l e room_1 s m #[Value.ref b] below meth c H locs 600000 7302250 (lw_Z below #[Value.ref b] s) (F0 m 18 ls []) := by
  obtain ⟨c1, c2, c3, c4, c5, c6, hX, hbl, c9, c10⟩ := C0
  have hbA : ¬ s.heap.size ≤ b := Nat.not_le.mpr hbl
  have hJ0 := gx_J_own hJ
  intro k
  induction k with
  | zero =>
    intro j B a σ hjk hj hBj I hx hm H locs ls hP hS hl
    refine lv_iload_n X.1 X.2.1 d_La_law_18 rfl (lv_at hl 0 rfl) ?_
    refine lv_aload_n X.1 X.2.1 d_La_law_19 rfl (lv_at hl 1 rfl) ?_
    refine va_slen X.1 X.2.1 hX hbl hbA hS d_La_law_20 ?_
    refine lv_iconst (v := nI 5) X.1 X.2.1 d_La_law_21 (by decide) ?_
    refine lv_isub X.1 X.2.1 d_La_law_22 ?_
    refine lv_icmp_gt X.1 X.2.1 (tgt := 783) d_La_law_23 (by decide) (fun _ => ?_) (fun h23 => absurd ((lw_gt hL hj).mpr (by omega)) h23)
    refine va_forget (fun q hq => hS.2.2 q hq) ?_
    refine lv_iconst (v := 1) X.1 X.2.1 d_La_law_783 (by decide) ?_
    exact lw_ret c1 c2 c3 c9 d_La_law_784
  | succ k ih =>
    intro j B a σ hjk hj hBj I hx hm H locs ls hP hS hl
    refine lv_iload_n X.1 X.2.1 d_La_law_18 rfl (lv_at hl 0 rfl) ?_
    refine lv_aload_n X.1 X.2.1 d_La_law_19 rfl (lv_at hl 1 rfl) ?_
    refine va_slen X.1 X.2.1 hX hbl hbA hS d_La_law_20 ?_
    refine lv_iconst (v := nI 5) X.1 X.2.1 d_La_law_21 (by decide) ?_
    refine lv_isub X.1 X.2.1 d_La_law_22 ?_
    refine lv_icmp_gt X.1 X.2.1 (tgt := 783) d_La_law_23 (by decide) (fun _ => ?_) (fun h23 => ?_)
    · skip
      refine va_forget (fun q hq => hS.2.2 q hq) ?_
      refine lv_iconst (v := 1) X.1 X.2.1 d_La_law_783 (by decide) ?_
      exact lw_ret c1 c2 c3 c9 d_La_law_784
    have hjL : j + 5 ≤ L := by
      have := mt (lw_gt hL hj).mpr h23
      omega
    have hB : B + 3 < 2 ^ 30 := by omega
    have hw := ab_W_of I (by omega)
    have hv := ab_V_of I
    refine lv_aload_n X.1 X.2.1 d_La_law_26 rfl (lv_at hl 1 rfl) ?_
    refine lv_iload_n X.1 X.2.1 d_La_law_27 rfl (lv_at hl 0 rfl) ?_
    refine va_sld X.1 X.2.1 hX hbl hbA hS (vp_in_nI (by omega) (by omega)) d_La_law_28 ?_
    rw [nI_clamp (by omega)]
    refine lv_bipush (v := nI 31) X.1 X.2.1 d_La_law_29 (by decide) ?_
    refine lv_iand X.1 X.2.1 d_La_law_31 ?_
    obtain ⟨kk, hkk, ek⟩ := lw_and (xs j)
    rw [ek]
    have hdf : 20 ≤ kk ∨ kk = 0 ∨ kk = 1 ∨ kk = 2 ∨ kk = 3 ∨ kk = 4 ∨ kk = 5 ∨ kk = 6 ∨ kk = 7 ∨ kk = 8 ∨ kk = 9 ∨ kk = 10 ∨ kk = 11 ∨ kk = 12 ∨ kk = 13 ∨ kk = 14 ∨ kk = 15 ∨ kk = 16 ∨ kk = 17 ∨ kk = 18 ∨ kk = 19 := by omega
    rcases hdf with hd | rfl | rfl | rfl | rfl | rfl | rfl | rfl | rfl | rfl | rfl | rfl | rfl | rfl | rfl | rfl | rfl | rfl | rfl | rfl | rfl
    · skip
      refine lv_tableOut (tgt := 777) X.1 X.2.1 d_La_law_32 (Or.inr (by rw [nI_toInt (by omega)]; omega)) (by decide) ?_
      refine lv_iinc (k := 0) (v := nI (j + 5)) X.1 X.2.1 d_La_law_777 hl rfl (nI_add _ _) (by decide) rfl (fun ls hl => ?_)
      have hl : lv_has ls 4 [(3, .int (nI (j + 5))), (0, .ref b), (1, .ref (ad 0)), (2, .ref (ad 224))] := hl
      refine lv_goto (tgt := 18) X.1 X.2.1 d_La_law_780 (by decide) ?_
      exact ih (j + 5) B a σ (by omega) (by omega) (by omega) I hx hm H locs ls hP hS (lv_sub hl [0, 1, 2, 3] rfl)
    · skip
      refine lv_tableIn (x := nI 0) (tgt := 128) X.1 X.2.1 d_La_law_32 (by decide) (by decide) (off := 96) (by decide) (by decide) ?_
      refine lv_aload_n X.1 X.2.1 d_La_law_128 rfl (lv_at hl 2 rfl) ?_
      refine cv_La_13 (rest := []) X hJ hP hS (by decide) (ec_CG _) (K_CG_opn l dC dI cx ad hJ0 _ a B I hB hx) rfl rfl (by decide) hl.1 (Nat.le_of_ble_eq_true rfl) ⟨Nat.le_refl _, Nat.le_refl _⟩ d_La_law_129 (fun r σ' H locs hq hP hS => ?_)
      obtain ⟨rfl, q1, q2⟩ := hq
      refine lv_aload_n X.1 X.2.1 d_La_law_132 rfl (lv_at hl 3 rfl) ?_
      refine cv_La_17 (rest := [.int (Int32.ofInt (ab_open a).1)]) X hJ hP hS (by decide) (ec_Mo_0 _) (K_Mo_opn l dC dI cx ad hJ0 σ' a B I hB (mr_of hm q2)) rfl rfl (by decide) hl.1 (Nat.le_of_ble_eq_true rfl) ⟨Nat.le_refl _, Nat.le_refl _⟩ d_La_law_133 (fun r υ H locs hq hP hS => ?_)
      obtain ⟨rfl, w1, w2⟩ := hq
      refine lv_icmp_eq X.1 X.2.1 (tgt := 777) d_La_law_136 (by decide) (fun h136 => ?_) (fun h136 => absurd rfl h136)
      refine lv_iinc (k := 0) (v := nI (j + 5)) X.1 X.2.1 d_La_law_777 hl rfl (nI_add _ _) (by decide) rfl (fun ls hl => ?_)
      have hl : lv_has ls 4 [(3, .int (nI (j + 5))), (0, .ref b), (1, .ref (ad 0)), (2, .ref (ad 224))] := hl
      refine lv_goto (tgt := 18) X.1 X.2.1 d_La_law_780 (by decide) ?_
      exact ih (j + 5) B (ab_open a).2 υ (by omega) (by omega) (by omega) (ab_I_open I) (xr_of q1 w2) w1 H locs ls hP hS (lv_sub hl [0, 1, 2, 3] rfl)
    · skip
      refine lv_tableIn (x := nI 1) (tgt := 141) X.1 X.2.1 d_La_law_32 (by decide) (by decide) (off := 109) (by decide) (by decide) ?_
      refine lv_aload_n X.1 X.2.1 d_La_law_141 rfl (lv_at hl 2 rfl) ?_
      refine lv_aload_n X.1 X.2.1 d_La_law_142 rfl (lv_at hl 1 rfl) ?_
      refine lv_iload_n X.1 X.2.1 d_La_law_143 rfl (lv_at hl 0 rfl) ?_
      refine lv_iconst (v := nI 1) X.1 X.2.1 d_La_law_144 (by decide) ?_
      refine gx_iadd X.1 X.2.1 d_La_law_145 ?_
      refine va_sld X.1 X.2.1 hX hbl hbA hS (vp_in_nI (by omega) (by omega)) d_La_law_146 ?_
      rw [nI_clamp (by omega)]
      refine lv_aload_n X.1 X.2.1 d_La_law_147 rfl (lv_at hl 1 rfl) ?_
      refine lv_iload_n X.1 X.2.1 d_La_law_148 rfl (lv_at hl 0 rfl) ?_
      refine lv_iconst (v := nI 2) X.1 X.2.1 d_La_law_149 (by decide) ?_
      refine gx_iadd X.1 X.2.1 d_La_law_150 ?_
      refine va_sld X.1 X.2.1 hX hbl hbA hS (vp_in_nI (by omega) (by omega)) d_La_law_151 ?_
      rw [nI_clamp (by omega)]
      refine lv_aload_n X.1 X.2.1 d_La_law_152 rfl (lv_at hl 1 rfl) ?_
      refine lv_iload_n X.1 X.2.1 d_La_law_153 rfl (lv_at hl 0 rfl) ?_
      refine lv_iconst (v := nI 3) X.1 X.2.1 d_La_law_154 (by decide) ?_
      refine gx_iadd X.1 X.2.1 d_La_law_155 ?_
      refine va_sld X.1 X.2.1 hX hbl hbA hS (vp_in_nI (by omega) (by omega)) d_La_law_156 ?_
      rw [nI_clamp (by omega)]
      refine lv_aload_n X.1 X.2.1 d_La_law_157 rfl (lv_at hl 1 rfl) ?_
      refine lv_iload_n X.1 X.2.1 d_La_law_158 rfl (lv_at hl 0 rfl) ?_
      refine lv_iconst (v := nI 4) X.1 X.2.1 d_La_law_159 (by decide) ?_
      refine gx_iadd X.1 X.2.1 d_La_law_160 ?_
      refine va_sld X.1 X.2.1 hX hbl hbA hS (vp_in_nI (by omega) (by omega)) d_La_law_161 ?_
      rw [nI_clamp (by omega)]
      obtain ⟨v, -, ev⟩ := gx_surj (xs (j + 4))
      rw [ev]
      refine cv_La_18 (rest := []) X hJ hP hS (by decide) (ec_CG _) (K_CG_touch l dC dI cx ad hJ0 _ a B (xs (j + 1)) (xs (j + 2)) (xs (j + 3)) v I hB hx) rfl rfl (by decide) hl.1 (Nat.le_of_ble_eq_true rfl) ⟨Nat.le_refl _, Nat.le_refl _⟩ d_La_law_162 (fun r σ' H locs hq hP hS => ?_)
      obtain ⟨rfl, q1, q2⟩ := hq
      refine lv_aload_n X.1 X.2.1 d_La_law_165 rfl (lv_at hl 3 rfl) ?_
      refine lv_aload_n X.1 X.2.1 d_La_law_166 rfl (lv_at hl 1 rfl) ?_
      refine lv_iload_n X.1 X.2.1 d_La_law_167 rfl (lv_at hl 0 rfl) ?_
      refine lv_iconst (v := nI 1) X.1 X.2.1 d_La_law_168 (by decide) ?_
      refine gx_iadd X.1 X.2.1 d_La_law_169 ?_
      refine va_sld X.1 X.2.1 hX hbl hbA hS (vp_in_nI (by omega) (by omega)) d_La_law_170 ?_
      rw [nI_clamp (by omega)]
      refine lv_aload_n X.1 X.2.1 d_La_law_171 rfl (lv_at hl 1 rfl) ?_
      refine lv_iload_n X.1 X.2.1 d_La_law_172 rfl (lv_at hl 0 rfl) ?_
      refine lv_iconst (v := nI 2) X.1 X.2.1 d_La_law_173 (by decide) ?_
      refine gx_iadd X.1 X.2.1 d_La_law_174 ?_
      refine va_sld X.1 X.2.1 hX hbl hbA hS (vp_in_nI (by omega) (by omega)) d_La_law_175 ?_
      rw [nI_clamp (by omega)]
      refine lv_aload_n X.1 X.2.1 d_La_law_176 rfl (lv_at hl 1 rfl) ?_
      refine lv_iload_n X.1 X.2.1 d_La_law_177 rfl (lv_at hl 0 rfl) ?_
      refine lv_iconst (v := nI 3) X.1 X.2.1 d_La_law_178 (by decide) ?_
      refine gx_iadd X.1 X.2.1 d_La_law_179 ?_
      refine va_sld X.1 X.2.1 hX hbl hbA hS (vp_in_nI (by omega) (by omega)) d_La_law_180 ?_
      rw [nI_clamp (by omega)]
      refine lv_aload_n X.1 X.2.1 d_La_law_181 rfl (lv_at hl 1 rfl) ?_
      refine lv_iload_n X.1 X.2.1 d_La_law_182 rfl (lv_at hl 0 rfl) ?_
      refine lv_iconst (v := nI 4) X.1 X.2.1 d_La_law_183 (by decide) ?_
      refine gx_iadd X.1 X.2.1 d_La_law_184 ?_
      refine va_sld X.1 X.2.1 hX hbl hbA hS (vp_in_nI (by omega) (by omega)) d_La_law_185 ?_
      rw [nI_clamp (by omega)]
      rw [ev]
      refine cv_La_22 (rest := [.int (nI (xb (ab_touch a (xs (j + 1)).toInt (xs (j + 2)).toInt (xs (j + 3)).toInt v).1))]) X hJ hP hS (by decide) (ec_Mo_0 _) (K_Mo_touch l dC dI cx ad hJ0 σ' a B (xs (j + 1)) (xs (j + 2)) (xs (j + 3)) v I hB (mr_of hm q2)) rfl rfl (by decide) hl.1 (Nat.le_of_ble_eq_true rfl) ⟨Nat.le_refl _, Nat.le_refl _⟩ d_La_law_186 (fun r υ H locs hq hP hS => ?_)
      obtain ⟨rfl, w1, w2⟩ := hq
      refine lv_icmp_eq X.1 X.2.1 (tgt := 777) d_La_law_189 (by decide) (fun h189 => ?_) (fun h189 => absurd rfl h189)
      refine lv_iinc (k := 0) (v := nI (j + 5)) X.1 X.2.1 d_La_law_777 hl rfl (nI_add _ _) (by decide) rfl (fun ls hl => ?_)
      have hl : lv_has ls 4 [(3, .int (nI (j + 5))), (0, .ref b), (1, .ref (ad 0)), (2, .ref (ad 224))] := hl
      refine lv_goto (tgt := 18) X.1 X.2.1 d_La_law_780 (by decide) ?_
      exact ih (j + 5) B (ab_touch a (xs (j + 1)).toInt (xs (j + 2)).toInt (xs (j + 3)).toInt v).2 υ (by omega) (by omega) (by omega) (ab_I_touch I _ _ _ _) (xr_of q1 w2) w1 H locs ls hP hS (lv_sub hl [0, 1, 2, 3] rfl)
    · skip
      refine lv_tableIn (x := nI 2) (tgt := 194) X.1 X.2.1 d_La_law_32 (by decide) (by decide) (off := 162) (by decide) (by decide) ?_
      refine lv_aload_n X.1 X.2.1 d_La_law_194 rfl (lv_at hl 2 rfl) ?_
      refine lv_aload_n X.1 X.2.1 d_La_law_195 rfl (lv_at hl 1 rfl) ?_
      refine lv_iload_n X.1 X.2.1 d_La_law_196 rfl (lv_at hl 0 rfl) ?_
      refine lv_iconst (v := nI 1) X.1 X.2.1 d_La_law_197 (by decide) ?_
      refine gx_iadd X.1 X.2.1 d_La_law_198 ?_
      refine va_sld X.1 X.2.1 hX hbl hbA hS (vp_in_nI (by omega) (by omega)) d_La_law_199 ?_
      rw [nI_clamp (by omega)]
      refine lv_aload_n X.1 X.2.1 d_La_law_200 rfl (lv_at hl 1 rfl) ?_
      refine lv_iload_n X.1 X.2.1 d_La_law_201 rfl (lv_at hl 0 rfl) ?_
      refine lv_iconst (v := nI 2) X.1 X.2.1 d_La_law_202 (by decide) ?_
      refine gx_iadd X.1 X.2.1 d_La_law_203 ?_
      refine va_sld X.1 X.2.1 hX hbl hbA hS (vp_in_nI (by omega) (by omega)) d_La_law_204 ?_
      rw [nI_clamp (by omega)]
      refine lv_aload_n X.1 X.2.1 d_La_law_205 rfl (lv_at hl 1 rfl) ?_
      refine lv_iload_n X.1 X.2.1 d_La_law_206 rfl (lv_at hl 0 rfl) ?_
      refine lv_iconst (v := nI 3) X.1 X.2.1 d_La_law_207 (by decide) ?_
      refine gx_iadd X.1 X.2.1 d_La_law_208 ?_
      refine va_sld X.1 X.2.1 hX hbl hbA hS (vp_in_nI (by omega) (by omega)) d_La_law_209 ?_
      rw [nI_clamp (by omega)]
      refine lv_if_eq X.1 X.2.1 (tgt := 217) d_La_law_210 (by decide) (fun h210 => ?_) (fun h210 => ?_)
      · skip
        refine lv_iconst (v := nI 0) X.1 X.2.1 d_La_law_217 (by decide) ?_
        refine cv_La_23 (rest := []) X hJ hP hS (by decide) (ec_CG _) (K_CG_prepare l dC dI cx ad hJ0 _ a B (xs (j + 1)) (xs (j + 2)) false I hB hx) rfl rfl (by decide) hl.1 (Nat.le_of_ble_eq_true rfl) ⟨Nat.le_refl _, Nat.le_refl _⟩ d_La_law_218 (fun r σ' H locs hq hP hS => ?_)
        obtain ⟨rfl, q1, q2⟩ := hq
        refine lv_aload_n X.1 X.2.1 d_La_law_221 rfl (lv_at hl 3 rfl) ?_
        refine lv_aload_n X.1 X.2.1 d_La_law_222 rfl (lv_at hl 1 rfl) ?_
        refine lv_iload_n X.1 X.2.1 d_La_law_223 rfl (lv_at hl 0 rfl) ?_
        refine lv_iconst (v := nI 1) X.1 X.2.1 d_La_law_224 (by decide) ?_
        refine gx_iadd X.1 X.2.1 d_La_law_225 ?_
        refine va_sld X.1 X.2.1 hX hbl hbA hS (vp_in_nI (by omega) (by omega)) d_La_law_226 ?_
        rw [nI_clamp (by omega)]
        refine lv_aload_n X.1 X.2.1 d_La_law_227 rfl (lv_at hl 1 rfl) ?_
        refine lv_iload_n X.1 X.2.1 d_La_law_228 rfl (lv_at hl 0 rfl) ?_
        refine lv_iconst (v := nI 2) X.1 X.2.1 d_La_law_229 (by decide) ?_
        refine gx_iadd X.1 X.2.1 d_La_law_230 ?_
        refine va_sld X.1 X.2.1 hX hbl hbA hS (vp_in_nI (by omega) (by omega)) d_La_law_231 ?_
        rw [nI_clamp (by omega)]
        refine lv_aload_n X.1 X.2.1 d_La_law_232 rfl (lv_at hl 1 rfl) ?_
        refine lv_iload_n X.1 X.2.1 d_La_law_233 rfl (lv_at hl 0 rfl) ?_
        refine lv_iconst (v := nI 3) X.1 X.2.1 d_La_law_234 (by decide) ?_
        refine gx_iadd X.1 X.2.1 d_La_law_235 ?_
        refine va_sld X.1 X.2.1 hX hbl hbA hS (vp_in_nI (by omega) (by omega)) d_La_law_236 ?_
        rw [nI_clamp (by omega)]
        refine lv_if_eq X.1 X.2.1 (tgt := 244) d_La_law_237 (by decide) (fun h237 => ?_) (fun h237 => absurd h210 h237)
        refine lv_iconst (v := nI 0) X.1 X.2.1 d_La_law_244 (by decide) ?_
        refine cv_La_27 (rest := [.int (Int32.ofInt (ab_prepare a (xs (j + 1)).toInt (xs (j + 2)).toInt false).1)]) X hJ hP hS (by decide) (ec_Mo_0 _) (K_Mo_prepare l dC dI cx ad hJ0 σ' a B (xs (j + 1)) (xs (j + 2)) false I hB (mr_of hm q2)) rfl rfl (by decide) hl.1 (Nat.le_of_ble_eq_true rfl) ⟨Nat.le_refl _, Nat.le_refl _⟩ d_La_law_245 (fun r υ H locs hq hP hS => ?_)
        obtain ⟨rfl, w1, w2⟩ := hq
        refine lv_icmp_eq X.1 X.2.1 (tgt := 777) d_La_law_248 (by decide) (fun h248 => ?_) (fun h248 => absurd rfl h248)
        refine lv_iinc (k := 0) (v := nI (j + 5)) X.1 X.2.1 d_La_law_777 hl rfl (nI_add _ _) (by decide) rfl (fun ls hl => ?_)
        have hl : lv_has ls 4 [(3, .int (nI (j + 5))), (0, .ref b), (1, .ref (ad 0)), (2, .ref (ad 224))] := hl
        refine lv_goto (tgt := 18) X.1 X.2.1 d_La_law_780 (by decide) ?_
        exact ih (j + 5) B (ab_prepare a (xs (j + 1)).toInt (xs (j + 2)).toInt false).2 υ (by omega) (by omega) (by omega) (ab_I_prepare I _ _ _) (xr_of q1 w2) w1 H locs ls hP hS (lv_sub hl [0, 1, 2, 3] rfl)
      · skip
        refine lv_iconst (v := nI 1) X.1 X.2.1 d_La_law_213 (by decide) ?_
        refine lv_goto (tgt := 218) X.1 X.2.1 d_La_law_214 (by decide) ?_
        refine cv_La_23 (rest := []) X hJ hP hS (by decide) (ec_CG _) (K_CG_prepare l dC dI cx ad hJ0 _ a B (xs (j + 1)) (xs (j + 2)) true I hB hx) rfl rfl (by decide) hl.1 (Nat.le_of_ble_eq_true rfl) ⟨Nat.le_refl _, Nat.le_refl _⟩ d_La_law_218 (fun r σ' H locs hq hP hS => ?_)
        obtain ⟨rfl, q1, q2⟩ := hq
        refine lv_aload_n X.1 X.2.1 d_La_law_221 rfl (lv_at hl 3 rfl) ?_
        refine lv_aload_n X.1 X.2.1 d_La_law_222 rfl (lv_at hl 1 rfl) ?_
        refine lv_iload_n X.1 X.2.1 d_La_law_223 rfl (lv_at hl 0 rfl) ?_
        refine lv_iconst (v := nI 1) X.1 X.2.1 d_La_law_224 (by decide) ?_
        refine gx_iadd X.1 X.2.1 d_La_law_225 ?_
        refine va_sld X.1 X.2.1 hX hbl hbA hS (vp_in_nI (by omega) (by omega)) d_La_law_226 ?_
        rw [nI_clamp (by omega)]
        refine lv_aload_n X.1 X.2.1 d_La_law_227 rfl (lv_at hl 1 rfl) ?_
        refine lv_iload_n X.1 X.2.1 d_La_law_228 rfl (lv_at hl 0 rfl) ?_
        refine lv_iconst (v := nI 2) X.1 X.2.1 d_La_law_229 (by decide) ?_
        refine gx_iadd X.1 X.2.1 d_La_law_230 ?_
        refine va_sld X.1 X.2.1 hX hbl hbA hS (vp_in_nI (by omega) (by omega)) d_La_law_231 ?_
        rw [nI_clamp (by omega)]
        refine lv_aload_n X.1 X.2.1 d_La_law_232 rfl (lv_at hl 1 rfl) ?_
        refine lv_iload_n X.1 X.2.1 d_La_law_233 rfl (lv_at hl 0 rfl) ?_
        refine lv_iconst (v := nI 3) X.1 X.2.1 d_La_law_234 (by decide) ?_
        refine gx_iadd X.1 X.2.1 d_La_law_235 ?_
        refine va_sld X.1 X.2.1 hX hbl hbA hS (vp_in_nI (by omega) (by omega)) d_La_law_236 ?_
        rw [nI_clamp (by omega)]
        refine lv_if_eq X.1 X.2.1 (tgt := 244) d_La_law_237 (by decide) (fun h237 => absurd h237 h210) (fun h237 => ?_)
        refine lv_iconst (v := nI 1) X.1 X.2.1 d_La_law_240 (by decide) ?_
        refine lv_goto (tgt := 245) X.1 X.2.1 d_La_law_241 (by decide) ?_
        refine cv_La_27 (rest := [.int (Int32.ofInt (ab_prepare a (xs (j + 1)).toInt (xs (j + 2)).toInt true).1)]) X hJ hP hS (by decide) (ec_Mo_0 _) (K_Mo_prepare l dC dI cx ad hJ0 σ' a B (xs (j + 1)) (xs (j + 2)) true I hB (mr_of hm q2)) rfl rfl (by decide) hl.1 (Nat.le_of_ble_eq_true rfl) ⟨Nat.le_refl _, Nat.le_refl _⟩ d_La_law_245 (fun r υ H locs hq hP hS => ?_)
        obtain ⟨rfl, w1, w2⟩ := hq
        refine lv_icmp_eq X.1 X.2.1 (tgt := 777) d_La_law_248 (by decide) (fun h248 => ?_) (fun h248 => absurd rfl h248)
        refine lv_iinc (k := 0) (v := nI (j + 5)) X.1 X.2.1 d_La_law_777 hl rfl (nI_add _ _) (by decide) rfl (fun ls hl => ?_)
        have hl : lv_has ls 4 [(3, .int (nI (j + 5))), (0, .ref b), (1, .ref (ad 0)), (2, .ref (ad 224))] := hl
        refine lv_goto (tgt := 18) X.1 X.2.1 d_La_law_780 (by decide) ?_
        exact ih (j + 5) B (ab_prepare a (xs (j + 1)).toInt (xs (j + 2)).toInt true).2 υ (by omega) (by omega) (by omega) (ab_I_prepare I _ _ _) (xr_of q1 w2) w1 H locs ls hP hS (lv_sub hl [0, 1, 2, 3] rfl)
    · skip
      refine lv_tableIn (x := nI 3) (tgt := 253) X.1 X.2.1 d_La_law_32 (by decide) (by decide) (off := 221) (by decide) (by decide) ?_
      refine lv_aload_n X.1 X.2.1 d_La_law_253 rfl (lv_at hl 2 rfl) ?_
      refine lv_aload_n X.1 X.2.1 d_La_law_254 rfl (lv_at hl 1 rfl) ?_
      refine lv_iload_n X.1 X.2.1 d_La_law_255 rfl (lv_at hl 0 rfl) ?_
      refine lv_iconst (v := nI 1) X.1 X.2.1 d_La_law_256 (by decide) ?_
      refine gx_iadd X.1 X.2.1 d_La_law_257 ?_
      refine va_sld X.1 X.2.1 hX hbl hbA hS (vp_in_nI (by omega) (by omega)) d_La_law_258 ?_
      rw [nI_clamp (by omega)]
      refine lv_aload_n X.1 X.2.1 d_La_law_259 rfl (lv_at hl 1 rfl) ?_
      refine lv_iload_n X.1 X.2.1 d_La_law_260 rfl (lv_at hl 0 rfl) ?_
      refine lv_iconst (v := nI 2) X.1 X.2.1 d_La_law_261 (by decide) ?_
      refine gx_iadd X.1 X.2.1 d_La_law_262 ?_
      refine va_sld X.1 X.2.1 hX hbl hbA hS (vp_in_nI (by omega) (by omega)) d_La_law_263 ?_
      rw [nI_clamp (by omega)]
      refine lv_if_eq X.1 X.2.1 (tgt := 271) d_La_law_264 (by decide) (fun h264 => ?_) (fun h264 => ?_)
      · skip
        refine lv_iconst (v := nI 0) X.1 X.2.1 d_La_law_271 (by decide) ?_
        refine cv_La_28 (rest := []) X hJ hP hS (by decide) (ec_CG _) (K_CG_decide l dC dI cx ad hJ0 _ a B (xs (j + 1)) false I hB hx) rfl rfl (by decide) hl.1 (Nat.le_of_ble_eq_true rfl) ⟨Nat.le_refl _, Nat.le_refl _⟩ d_La_law_272 (fun r σ' H locs hq hP hS => ?_)
        obtain ⟨rfl, q1, q2⟩ := hq
        refine lv_aload_n X.1 X.2.1 d_La_law_275 rfl (lv_at hl 3 rfl) ?_
        refine lv_aload_n X.1 X.2.1 d_La_law_276 rfl (lv_at hl 1 rfl) ?_
        refine lv_iload_n X.1 X.2.1 d_La_law_277 rfl (lv_at hl 0 rfl) ?_
        refine lv_iconst (v := nI 1) X.1 X.2.1 d_La_law_278 (by decide) ?_
        refine gx_iadd X.1 X.2.1 d_La_law_279 ?_
        refine va_sld X.1 X.2.1 hX hbl hbA hS (vp_in_nI (by omega) (by omega)) d_La_law_280 ?_
        rw [nI_clamp (by omega)]
        refine lv_aload_n X.1 X.2.1 d_La_law_281 rfl (lv_at hl 1 rfl) ?_
        refine lv_iload_n X.1 X.2.1 d_La_law_282 rfl (lv_at hl 0 rfl) ?_
        refine lv_iconst (v := nI 2) X.1 X.2.1 d_La_law_283 (by decide) ?_
        refine gx_iadd X.1 X.2.1 d_La_law_284 ?_
        refine va_sld X.1 X.2.1 hX hbl hbA hS (vp_in_nI (by omega) (by omega)) d_La_law_285 ?_
        rw [nI_clamp (by omega)]
        refine lv_if_eq X.1 X.2.1 (tgt := 293) d_La_law_286 (by decide) (fun h286 => ?_) (fun h286 => absurd h264 h286)
        refine lv_iconst (v := nI 0) X.1 X.2.1 d_La_law_293 (by decide) ?_
        refine cv_La_32 (rest := [.int (Int32.ofInt (ab_decide a (xs (j + 1)).toInt false).1)]) X hJ hP hS (by decide) (ec_Mo_0 _) (K_Mo_decide l dC dI cx ad hJ0 σ' a B (xs (j + 1)) false I hB (mr_of hm q2)) rfl rfl (by decide) hl.1 (Nat.le_of_ble_eq_true rfl) ⟨Nat.le_refl _, Nat.le_refl _⟩ d_La_law_294 (fun r υ H locs hq hP hS => ?_)
        obtain ⟨rfl, w1, w2⟩ := hq
        refine lv_icmp_eq X.1 X.2.1 (tgt := 777) d_La_law_297 (by decide) (fun h297 => ?_) (fun h297 => absurd rfl h297)
        refine lv_iinc (k := 0) (v := nI (j + 5)) X.1 X.2.1 d_La_law_777 hl rfl (nI_add _ _) (by decide) rfl (fun ls hl => ?_)
        have hl : lv_has ls 4 [(3, .int (nI (j + 5))), (0, .ref b), (1, .ref (ad 0)), (2, .ref (ad 224))] := hl
        refine lv_goto (tgt := 18) X.1 X.2.1 d_La_law_780 (by decide) ?_
        exact ih (j + 5) B (ab_decide a (xs (j + 1)).toInt false).2 υ (by omega) (by omega) (by omega) (ab_I_decide I _ _) (xr_of q1 w2) w1 H locs ls hP hS (lv_sub hl [0, 1, 2, 3] rfl)
      · skip
        refine lv_iconst (v := nI 1) X.1 X.2.1 d_La_law_267 (by decide) ?_
        refine lv_goto (tgt := 272) X.1 X.2.1 d_La_law_268 (by decide) ?_
        refine cv_La_28 (rest := []) X hJ hP hS (by decide) (ec_CG _) (K_CG_decide l dC dI cx ad hJ0 _ a B (xs (j + 1)) true I hB hx) rfl rfl (by decide) hl.1 (Nat.le_of_ble_eq_true rfl) ⟨Nat.le_refl _, Nat.le_refl _⟩ d_La_law_272 (fun r σ' H locs hq hP hS => ?_)
        obtain ⟨rfl, q1, q2⟩ := hq
        refine lv_aload_n X.1 X.2.1 d_La_law_275 rfl (lv_at hl 3 rfl) ?_
        refine lv_aload_n X.1 X.2.1 d_La_law_276 rfl (lv_at hl 1 rfl) ?_
        refine lv_iload_n X.1 X.2.1 d_La_law_277 rfl (lv_at hl 0 rfl) ?_
        refine lv_iconst (v := nI 1) X.1 X.2.1 d_La_law_278 (by decide) ?_
        refine gx_iadd X.1 X.2.1 d_La_law_279 ?_
        refine va_sld X.1 X.2.1 hX hbl hbA hS (vp_in_nI (by omega) (by omega)) d_La_law_280 ?_
        rw [nI_clamp (by omega)]
        refine lv_aload_n X.1 X.2.1 d_La_law_281 rfl (lv_at hl 1 rfl) ?_
        refine lv_iload_n X.1 X.2.1 d_La_law_282 rfl (lv_at hl 0 rfl) ?_
        refine lv_iconst (v := nI 2) X.1 X.2.1 d_La_law_283 (by decide) ?_
        refine gx_iadd X.1 X.2.1 d_La_law_284 ?_
        refine va_sld X.1 X.2.1 hX hbl hbA hS (vp_in_nI (by omega) (by omega)) d_La_law_285 ?_
        rw [nI_clamp (by omega)]
        refine lv_if_eq X.1 X.2.1 (tgt := 293) d_La_law_286 (by decide) (fun h286 => absurd h286 h264) (fun h286 => ?_)
        refine lv_iconst (v := nI 1) X.1 X.2.1 d_La_law_289 (by decide) ?_
        refine lv_goto (tgt := 294) X.1 X.2.1 d_La_law_290 (by decide) ?_
        refine cv_La_32 (rest := [.int (Int32.ofInt (ab_decide a (xs (j + 1)).toInt true).1)]) X hJ hP hS (by decide) (ec_Mo_0 _) (K_Mo_decide l dC dI cx ad hJ0 σ' a B (xs (j + 1)) true I hB (mr_of hm q2)) rfl rfl (by decide) hl.1 (Nat.le_of_ble_eq_true rfl) ⟨Nat.le_refl _, Nat.le_refl _⟩ d_La_law_294 (fun r υ H locs hq hP hS => ?_)
        obtain ⟨rfl, w1, w2⟩ := hq
        refine lv_icmp_eq X.1 X.2.1 (tgt := 777) d_La_law_297 (by decide) (fun h297 => ?_) (fun h297 => absurd rfl h297)
        refine lv_iinc (k := 0) (v := nI (j + 5)) X.1 X.2.1 d_La_law_777 hl rfl (nI_add _ _) (by decide) rfl (fun ls hl => ?_)
        have hl : lv_has ls 4 [(3, .int (nI (j + 5))), (0, .ref b), (1, .ref (ad 0)), (2, .ref (ad 224))] := hl
        refine lv_goto (tgt := 18) X.1 X.2.1 d_La_law_780 (by decide) ?_
        exact ih (j + 5) B (ab_decide a (xs (j + 1)).toInt true).2 υ (by omega) (by omega) (by omega) (ab_I_decide I _ _) (xr_of q1 w2) w1 H locs ls hP hS (lv_sub hl [0, 1, 2, 3] rfl)
    · skip
      refine lv_tableIn (x := nI 4) (tgt := 302) X.1 X.2.1 d_La_law_32 (by decide) (by decide) (off := 270) (by decide) (by decide) ?_
      refine lv_aload_n X.1 X.2.1 d_La_law_302 rfl (lv_at hl 2 rfl) ?_
      refine lv_aload_n X.1 X.2.1 d_La_law_303 rfl (lv_at hl 1 rfl) ?_
      refine lv_iload_n X.1 X.2.1 d_La_law_304 rfl (lv_at hl 0 rfl) ?_
      refine lv_iconst (v := nI 1) X.1 X.2.1 d_La_law_305 (by decide) ?_
      refine gx_iadd X.1 X.2.1 d_La_law_306 ?_
      refine va_sld X.1 X.2.1 hX hbl hbA hS (vp_in_nI (by omega) (by omega)) d_La_law_307 ?_
      rw [nI_clamp (by omega)]
      refine lv_aload_n X.1 X.2.1 d_La_law_308 rfl (lv_at hl 1 rfl) ?_
      refine lv_iload_n X.1 X.2.1 d_La_law_309 rfl (lv_at hl 0 rfl) ?_
      refine lv_iconst (v := nI 2) X.1 X.2.1 d_La_law_310 (by decide) ?_
      refine gx_iadd X.1 X.2.1 d_La_law_311 ?_
      refine va_sld X.1 X.2.1 hX hbl hbA hS (vp_in_nI (by omega) (by omega)) d_La_law_312 ?_
      rw [nI_clamp (by omega)]
      refine lv_if_eq X.1 X.2.1 (tgt := 320) d_La_law_313 (by decide) (fun h313 => ?_) (fun h313 => ?_)
      · skip
        refine lv_iconst (v := nI 0) X.1 X.2.1 d_La_law_320 (by decide) ?_
        refine cv_La_33 (rest := []) X hJ hP hS (by decide) (ec_CG _) (K_CG_timeout l dC dI cx ad hJ0 _ a B (xs (j + 1)) false I hB hx) rfl rfl (by decide) hl.1 (Nat.le_of_ble_eq_true rfl) ⟨Nat.le_refl _, Nat.le_refl _⟩ d_La_law_321 (fun r σ' H locs hq hP hS => ?_)
        obtain ⟨rfl, q1, q2⟩ := hq
        refine lv_aload_n X.1 X.2.1 d_La_law_324 rfl (lv_at hl 3 rfl) ?_
        refine lv_aload_n X.1 X.2.1 d_La_law_325 rfl (lv_at hl 1 rfl) ?_
        refine lv_iload_n X.1 X.2.1 d_La_law_326 rfl (lv_at hl 0 rfl) ?_
        refine lv_iconst (v := nI 1) X.1 X.2.1 d_La_law_327 (by decide) ?_
        refine gx_iadd X.1 X.2.1 d_La_law_328 ?_
        refine va_sld X.1 X.2.1 hX hbl hbA hS (vp_in_nI (by omega) (by omega)) d_La_law_329 ?_
        rw [nI_clamp (by omega)]
        refine lv_aload_n X.1 X.2.1 d_La_law_330 rfl (lv_at hl 1 rfl) ?_
        refine lv_iload_n X.1 X.2.1 d_La_law_331 rfl (lv_at hl 0 rfl) ?_
        refine lv_iconst (v := nI 2) X.1 X.2.1 d_La_law_332 (by decide) ?_
        refine gx_iadd X.1 X.2.1 d_La_law_333 ?_
        refine va_sld X.1 X.2.1 hX hbl hbA hS (vp_in_nI (by omega) (by omega)) d_La_law_334 ?_
        rw [nI_clamp (by omega)]
        refine lv_if_eq X.1 X.2.1 (tgt := 342) d_La_law_335 (by decide) (fun h335 => ?_) (fun h335 => absurd h313 h335)
        refine lv_iconst (v := nI 0) X.1 X.2.1 d_La_law_342 (by decide) ?_
        refine cv_La_36 (rest := [.int (Int32.ofInt (ab_timeout a (xs (j + 1)).toInt false).1)]) X hJ hP hS (by decide) (ec_Mo_0 _) (K_Mo_timeout l dC dI cx ad hJ0 σ' a B (xs (j + 1)) false I hB (mr_of hm q2)) rfl rfl (by decide) hl.1 (Nat.le_of_ble_eq_true rfl) ⟨Nat.le_refl _, Nat.le_refl _⟩ d_La_law_343 (fun r υ H locs hq hP hS => ?_)
        obtain ⟨rfl, w1, w2⟩ := hq
        refine lv_icmp_eq X.1 X.2.1 (tgt := 777) d_La_law_346 (by decide) (fun h346 => ?_) (fun h346 => absurd rfl h346)
        refine lv_iinc (k := 0) (v := nI (j + 5)) X.1 X.2.1 d_La_law_777 hl rfl (nI_add _ _) (by decide) rfl (fun ls hl => ?_)
        have hl : lv_has ls 4 [(3, .int (nI (j + 5))), (0, .ref b), (1, .ref (ad 0)), (2, .ref (ad 224))] := hl
        refine lv_goto (tgt := 18) X.1 X.2.1 d_La_law_780 (by decide) ?_
        exact ih (j + 5) B (ab_timeout a (xs (j + 1)).toInt false).2 υ (by omega) (by omega) (by omega) (ab_I_timeout I _ _) (xr_of q1 w2) w1 H locs ls hP hS (lv_sub hl [0, 1, 2, 3] rfl)
      · skip
        refine lv_iconst (v := nI 1) X.1 X.2.1 d_La_law_316 (by decide) ?_
        refine lv_goto (tgt := 321) X.1 X.2.1 d_La_law_317 (by decide) ?_
        refine cv_La_33 (rest := []) X hJ hP hS (by decide) (ec_CG _) (K_CG_timeout l dC dI cx ad hJ0 _ a B (xs (j + 1)) true I hB hx) rfl rfl (by decide) hl.1 (Nat.le_of_ble_eq_true rfl) ⟨Nat.le_refl _, Nat.le_refl _⟩ d_La_law_321 (fun r σ' H locs hq hP hS => ?_)
        obtain ⟨rfl, q1, q2⟩ := hq
        refine lv_aload_n X.1 X.2.1 d_La_law_324 rfl (lv_at hl 3 rfl) ?_
        refine lv_aload_n X.1 X.2.1 d_La_law_325 rfl (lv_at hl 1 rfl) ?_
        refine lv_iload_n X.1 X.2.1 d_La_law_326 rfl (lv_at hl 0 rfl) ?_
        refine lv_iconst (v := nI 1) X.1 X.2.1 d_La_law_327 (by decide) ?_
        refine gx_iadd X.1 X.2.1 d_La_law_328 ?_
        refine va_sld X.1 X.2.1 hX hbl hbA hS (vp_in_nI (by omega) (by omega)) d_La_law_329 ?_
        rw [nI_clamp (by omega)]
        refine lv_aload_n X.1 X.2.1 d_La_law_330 rfl (lv_at hl 1 rfl) ?_
        refine lv_iload_n X.1 X.2.1 d_La_law_331 rfl (lv_at hl 0 rfl) ?_
        refine lv_iconst (v := nI 2) X.1 X.2.1 d_La_law_332 (by decide) ?_
        refine gx_iadd X.1 X.2.1 d_La_law_333 ?_
        refine va_sld X.1 X.2.1 hX hbl hbA hS (vp_in_nI (by omega) (by omega)) d_La_law_334 ?_
        rw [nI_clamp (by omega)]
        refine lv_if_eq X.1 X.2.1 (tgt := 342) d_La_law_335 (by decide) (fun h335 => absurd h335 h313) (fun h335 => ?_)
        refine lv_iconst (v := nI 1) X.1 X.2.1 d_La_law_338 (by decide) ?_
        refine lv_goto (tgt := 343) X.1 X.2.1 d_La_law_339 (by decide) ?_
        refine cv_La_36 (rest := [.int (Int32.ofInt (ab_timeout a (xs (j + 1)).toInt true).1)]) X hJ hP hS (by decide) (ec_Mo_0 _) (K_Mo_timeout l dC dI cx ad hJ0 σ' a B (xs (j + 1)) true I hB (mr_of hm q2)) rfl rfl (by decide) hl.1 (Nat.le_of_ble_eq_true rfl) ⟨Nat.le_refl _, Nat.le_refl _⟩ d_La_law_343 (fun r υ H locs hq hP hS => ?_)
        obtain ⟨rfl, w1, w2⟩ := hq
        refine lv_icmp_eq X.1 X.2.1 (tgt := 777) d_La_law_346 (by decide) (fun h346 => ?_) (fun h346 => absurd rfl h346)
        refine lv_iinc (k := 0) (v := nI (j + 5)) X.1 X.2.1 d_La_law_777 hl rfl (nI_add _ _) (by decide) rfl (fun ls hl => ?_)
        have hl : lv_has ls 4 [(3, .int (nI (j + 5))), (0, .ref b), (1, .ref (ad 0)), (2, .ref (ad 224))] := hl
        refine lv_goto (tgt := 18) X.1 X.2.1 d_La_law_780 (by decide) ?_
        exact ih (j + 5) B (ab_timeout a (xs (j + 1)).toInt true).2 υ (by omega) (by omega) (by omega) (ab_I_timeout I _ _) (xr_of q1 w2) w1 H locs ls hP hS (lv_sub hl [0, 1, 2, 3] rfl)
    · skip
      refine lv_tableIn (x := nI 5) (tgt := 351) X.1 X.2.1 d_La_law_32 (by decide) (by decide) (off := 319) (by decide) (by decide) ?_
      refine lv_aload_n X.1 X.2.1 d_La_law_351 rfl (lv_at hl 2 rfl) ?_
      refine lv_aload_n X.1 X.2.1 d_La_law_352 rfl (lv_at hl 1 rfl) ?_
      refine lv_iload_n X.1 X.2.1 d_La_law_353 rfl (lv_at hl 0 rfl) ?_
      refine lv_iconst (v := nI 1) X.1 X.2.1 d_La_law_354 (by decide) ?_
      refine gx_iadd X.1 X.2.1 d_La_law_355 ?_
      refine va_sld X.1 X.2.1 hX hbl hbA hS (vp_in_nI (by omega) (by omega)) d_La_law_356 ?_
      rw [nI_clamp (by omega)]
      refine lv_aload_n X.1 X.2.1 d_La_law_357 rfl (lv_at hl 1 rfl) ?_
      refine lv_iload_n X.1 X.2.1 d_La_law_358 rfl (lv_at hl 0 rfl) ?_
      refine lv_iconst (v := nI 2) X.1 X.2.1 d_La_law_359 (by decide) ?_
      refine gx_iadd X.1 X.2.1 d_La_law_360 ?_
      refine va_sld X.1 X.2.1 hX hbl hbA hS (vp_in_nI (by omega) (by omega)) d_La_law_361 ?_
      rw [nI_clamp (by omega)]
      refine cv_La_37 (rest := []) X hJ hP hS (by decide) (ec_CG _) (K_CG_finish l dC dI cx ad hJ0 _ a B (xs (j + 1)) (xs (j + 2)) I hB hx) rfl rfl (by decide) hl.1 (Nat.le_of_ble_eq_true rfl) ⟨Nat.le_refl _, Nat.le_refl _⟩ d_La_law_362 (fun r σ' H locs hq hP hS => ?_)
      obtain ⟨rfl, q1, q2⟩ := hq
      refine lv_aload_n X.1 X.2.1 d_La_law_365 rfl (lv_at hl 3 rfl) ?_
      refine lv_aload_n X.1 X.2.1 d_La_law_366 rfl (lv_at hl 1 rfl) ?_
      refine lv_iload_n X.1 X.2.1 d_La_law_367 rfl (lv_at hl 0 rfl) ?_
      refine lv_iconst (v := nI 1) X.1 X.2.1 d_La_law_368 (by decide) ?_
      refine gx_iadd X.1 X.2.1 d_La_law_369 ?_
      refine va_sld X.1 X.2.1 hX hbl hbA hS (vp_in_nI (by omega) (by omega)) d_La_law_370 ?_
      rw [nI_clamp (by omega)]
      refine lv_aload_n X.1 X.2.1 d_La_law_371 rfl (lv_at hl 1 rfl) ?_
      refine lv_iload_n X.1 X.2.1 d_La_law_372 rfl (lv_at hl 0 rfl) ?_
      refine lv_iconst (v := nI 2) X.1 X.2.1 d_La_law_373 (by decide) ?_
      refine gx_iadd X.1 X.2.1 d_La_law_374 ?_
      refine va_sld X.1 X.2.1 hX hbl hbA hS (vp_in_nI (by omega) (by omega)) d_La_law_375 ?_
      rw [nI_clamp (by omega)]
      refine cv_La_41 (rest := [.int (Int32.ofInt (ab_finish a (xs (j + 1)).toInt (xs (j + 2)).toInt).1)]) X hJ hP hS (by decide) (ec_Mo_0 _) (K_Mo_finish l dC dI cx ad hJ0 σ' a B (xs (j + 1)) (xs (j + 2)) I hB (mr_of hm q2)) rfl rfl (by decide) hl.1 (Nat.le_of_ble_eq_true rfl) ⟨Nat.le_refl _, Nat.le_refl _⟩ d_La_law_376 (fun r υ H locs hq hP hS => ?_)
      obtain ⟨rfl, w1, w2⟩ := hq
      refine lv_icmp_eq X.1 X.2.1 (tgt := 777) d_La_law_379 (by decide) (fun h379 => ?_) (fun h379 => absurd rfl h379)
      refine lv_iinc (k := 0) (v := nI (j + 5)) X.1 X.2.1 d_La_law_777 hl rfl (nI_add _ _) (by decide) rfl (fun ls hl => ?_)
      have hl : lv_has ls 4 [(3, .int (nI (j + 5))), (0, .ref b), (1, .ref (ad 0)), (2, .ref (ad 224))] := hl
      refine lv_goto (tgt := 18) X.1 X.2.1 d_La_law_780 (by decide) ?_
      exact ih (j + 5) B (ab_finish a (xs (j + 1)).toInt (xs (j + 2)).toInt).2 υ (by omega) (by omega) (by omega) (ab_I_finish I _ _) (xr_of q1 w2) w1 H locs ls hP hS (lv_sub hl [0, 1, 2, 3] rfl)
    · skip
      refine lv_tableIn (x := nI 6) (tgt := 384) X.1 X.2.1 d_La_law_32 (by decide) (by decide) (off := 352) (by decide) (by decide) ?_
      refine lv_aload_n X.1 X.2.1 d_La_law_384 rfl (lv_at hl 2 rfl) ?_
      refine lv_aload_n X.1 X.2.1 d_La_law_385 rfl (lv_at hl 1 rfl) ?_
      refine lv_iload_n X.1 X.2.1 d_La_law_386 rfl (lv_at hl 0 rfl) ?_
      refine lv_iconst (v := nI 1) X.1 X.2.1 d_La_law_387 (by decide) ?_
      refine gx_iadd X.1 X.2.1 d_La_law_388 ?_
      refine va_sld X.1 X.2.1 hX hbl hbA hS (vp_in_nI (by omega) (by omega)) d_La_law_389 ?_
      rw [nI_clamp (by omega)]
      refine lv_aload_n X.1 X.2.1 d_La_law_390 rfl (lv_at hl 1 rfl) ?_
      refine lv_iload_n X.1 X.2.1 d_La_law_391 rfl (lv_at hl 0 rfl) ?_
      refine lv_iconst (v := nI 2) X.1 X.2.1 d_La_law_392 (by decide) ?_
      refine gx_iadd X.1 X.2.1 d_La_law_393 ?_
      refine va_sld X.1 X.2.1 hX hbl hbA hS (vp_in_nI (by omega) (by omega)) d_La_law_394 ?_
      rw [nI_clamp (by omega)]
      refine cv_La_42 (rest := []) X hJ hP hS (by decide) (ec_CG _) (K_CG_vote l dC dI cx ad hJ0 _ a (xs (j + 1)) (xs (j + 2)) hw hx) rfl rfl (by decide) hl.1 (Nat.le_of_ble_eq_true rfl) ⟨Nat.le_refl _, Nat.le_refl _⟩ d_La_law_395 (fun r σ' H locs hq hP hS => ?_)
      obtain ⟨hq0, rfl⟩ := hq
      rw [hq0] at hP
      refine lv_aload_n X.1 X.2.1 d_La_law_398 rfl (lv_at hl 3 rfl) ?_
      refine lv_aload_n X.1 X.2.1 d_La_law_399 rfl (lv_at hl 1 rfl) ?_
      refine lv_iload_n X.1 X.2.1 d_La_law_400 rfl (lv_at hl 0 rfl) ?_
      refine lv_iconst (v := nI 1) X.1 X.2.1 d_La_law_401 (by decide) ?_
      refine gx_iadd X.1 X.2.1 d_La_law_402 ?_
      refine va_sld X.1 X.2.1 hX hbl hbA hS (vp_in_nI (by omega) (by omega)) d_La_law_403 ?_
      rw [nI_clamp (by omega)]
      refine lv_aload_n X.1 X.2.1 d_La_law_404 rfl (lv_at hl 1 rfl) ?_
      refine lv_iload_n X.1 X.2.1 d_La_law_405 rfl (lv_at hl 0 rfl) ?_
      refine lv_iconst (v := nI 2) X.1 X.2.1 d_La_law_406 (by decide) ?_
      refine gx_iadd X.1 X.2.1 d_La_law_407 ?_
      refine va_sld X.1 X.2.1 hX hbl hbA hS (vp_in_nI (by omega) (by omega)) d_La_law_408 ?_
      rw [nI_clamp (by omega)]
      refine cv_La_45 (rest := [.int (nI (ab_vote a (xs (j + 1)).toInt (xs (j + 2)).toInt))]) X hJ hP hS (by decide) (ec_Mo_0 _) (K_Mo_vote l dC dI cx ad hJ0 _ a (xs (j + 1)) (xs (j + 2)) hw hm) rfl rfl (by decide) hl.1 (Nat.le_of_ble_eq_true rfl) ⟨Nat.le_refl _, Nat.le_refl _⟩ d_La_law_409 (fun r σ' H locs hq hP hS => ?_)
      obtain ⟨hq0, rfl⟩ := hq
      rw [hq0] at hP
      refine lv_icmp_eq X.1 X.2.1 (tgt := 777) d_La_law_412 (by decide) (fun h412 => ?_) (fun h412 => absurd rfl h412)
      refine lv_iinc (k := 0) (v := nI (j + 5)) X.1 X.2.1 d_La_law_777 hl rfl (nI_add _ _) (by decide) rfl (fun ls hl => ?_)
      have hl : lv_has ls 4 [(3, .int (nI (j + 5))), (0, .ref b), (1, .ref (ad 0)), (2, .ref (ad 224))] := hl
      refine lv_goto (tgt := 18) X.1 X.2.1 d_La_law_780 (by decide) ?_
      exact ih (j + 5) B a σ (by omega) (by omega) (by omega) I hx hm H locs ls hP hS (lv_sub hl [0, 1, 2, 3] rfl)
    · skip
      refine lv_tableIn (x := nI 7) (tgt := 417) X.1 X.2.1 d_La_law_32 (by decide) (by decide) (off := 385) (by decide) (by decide) ?_
      refine lv_aload_n X.1 X.2.1 d_La_law_417 rfl (lv_at hl 2 rfl) ?_
      refine lv_aload_n X.1 X.2.1 d_La_law_418 rfl (lv_at hl 1 rfl) ?_
      refine lv_iload_n X.1 X.2.1 d_La_law_419 rfl (lv_at hl 0 rfl) ?_
      refine lv_iconst (v := nI 1) X.1 X.2.1 d_La_law_420 (by decide) ?_
      refine gx_iadd X.1 X.2.1 d_La_law_421 ?_
      refine va_sld X.1 X.2.1 hX hbl hbA hS (vp_in_nI (by omega) (by omega)) d_La_law_422 ?_
      rw [nI_clamp (by omega)]
      refine cv_La_46 (rest := []) X hJ hP hS (by decide) (ec_CG _) (K_CG_outcome l dC dI cx ad hJ0 _ a (xs (j + 1)) hw hx) rfl rfl (by decide) hl.1 (Nat.le_of_ble_eq_true rfl) ⟨Nat.le_refl _, Nat.le_refl _⟩ d_La_law_423 (fun r σ' H locs hq hP hS => ?_)
      obtain ⟨hq0, rfl⟩ := hq
      rw [hq0] at hP
      refine lv_aload_n X.1 X.2.1 d_La_law_426 rfl (lv_at hl 3 rfl) ?_
      refine lv_aload_n X.1 X.2.1 d_La_law_427 rfl (lv_at hl 1 rfl) ?_
      refine lv_iload_n X.1 X.2.1 d_La_law_428 rfl (lv_at hl 0 rfl) ?_
      refine lv_iconst (v := nI 1) X.1 X.2.1 d_La_law_429 (by decide) ?_
      refine gx_iadd X.1 X.2.1 d_La_law_430 ?_
      refine va_sld X.1 X.2.1 hX hbl hbA hS (vp_in_nI (by omega) (by omega)) d_La_law_431 ?_
      rw [nI_clamp (by omega)]
      refine cv_La_50 (rest := [.int (nI (ab_outcome a (xs (j + 1)).toInt))]) X hJ hP hS (by decide) (ec_Mo_0 _) (K_Mo_outcome l dC dI cx ad hJ0 _ a (xs (j + 1)) hw hm) rfl rfl (by decide) hl.1 (Nat.le_of_ble_eq_true rfl) ⟨Nat.le_refl _, Nat.le_refl _⟩ d_La_law_432 (fun r σ' H locs hq hP hS => ?_)
      obtain ⟨hq0, rfl⟩ := hq
      rw [hq0] at hP
      refine lv_icmp_eq X.1 X.2.1 (tgt := 777) d_La_law_435 (by decide) (fun h435 => ?_) (fun h435 => absurd rfl h435)
      refine lv_iinc (k := 0) (v := nI (j + 5)) X.1 X.2.1 d_La_law_777 hl rfl (nI_add _ _) (by decide) rfl (fun ls hl => ?_)
      have hl : lv_has ls 4 [(3, .int (nI (j + 5))), (0, .ref b), (1, .ref (ad 0)), (2, .ref (ad 224))] := hl
      refine lv_goto (tgt := 18) X.1 X.2.1 d_La_law_780 (by decide) ?_
      exact ih (j + 5) B a σ (by omega) (by omega) (by omega) I hx hm H locs ls hP hS (lv_sub hl [0, 1, 2, 3] rfl)
    · skip
      refine lv_tableIn (x := nI 8) (tgt := 440) X.1 X.2.1 d_La_law_32 (by decide) (by decide) (off := 408) (by decide) (by decide) ?_
      refine lv_aload_n X.1 X.2.1 d_La_law_440 rfl (lv_at hl 2 rfl) ?_
      refine lv_aload_n X.1 X.2.1 d_La_law_441 rfl (lv_at hl 1 rfl) ?_
      refine lv_iload_n X.1 X.2.1 d_La_law_442 rfl (lv_at hl 0 rfl) ?_
      refine lv_iconst (v := nI 1) X.1 X.2.1 d_La_law_443 (by decide) ?_
      refine gx_iadd X.1 X.2.1 d_La_law_444 ?_
      refine va_sld X.1 X.2.1 hX hbl hbA hS (vp_in_nI (by omega) (by omega)) d_La_law_445 ?_
      rw [nI_clamp (by omega)]
      refine lv_aload_n X.1 X.2.1 d_La_law_446 rfl (lv_at hl 1 rfl) ?_
      refine lv_iload_n X.1 X.2.1 d_La_law_447 rfl (lv_at hl 0 rfl) ?_
      refine lv_iconst (v := nI 2) X.1 X.2.1 d_La_law_448 (by decide) ?_
      refine gx_iadd X.1 X.2.1 d_La_law_449 ?_
      refine va_sld X.1 X.2.1 hX hbl hbA hS (vp_in_nI (by omega) (by omega)) d_La_law_450 ?_
      rw [nI_clamp (by omega)]
      refine cv_La_51 (rest := []) X hJ hP hS (by decide) (ec_CG _) (K_CG_result l dC dI cx ad hJ0 _ a (xs (j + 1)) (xs (j + 2)) hw hx (fun u => ab_kd_le I u) (fun u x hx3 => ab_kv_le I hx3)) rfl rfl (by decide) hl.1 (Nat.le_of_ble_eq_true rfl) ⟨Nat.le_refl _, Nat.le_refl _⟩ d_La_law_451 (fun r σ' H locs hq hP hS => ?_)
      obtain ⟨hq0, rfl⟩ := hq
      rw [hq0] at hP
      refine lv_aload_n X.1 X.2.1 d_La_law_454 rfl (lv_at hl 3 rfl) ?_
      refine lv_aload_n X.1 X.2.1 d_La_law_455 rfl (lv_at hl 1 rfl) ?_
      refine lv_iload_n X.1 X.2.1 d_La_law_456 rfl (lv_at hl 0 rfl) ?_
      refine lv_iconst (v := nI 1) X.1 X.2.1 d_La_law_457 (by decide) ?_
      refine gx_iadd X.1 X.2.1 d_La_law_458 ?_
      refine va_sld X.1 X.2.1 hX hbl hbA hS (vp_in_nI (by omega) (by omega)) d_La_law_459 ?_
      rw [nI_clamp (by omega)]
      refine lv_aload_n X.1 X.2.1 d_La_law_460 rfl (lv_at hl 1 rfl) ?_
      refine lv_iload_n X.1 X.2.1 d_La_law_461 rfl (lv_at hl 0 rfl) ?_
      refine lv_iconst (v := nI 2) X.1 X.2.1 d_La_law_462 (by decide) ?_
      refine gx_iadd X.1 X.2.1 d_La_law_463 ?_
      refine va_sld X.1 X.2.1 hX hbl hbA hS (vp_in_nI (by omega) (by omega)) d_La_law_464 ?_
      rw [nI_clamp (by omega)]
      refine cv_La_55 (rest := [.long (ab_res a (xs (j + 1)).toInt (xs (j + 2)).toInt)]) X hJ hP hS (by decide) (ec_Mo_0 _) (K_Mo_result l dC dI cx ad hJ0 _ a B (xs (j + 1)) (xs (j + 2)) I hB hm) rfl rfl (by decide) hl.1 (Nat.le_of_ble_eq_true rfl) ⟨Nat.le_refl _, Nat.le_refl _⟩ d_La_law_465 (fun r υ H locs hq hP hS => ?_)
      obtain ⟨w1, rfl⟩ := hq
      refine W.lcmp X.1 X.2.1 d_La_law_468 ?_
      refine lv_if_eq X.1 X.2.1 (tgt := 777) d_La_law_469 (by decide) (fun h469 => ?_) (fun h469 => absurd (show lg_cmp _ _ = 0 by simp [lg_cmp, Int64.lt_irrefl]) h469)
      refine lv_iinc (k := 0) (v := nI (j + 5)) X.1 X.2.1 d_La_law_777 hl rfl (nI_add _ _) (by decide) rfl (fun ls hl => ?_)
      have hl : lv_has ls 4 [(3, .int (nI (j + 5))), (0, .ref b), (1, .ref (ad 0)), (2, .ref (ad 224))] := hl
      refine lv_goto (tgt := 18) X.1 X.2.1 d_La_law_780 (by decide) ?_
      exact ih (j + 5) B a υ (by omega) (by omega) (by omega) I (xr_of hx (mC_lo w1)) (mr_mC hm w1) H locs ls hP hS (lv_sub hl [0, 1, 2, 3] rfl)
    · skip
      refine lv_tableIn (x := nI 9) (tgt := 474) X.1 X.2.1 d_La_law_32 (by decide) (by decide) (off := 442) (by decide) (by decide) ?_
      refine lv_aload_n X.1 X.2.1 d_La_law_474 rfl (lv_at hl 2 rfl) ?_
      refine lv_aload_n X.1 X.2.1 d_La_law_475 rfl (lv_at hl 1 rfl) ?_
      refine lv_iload_n X.1 X.2.1 d_La_law_476 rfl (lv_at hl 0 rfl) ?_
      refine lv_iconst (v := nI 1) X.1 X.2.1 d_La_law_477 (by decide) ?_
      refine gx_iadd X.1 X.2.1 d_La_law_478 ?_
      refine va_sld X.1 X.2.1 hX hbl hbA hS (vp_in_nI (by omega) (by omega)) d_La_law_479 ?_
      rw [nI_clamp (by omega)]
      refine lv_aload_n X.1 X.2.1 d_La_law_480 rfl (lv_at hl 1 rfl) ?_
      refine lv_iload_n X.1 X.2.1 d_La_law_481 rfl (lv_at hl 0 rfl) ?_
      refine lv_iconst (v := nI 2) X.1 X.2.1 d_La_law_482 (by decide) ?_
      refine gx_iadd X.1 X.2.1 d_La_law_483 ?_
      refine va_sld X.1 X.2.1 hX hbl hbA hS (vp_in_nI (by omega) (by omega)) d_La_law_484 ?_
      rw [nI_clamp (by omega)]
      refine cv_La_56 (rest := []) X hJ hP hS (by decide) (ec_CG _) (K_CG_crash l dC dI cx ad hJ0 _ a (xs (j + 1)) (xs (j + 2)) hw hx) rfl rfl (by decide) hl.1 (Nat.le_of_ble_eq_true rfl) ⟨Nat.le_refl _, Nat.le_refl _⟩ d_La_law_485 (fun r σ' H locs hq hP hS => ?_)
      obtain ⟨rfl, q1, q2⟩ := hq
      refine lv_aload_n X.1 X.2.1 d_La_law_488 rfl (lv_at hl 3 rfl) ?_
      refine lv_aload_n X.1 X.2.1 d_La_law_489 rfl (lv_at hl 1 rfl) ?_
      refine lv_iload_n X.1 X.2.1 d_La_law_490 rfl (lv_at hl 0 rfl) ?_
      refine lv_iconst (v := nI 1) X.1 X.2.1 d_La_law_491 (by decide) ?_
      refine gx_iadd X.1 X.2.1 d_La_law_492 ?_
      refine va_sld X.1 X.2.1 hX hbl hbA hS (vp_in_nI (by omega) (by omega)) d_La_law_493 ?_
      rw [nI_clamp (by omega)]
      refine lv_aload_n X.1 X.2.1 d_La_law_494 rfl (lv_at hl 1 rfl) ?_
      refine lv_iload_n X.1 X.2.1 d_La_law_495 rfl (lv_at hl 0 rfl) ?_
      refine lv_iconst (v := nI 2) X.1 X.2.1 d_La_law_496 (by decide) ?_
      refine gx_iadd X.1 X.2.1 d_La_law_497 ?_
      refine va_sld X.1 X.2.1 hX hbl hbA hS (vp_in_nI (by omega) (by omega)) d_La_law_498 ?_
      rw [nI_clamp (by omega)]
      refine cv_La_60 (rest := [.int (nI (xb (ab_crash a (xs (j + 1)).toInt (xs (j + 2)).toInt).1))]) X hJ hP hS (by decide) (ec_Mo_0 _) (K_Mo_crash l dC dI cx ad hJ0 σ' a (xs (j + 1)) (xs (j + 2)) (mr_of hm q2) hw) rfl rfl (by decide) hl.1 (Nat.le_of_ble_eq_true rfl) ⟨Nat.le_refl _, Nat.le_refl _⟩ d_La_law_499 (fun r υ H locs hq hP hS => ?_)
      obtain ⟨rfl, w1, w2⟩ := hq
      refine lv_icmp_eq X.1 X.2.1 (tgt := 777) d_La_law_502 (by decide) (fun h502 => ?_) (fun h502 => absurd rfl h502)
      refine lv_iinc (k := 0) (v := nI (j + 5)) X.1 X.2.1 d_La_law_777 hl rfl (nI_add _ _) (by decide) rfl (fun ls hl => ?_)
      have hl : lv_has ls 4 [(3, .int (nI (j + 5))), (0, .ref b), (1, .ref (ad 0)), (2, .ref (ad 224))] := hl
      refine lv_goto (tgt := 18) X.1 X.2.1 d_La_law_780 (by decide) ?_
      exact ih (j + 5) B (ab_crash a (xs (j + 1)).toInt (xs (j + 2)).toInt).2 υ (by omega) (by omega) (by omega) (ab_I_crash I _ _) (xr_of q1 w2) w1 H locs ls hP hS (lv_sub hl [0, 1, 2, 3] rfl)
    · skip
      refine lv_tableIn (x := nI 10) (tgt := 507) X.1 X.2.1 d_La_law_32 (by decide) (by decide) (off := 475) (by decide) (by decide) ?_
      refine lv_aload_n X.1 X.2.1 d_La_law_507 rfl (lv_at hl 2 rfl) ?_
      refine lv_aload_n X.1 X.2.1 d_La_law_508 rfl (lv_at hl 1 rfl) ?_
      refine lv_iload_n X.1 X.2.1 d_La_law_509 rfl (lv_at hl 0 rfl) ?_
      refine lv_iconst (v := nI 1) X.1 X.2.1 d_La_law_510 (by decide) ?_
      refine gx_iadd X.1 X.2.1 d_La_law_511 ?_
      refine va_sld X.1 X.2.1 hX hbl hbA hS (vp_in_nI (by omega) (by omega)) d_La_law_512 ?_
      rw [nI_clamp (by omega)]
      refine lv_aload_n X.1 X.2.1 d_La_law_513 rfl (lv_at hl 1 rfl) ?_
      refine lv_iload_n X.1 X.2.1 d_La_law_514 rfl (lv_at hl 0 rfl) ?_
      refine lv_iconst (v := nI 2) X.1 X.2.1 d_La_law_515 (by decide) ?_
      refine gx_iadd X.1 X.2.1 d_La_law_516 ?_
      refine va_sld X.1 X.2.1 hX hbl hbA hS (vp_in_nI (by omega) (by omega)) d_La_law_517 ?_
      rw [nI_clamp (by omega)]
      refine cv_La_61 (rest := []) X hJ hP hS (by decide) (ec_CG _) (K_CG_restart l dC dI cx ad hJ0 _ a (xs (j + 1)) (xs (j + 2)) hw hx) rfl rfl (by decide) hl.1 (Nat.le_of_ble_eq_true rfl) ⟨Nat.le_refl _, Nat.le_refl _⟩ d_La_law_518 (fun r σ' H locs hq hP hS => ?_)
      obtain ⟨rfl, q1, q2⟩ := hq
      refine lv_aload_n X.1 X.2.1 d_La_law_521 rfl (lv_at hl 3 rfl) ?_
      refine lv_aload_n X.1 X.2.1 d_La_law_522 rfl (lv_at hl 1 rfl) ?_
      refine lv_iload_n X.1 X.2.1 d_La_law_523 rfl (lv_at hl 0 rfl) ?_
      refine lv_iconst (v := nI 1) X.1 X.2.1 d_La_law_524 (by decide) ?_
      refine gx_iadd X.1 X.2.1 d_La_law_525 ?_
      refine va_sld X.1 X.2.1 hX hbl hbA hS (vp_in_nI (by omega) (by omega)) d_La_law_526 ?_
      rw [nI_clamp (by omega)]
      refine lv_aload_n X.1 X.2.1 d_La_law_527 rfl (lv_at hl 1 rfl) ?_
      refine lv_iload_n X.1 X.2.1 d_La_law_528 rfl (lv_at hl 0 rfl) ?_
      refine lv_iconst (v := nI 2) X.1 X.2.1 d_La_law_529 (by decide) ?_
      refine gx_iadd X.1 X.2.1 d_La_law_530 ?_
      refine va_sld X.1 X.2.1 hX hbl hbA hS (vp_in_nI (by omega) (by omega)) d_La_law_531 ?_
      rw [nI_clamp (by omega)]
      refine cv_La_64 (rest := [.int (nI (xb (ab_restart a (xs (j + 1)).toInt (xs (j + 2)).toInt).1))]) X hJ hP hS (by decide) (ec_Mo_0 _) (K_Mo_restart l dC dI cx ad hJ0 σ' a (xs (j + 1)) (xs (j + 2)) (mr_of hm q2) hw) rfl rfl (by decide) hl.1 (Nat.le_of_ble_eq_true rfl) ⟨Nat.le_refl _, Nat.le_refl _⟩ d_La_law_532 (fun r υ H locs hq hP hS => ?_)
      obtain ⟨rfl, w1, w2⟩ := hq
      refine lv_icmp_eq X.1 X.2.1 (tgt := 777) d_La_law_535 (by decide) (fun h535 => ?_) (fun h535 => absurd rfl h535)
      refine lv_iinc (k := 0) (v := nI (j + 5)) X.1 X.2.1 d_La_law_777 hl rfl (nI_add _ _) (by decide) rfl (fun ls hl => ?_)
      have hl : lv_has ls 4 [(3, .int (nI (j + 5))), (0, .ref b), (1, .ref (ad 0)), (2, .ref (ad 224))] := hl
      refine lv_goto (tgt := 18) X.1 X.2.1 d_La_law_780 (by decide) ?_
      exact ih (j + 5) B (ab_restart a (xs (j + 1)).toInt (xs (j + 2)).toInt).2 υ (by omega) (by omega) (by omega) (ab_I_restart I _ _) (xr_of q1 w2) w1 H locs ls hP hS (lv_sub hl [0, 1, 2, 3] rfl)
    · skip
      refine lv_tableIn (x := nI 11) (tgt := 540) X.1 X.2.1 d_La_law_32 (by decide) (by decide) (off := 508) (by decide) (by decide) ?_
      refine lv_aload_n X.1 X.2.1 d_La_law_540 rfl (lv_at hl 2 rfl) ?_
      refine lv_aload_n X.1 X.2.1 d_La_law_541 rfl (lv_at hl 1 rfl) ?_
      refine lv_iload_n X.1 X.2.1 d_La_law_542 rfl (lv_at hl 0 rfl) ?_
      refine lv_iconst (v := nI 1) X.1 X.2.1 d_La_law_543 (by decide) ?_
      refine gx_iadd X.1 X.2.1 d_La_law_544 ?_
      refine va_sld X.1 X.2.1 hX hbl hbA hS (vp_in_nI (by omega) (by omega)) d_La_law_545 ?_
      rw [nI_clamp (by omega)]
      refine cv_La_65 (rest := []) X hJ hP hS (by decide) (ec_CG _) (K_CG_elect l dC dI cx ad hJ0 _ a B (xs (j + 1)) I hB hx) rfl rfl (by decide) hl.1 (Nat.le_of_ble_eq_true rfl) ⟨Nat.le_refl _, Nat.le_refl _⟩ d_La_law_546 (fun r σ' H locs hq hP hS => ?_)
      obtain ⟨rfl, q1, q2⟩ := hq
      refine lv_aload_n X.1 X.2.1 d_La_law_549 rfl (lv_at hl 3 rfl) ?_
      refine lv_aload_n X.1 X.2.1 d_La_law_550 rfl (lv_at hl 1 rfl) ?_
      refine lv_iload_n X.1 X.2.1 d_La_law_551 rfl (lv_at hl 0 rfl) ?_
      refine lv_iconst (v := nI 1) X.1 X.2.1 d_La_law_552 (by decide) ?_
      refine gx_iadd X.1 X.2.1 d_La_law_553 ?_
      refine va_sld X.1 X.2.1 hX hbl hbA hS (vp_in_nI (by omega) (by omega)) d_La_law_554 ?_
      rw [nI_clamp (by omega)]
      refine cv_La_68 (rest := [.int (Int32.ofInt (ab_elect a (xs (j + 1)).toInt).1)]) X hJ hP hS (by decide) (ec_Mo_0 _) (K_Mo_elect l dC dI cx ad hJ0 σ' a B (xs (j + 1)) I hB (mr_of hm q2)) rfl rfl (by decide) hl.1 (Nat.le_of_ble_eq_true rfl) ⟨Nat.le_refl _, Nat.le_refl _⟩ d_La_law_555 (fun r υ H locs hq hP hS => ?_)
      obtain ⟨rfl, w1, w2⟩ := hq
      refine lv_icmp_eq X.1 X.2.1 (tgt := 777) d_La_law_558 (by decide) (fun h558 => ?_) (fun h558 => absurd rfl h558)
      refine lv_iinc (k := 0) (v := nI (j + 5)) X.1 X.2.1 d_La_law_777 hl rfl (nI_add _ _) (by decide) rfl (fun ls hl => ?_)
      have hl : lv_has ls 4 [(3, .int (nI (j + 5))), (0, .ref b), (1, .ref (ad 0)), (2, .ref (ad 224))] := hl
      refine lv_goto (tgt := 18) X.1 X.2.1 d_La_law_780 (by decide) ?_
      exact ih (j + 5) (B + 3) (ab_elect a (xs (j + 1)).toInt).2 υ (by omega) (by omega) (by omega) (ab_I_elect I _) (xr_of q1 w2) w1 H locs ls hP hS (lv_sub hl [0, 1, 2, 3] rfl)
    · skip
      refine lv_tableIn (x := nI 12) (tgt := 563) X.1 X.2.1 d_La_law_32 (by decide) (by decide) (off := 531) (by decide) (by decide) ?_
      refine lv_aload_n X.1 X.2.1 d_La_law_563 rfl (lv_at hl 2 rfl) ?_
      refine cv_La_69 (rest := []) X hJ hP hS (by decide) (ec_CG _) (K_CG_halt l dC dI cx ad hJ0 _ a hw hx) rfl rfl (by decide) hl.1 (Nat.le_of_ble_eq_true rfl) ⟨Nat.le_refl _, Nat.le_refl _⟩ d_La_law_564 (fun r σ' H locs hq hP hS => ?_)
      obtain ⟨rfl, q1, q2⟩ := hq
      refine lv_aload_n X.1 X.2.1 d_La_law_567 rfl (lv_at hl 3 rfl) ?_
      refine cv_La_73 (rest := [.int (nI (xb (ab_halt a).1))]) X hJ hP hS (by decide) (ec_Mo_0 _) (K_Mo_halt l dC dI cx ad hJ0 σ' a (mr_of hm q2)) rfl rfl (by decide) hl.1 (Nat.le_of_ble_eq_true rfl) ⟨Nat.le_refl _, Nat.le_refl _⟩ d_La_law_568 (fun r υ H locs hq hP hS => ?_)
      obtain ⟨rfl, w1, w2⟩ := hq
      refine lv_icmp_eq X.1 X.2.1 (tgt := 777) d_La_law_571 (by decide) (fun h571 => ?_) (fun h571 => absurd rfl h571)
      refine lv_iinc (k := 0) (v := nI (j + 5)) X.1 X.2.1 d_La_law_777 hl rfl (nI_add _ _) (by decide) rfl (fun ls hl => ?_)
      have hl : lv_has ls 4 [(3, .int (nI (j + 5))), (0, .ref b), (1, .ref (ad 0)), (2, .ref (ad 224))] := hl
      refine lv_goto (tgt := 18) X.1 X.2.1 d_La_law_780 (by decide) ?_
      exact ih (j + 5) B (ab_halt a).2 υ (by omega) (by omega) (by omega) (ab_I_halt I) (xr_of q1 w2) w1 H locs ls hP hS (lv_sub hl [0, 1, 2, 3] rfl)
    · skip
      refine lv_tableIn (x := nI 13) (tgt := 576) X.1 X.2.1 d_La_law_32 (by decide) (by decide) (off := 544) (by decide) (by decide) ?_
      refine lv_aload_n X.1 X.2.1 d_La_law_576 rfl (lv_at hl 2 rfl) ?_
      refine cv_La_74 (rest := []) X hJ hP hS (by decide) (ec_CG _) (K_CG_resume l dC dI cx ad hJ0 _ a hw hx) rfl rfl (by decide) hl.1 (Nat.le_of_ble_eq_true rfl) ⟨Nat.le_refl _, Nat.le_refl _⟩ d_La_law_577 (fun r σ' H locs hq hP hS => ?_)
      obtain ⟨rfl, q1, q2⟩ := hq
      refine lv_aload_n X.1 X.2.1 d_La_law_580 rfl (lv_at hl 3 rfl) ?_
      refine cv_La_77 (rest := [.int (nI (xb (ab_resume a).1))]) X hJ hP hS (by decide) (ec_Mo_0 _) (K_Mo_resume l dC dI cx ad hJ0 σ' a (mr_of hm q2)) rfl rfl (by decide) hl.1 (Nat.le_of_ble_eq_true rfl) ⟨Nat.le_refl _, Nat.le_refl _⟩ d_La_law_581 (fun r υ H locs hq hP hS => ?_)
      obtain ⟨rfl, w1, w2⟩ := hq
      refine lv_icmp_eq X.1 X.2.1 (tgt := 777) d_La_law_584 (by decide) (fun h584 => ?_) (fun h584 => absurd rfl h584)
      refine lv_iinc (k := 0) (v := nI (j + 5)) X.1 X.2.1 d_La_law_777 hl rfl (nI_add _ _) (by decide) rfl (fun ls hl => ?_)
      have hl : lv_has ls 4 [(3, .int (nI (j + 5))), (0, .ref b), (1, .ref (ad 0)), (2, .ref (ad 224))] := hl
      refine lv_goto (tgt := 18) X.1 X.2.1 d_La_law_780 (by decide) ?_
      exact ih (j + 5) B (ab_resume a).2 υ (by omega) (by omega) (by omega) (ab_I_resume I) (xr_of q1 w2) w1 H locs ls hP hS (lv_sub hl [0, 1, 2, 3] rfl)
    · skip
      refine lv_tableIn (x := nI 14) (tgt := 589) X.1 X.2.1 d_La_law_32 (by decide) (by decide) (off := 557) (by decide) (by decide) ?_
      refine lv_aload_n X.1 X.2.1 d_La_law_589 rfl (lv_at hl 2 rfl) ?_
      refine lv_aload_n X.1 X.2.1 d_La_law_590 rfl (lv_at hl 1 rfl) ?_
      refine lv_iload_n X.1 X.2.1 d_La_law_591 rfl (lv_at hl 0 rfl) ?_
      refine lv_iconst (v := nI 1) X.1 X.2.1 d_La_law_592 (by decide) ?_
      refine gx_iadd X.1 X.2.1 d_La_law_593 ?_
      refine va_sld X.1 X.2.1 hX hbl hbA hS (vp_in_nI (by omega) (by omega)) d_La_law_594 ?_
      rw [nI_clamp (by omega)]
      refine cv_La_78 (rest := []) X hJ hP hS (by decide) (ec_CG _) (K_CG_leader l dC dI cx ad hJ0 _ a (xs (j + 1)) hw hx) rfl rfl (by decide) hl.1 (Nat.le_of_ble_eq_true rfl) ⟨Nat.le_refl _, Nat.le_refl _⟩ d_La_law_595 (fun r σ' H locs hq hP hS => ?_)
      obtain ⟨hq0, rfl⟩ := hq
      rw [hq0] at hP
      refine lv_aload_n X.1 X.2.1 d_La_law_598 rfl (lv_at hl 3 rfl) ?_
      refine lv_aload_n X.1 X.2.1 d_La_law_599 rfl (lv_at hl 1 rfl) ?_
      refine lv_iload_n X.1 X.2.1 d_La_law_600 rfl (lv_at hl 0 rfl) ?_
      refine lv_iconst (v := nI 1) X.1 X.2.1 d_La_law_601 (by decide) ?_
      refine gx_iadd X.1 X.2.1 d_La_law_602 ?_
      refine va_sld X.1 X.2.1 hX hbl hbA hS (vp_in_nI (by omega) (by omega)) d_La_law_603 ?_
      rw [nI_clamp (by omega)]
      refine cv_La_81 (rest := [.int (Int32.ofInt (ab_leader a (xs (j + 1)).toInt))]) X hJ hP hS (by decide) (ec_Mo_0 _) (K_Mo_leader l dC dI cx ad hJ0 _ a (xs (j + 1)) hm hw) rfl rfl (by decide) hl.1 (Nat.le_of_ble_eq_true rfl) ⟨Nat.le_refl _, Nat.le_refl _⟩ d_La_law_604 (fun r σ' H locs hq hP hS => ?_)
      obtain ⟨hq0, rfl⟩ := hq
      rw [hq0] at hP
      refine lv_icmp_eq X.1 X.2.1 (tgt := 777) d_La_law_607 (by decide) (fun h607 => ?_) (fun h607 => absurd rfl h607)
      refine lv_iinc (k := 0) (v := nI (j + 5)) X.1 X.2.1 d_La_law_777 hl rfl (nI_add _ _) (by decide) rfl (fun ls hl => ?_)
      have hl : lv_has ls 4 [(3, .int (nI (j + 5))), (0, .ref b), (1, .ref (ad 0)), (2, .ref (ad 224))] := hl
      refine lv_goto (tgt := 18) X.1 X.2.1 d_La_law_780 (by decide) ?_
      exact ih (j + 5) B a σ (by omega) (by omega) (by omega) I hx hm H locs ls hP hS (lv_sub hl [0, 1, 2, 3] rfl)
    · skip
      refine lv_tableIn (x := nI 15) (tgt := 612) X.1 X.2.1 d_La_law_32 (by decide) (by decide) (off := 580) (by decide) (by decide) ?_
      refine lv_aload_n X.1 X.2.1 d_La_law_612 rfl (lv_at hl 2 rfl) ?_
      refine lv_aload_n X.1 X.2.1 d_La_law_613 rfl (lv_at hl 1 rfl) ?_
      refine lv_iload_n X.1 X.2.1 d_La_law_614 rfl (lv_at hl 0 rfl) ?_
      refine lv_iconst (v := nI 1) X.1 X.2.1 d_La_law_615 (by decide) ?_
      refine gx_iadd X.1 X.2.1 d_La_law_616 ?_
      refine va_sld X.1 X.2.1 hX hbl hbA hS (vp_in_nI (by omega) (by omega)) d_La_law_617 ?_
      rw [nI_clamp (by omega)]
      refine lv_aload_n X.1 X.2.1 d_La_law_618 rfl (lv_at hl 1 rfl) ?_
      refine lv_iload_n X.1 X.2.1 d_La_law_619 rfl (lv_at hl 0 rfl) ?_
      refine lv_iconst (v := nI 2) X.1 X.2.1 d_La_law_620 (by decide) ?_
      refine gx_iadd X.1 X.2.1 d_La_law_621 ?_
      refine va_sld X.1 X.2.1 hX hbl hbA hS (vp_in_nI (by omega) (by omega)) d_La_law_622 ?_
      rw [nI_clamp (by omega)]
      refine cv_La_82 (rest := []) X hJ hP hS (by decide) (ec_CG _) (K_CG_view l dC dI cx ad hJ0 _ a (xs (j + 1)) (xs (j + 2)) hw hx) rfl rfl (by decide) hl.1 (Nat.le_of_ble_eq_true rfl) ⟨Nat.le_refl _, Nat.le_refl _⟩ d_La_law_623 (fun r σ' H locs hq hP hS => ?_)
      obtain ⟨hq0, rfl⟩ := hq
      rw [hq0] at hP
      refine lv_aload_n X.1 X.2.1 d_La_law_626 rfl (lv_at hl 3 rfl) ?_
      refine lv_aload_n X.1 X.2.1 d_La_law_627 rfl (lv_at hl 1 rfl) ?_
      refine lv_iload_n X.1 X.2.1 d_La_law_628 rfl (lv_at hl 0 rfl) ?_
      refine lv_iconst (v := nI 1) X.1 X.2.1 d_La_law_629 (by decide) ?_
      refine gx_iadd X.1 X.2.1 d_La_law_630 ?_
      refine va_sld X.1 X.2.1 hX hbl hbA hS (vp_in_nI (by omega) (by omega)) d_La_law_631 ?_
      rw [nI_clamp (by omega)]
      refine lv_aload_n X.1 X.2.1 d_La_law_632 rfl (lv_at hl 1 rfl) ?_
      refine lv_iload_n X.1 X.2.1 d_La_law_633 rfl (lv_at hl 0 rfl) ?_
      refine lv_iconst (v := nI 2) X.1 X.2.1 d_La_law_634 (by decide) ?_
      refine gx_iadd X.1 X.2.1 d_La_law_635 ?_
      refine va_sld X.1 X.2.1 hX hbl hbA hS (vp_in_nI (by omega) (by omega)) d_La_law_636 ?_
      rw [nI_clamp (by omega)]
      refine cv_La_85 (rest := [.int (Int32.ofInt (ab_at (ab_vi a) (xs (j + 1)).toInt (xs (j + 2)).toInt))]) X hJ hP hS (by decide) (ec_Mo_0 _) (K_Mo_view l dC dI cx ad hJ0 _ a (xs (j + 1)) (xs (j + 2)) hm) rfl rfl (by decide) hl.1 (Nat.le_of_ble_eq_true rfl) ⟨Nat.le_refl _, Nat.le_refl _⟩ d_La_law_637 (fun r σ' H locs hq hP hS => ?_)
      obtain ⟨hq0, rfl⟩ := hq
      rw [hq0] at hP
      refine lv_icmp_eq X.1 X.2.1 (tgt := 777) d_La_law_640 (by decide) (fun h640 => ?_) (fun h640 => absurd rfl h640)
      refine lv_iinc (k := 0) (v := nI (j + 5)) X.1 X.2.1 d_La_law_777 hl rfl (nI_add _ _) (by decide) rfl (fun ls hl => ?_)
      have hl : lv_has ls 4 [(3, .int (nI (j + 5))), (0, .ref b), (1, .ref (ad 0)), (2, .ref (ad 224))] := hl
      refine lv_goto (tgt := 18) X.1 X.2.1 d_La_law_780 (by decide) ?_
      exact ih (j + 5) B a σ (by omega) (by omega) (by omega) I hx hm H locs ls hP hS (lv_sub hl [0, 1, 2, 3] rfl)
    · skip
      refine lv_tableIn (x := nI 16) (tgt := 645) X.1 X.2.1 d_La_law_32 (by decide) (by decide) (off := 613) (by decide) (by decide) ?_
      refine lv_aload_n X.1 X.2.1 d_La_law_645 rfl (lv_at hl 2 rfl) ?_
      refine lv_aload_n X.1 X.2.1 d_La_law_646 rfl (lv_at hl 1 rfl) ?_
      refine lv_iload_n X.1 X.2.1 d_La_law_647 rfl (lv_at hl 0 rfl) ?_
      refine lv_iconst (v := nI 1) X.1 X.2.1 d_La_law_648 (by decide) ?_
      refine gx_iadd X.1 X.2.1 d_La_law_649 ?_
      refine va_sld X.1 X.2.1 hX hbl hbA hS (vp_in_nI (by omega) (by omega)) d_La_law_650 ?_
      rw [nI_clamp (by omega)]
      refine lv_aload_n X.1 X.2.1 d_La_law_651 rfl (lv_at hl 1 rfl) ?_
      refine lv_iload_n X.1 X.2.1 d_La_law_652 rfl (lv_at hl 0 rfl) ?_
      refine lv_iconst (v := nI 2) X.1 X.2.1 d_La_law_653 (by decide) ?_
      refine gx_iadd X.1 X.2.1 d_La_law_654 ?_
      refine va_sld X.1 X.2.1 hX hbl hbA hS (vp_in_nI (by omega) (by omega)) d_La_law_655 ?_
      rw [nI_clamp (by omega)]
      refine cv_La_86 (rest := []) X hJ hP hS (by decide) (ec_CG _) (K_CG_length l dC dI cx ad hJ0 _ a (xs (j + 1)) (xs (j + 2)) hw hx) rfl rfl (by decide) hl.1 (Nat.le_of_ble_eq_true rfl) ⟨Nat.le_refl _, Nat.le_refl _⟩ d_La_law_656 (fun r σ' H locs hq hP hS => ?_)
      obtain ⟨hq0, rfl⟩ := hq
      rw [hq0] at hP
      refine lv_aload_n X.1 X.2.1 d_La_law_659 rfl (lv_at hl 3 rfl) ?_
      refine lv_aload_n X.1 X.2.1 d_La_law_660 rfl (lv_at hl 1 rfl) ?_
      refine lv_iload_n X.1 X.2.1 d_La_law_661 rfl (lv_at hl 0 rfl) ?_
      refine lv_iconst (v := nI 1) X.1 X.2.1 d_La_law_662 (by decide) ?_
      refine gx_iadd X.1 X.2.1 d_La_law_663 ?_
      refine va_sld X.1 X.2.1 hX hbl hbA hS (vp_in_nI (by omega) (by omega)) d_La_law_664 ?_
      rw [nI_clamp (by omega)]
      refine lv_aload_n X.1 X.2.1 d_La_law_665 rfl (lv_at hl 1 rfl) ?_
      refine lv_iload_n X.1 X.2.1 d_La_law_666 rfl (lv_at hl 0 rfl) ?_
      refine lv_iconst (v := nI 2) X.1 X.2.1 d_La_law_667 (by decide) ?_
      refine gx_iadd X.1 X.2.1 d_La_law_668 ?_
      refine va_sld X.1 X.2.1 hX hbl hbA hS (vp_in_nI (by omega) (by omega)) d_La_law_669 ?_
      rw [nI_clamp (by omega)]
      refine cv_La_89 (rest := [.int (Int32.ofInt (ab_at (fun g r => (ab_lg a g r).length) (xs (j + 1)).toInt (xs (j + 2)).toInt))]) X hJ hP hS (by decide) (ec_Mo_0 _) (K_Mo_length l dC dI cx ad hJ0 _ a (xs (j + 1)) (xs (j + 2)) hm) rfl rfl (by decide) hl.1 (Nat.le_of_ble_eq_true rfl) ⟨Nat.le_refl _, Nat.le_refl _⟩ d_La_law_670 (fun r σ' H locs hq hP hS => ?_)
      obtain ⟨hq0, rfl⟩ := hq
      rw [hq0] at hP
      refine lv_icmp_eq X.1 X.2.1 (tgt := 777) d_La_law_673 (by decide) (fun h673 => ?_) (fun h673 => absurd rfl h673)
      refine lv_iinc (k := 0) (v := nI (j + 5)) X.1 X.2.1 d_La_law_777 hl rfl (nI_add _ _) (by decide) rfl (fun ls hl => ?_)
      have hl : lv_has ls 4 [(3, .int (nI (j + 5))), (0, .ref b), (1, .ref (ad 0)), (2, .ref (ad 224))] := hl
      refine lv_goto (tgt := 18) X.1 X.2.1 d_La_law_780 (by decide) ?_
      exact ih (j + 5) B a σ (by omega) (by omega) (by omega) I hx hm H locs ls hP hS (lv_sub hl [0, 1, 2, 3] rfl)
    · skip
      refine lv_tableIn (x := nI 17) (tgt := 678) X.1 X.2.1 d_La_law_32 (by decide) (by decide) (off := 646) (by decide) (by decide) ?_
      refine lv_aload_n X.1 X.2.1 d_La_law_678 rfl (lv_at hl 2 rfl) ?_
      refine lv_aload_n X.1 X.2.1 d_La_law_679 rfl (lv_at hl 1 rfl) ?_
      refine lv_iload_n X.1 X.2.1 d_La_law_680 rfl (lv_at hl 0 rfl) ?_
      refine lv_iconst (v := nI 1) X.1 X.2.1 d_La_law_681 (by decide) ?_
      refine gx_iadd X.1 X.2.1 d_La_law_682 ?_
      refine va_sld X.1 X.2.1 hX hbl hbA hS (vp_in_nI (by omega) (by omega)) d_La_law_683 ?_
      rw [nI_clamp (by omega)]
      refine lv_aload_n X.1 X.2.1 d_La_law_684 rfl (lv_at hl 1 rfl) ?_
      refine lv_iload_n X.1 X.2.1 d_La_law_685 rfl (lv_at hl 0 rfl) ?_
      refine lv_iconst (v := nI 2) X.1 X.2.1 d_La_law_686 (by decide) ?_
      refine gx_iadd X.1 X.2.1 d_La_law_687 ?_
      refine va_sld X.1 X.2.1 hX hbl hbA hS (vp_in_nI (by omega) (by omega)) d_La_law_688 ?_
      rw [nI_clamp (by omega)]
      refine cv_La_90 (rest := []) X hJ hP hS (by decide) (ec_CG _) (K_CG_executed l dC dI cx ad hJ0 _ a (xs (j + 1)) (xs (j + 2)) hw hx) rfl rfl (by decide) hl.1 (Nat.le_of_ble_eq_true rfl) ⟨Nat.le_refl _, Nat.le_refl _⟩ d_La_law_689 (fun r σ' H locs hq hP hS => ?_)
      obtain ⟨hq0, rfl⟩ := hq
      rw [hq0] at hP
      refine lv_aload_n X.1 X.2.1 d_La_law_692 rfl (lv_at hl 3 rfl) ?_
      refine lv_aload_n X.1 X.2.1 d_La_law_693 rfl (lv_at hl 1 rfl) ?_
      refine lv_iload_n X.1 X.2.1 d_La_law_694 rfl (lv_at hl 0 rfl) ?_
      refine lv_iconst (v := nI 1) X.1 X.2.1 d_La_law_695 (by decide) ?_
      refine gx_iadd X.1 X.2.1 d_La_law_696 ?_
      refine va_sld X.1 X.2.1 hX hbl hbA hS (vp_in_nI (by omega) (by omega)) d_La_law_697 ?_
      rw [nI_clamp (by omega)]
      refine lv_aload_n X.1 X.2.1 d_La_law_698 rfl (lv_at hl 1 rfl) ?_
      refine lv_iload_n X.1 X.2.1 d_La_law_699 rfl (lv_at hl 0 rfl) ?_
      refine lv_iconst (v := nI 2) X.1 X.2.1 d_La_law_700 (by decide) ?_
      refine gx_iadd X.1 X.2.1 d_La_law_701 ?_
      refine va_sld X.1 X.2.1 hX hbl hbA hS (vp_in_nI (by omega) (by omega)) d_La_law_702 ?_
      rw [nI_clamp (by omega)]
      refine cv_La_93 (rest := [.int (Int32.ofInt (ab_at (ab_dn a) (xs (j + 1)).toInt (xs (j + 2)).toInt))]) X hJ hP hS (by decide) (ec_Mo_0 _) (K_Mo_executed l dC dI cx ad hJ0 _ a (xs (j + 1)) (xs (j + 2)) hm) rfl rfl (by decide) hl.1 (Nat.le_of_ble_eq_true rfl) ⟨Nat.le_refl _, Nat.le_refl _⟩ d_La_law_703 (fun r σ' H locs hq hP hS => ?_)
      obtain ⟨hq0, rfl⟩ := hq
      rw [hq0] at hP
      refine lv_icmp_eq X.1 X.2.1 (tgt := 777) d_La_law_706 (by decide) (fun h706 => ?_) (fun h706 => absurd rfl h706)
      refine lv_iinc (k := 0) (v := nI (j + 5)) X.1 X.2.1 d_La_law_777 hl rfl (nI_add _ _) (by decide) rfl (fun ls hl => ?_)
      have hl : lv_has ls 4 [(3, .int (nI (j + 5))), (0, .ref b), (1, .ref (ad 0)), (2, .ref (ad 224))] := hl
      refine lv_goto (tgt := 18) X.1 X.2.1 d_La_law_780 (by decide) ?_
      exact ih (j + 5) B a σ (by omega) (by omega) (by omega) I hx hm H locs ls hP hS (lv_sub hl [0, 1, 2, 3] rfl)
    · skip
      refine lv_tableIn (x := nI 18) (tgt := 711) X.1 X.2.1 d_La_law_32 (by decide) (by decide) (off := 679) (by decide) (by decide) ?_
      refine lv_aload_n X.1 X.2.1 d_La_law_711 rfl (lv_at hl 2 rfl) ?_
      refine lv_aload_n X.1 X.2.1 d_La_law_712 rfl (lv_at hl 1 rfl) ?_
      refine lv_iload_n X.1 X.2.1 d_La_law_713 rfl (lv_at hl 0 rfl) ?_
      refine lv_iconst (v := nI 1) X.1 X.2.1 d_La_law_714 (by decide) ?_
      refine gx_iadd X.1 X.2.1 d_La_law_715 ?_
      refine va_sld X.1 X.2.1 hX hbl hbA hS (vp_in_nI (by omega) (by omega)) d_La_law_716 ?_
      rw [nI_clamp (by omega)]
      refine lv_aload_n X.1 X.2.1 d_La_law_717 rfl (lv_at hl 1 rfl) ?_
      refine lv_iload_n X.1 X.2.1 d_La_law_718 rfl (lv_at hl 0 rfl) ?_
      refine lv_iconst (v := nI 2) X.1 X.2.1 d_La_law_719 (by decide) ?_
      refine gx_iadd X.1 X.2.1 d_La_law_720 ?_
      refine va_sld X.1 X.2.1 hX hbl hbA hS (vp_in_nI (by omega) (by omega)) d_La_law_721 ?_
      rw [nI_clamp (by omega)]
      refine cv_La_94 (rest := []) X hJ hP hS (by decide) (ec_CG _) (K_CG_value l dC dI cx ad hJ0 _ a (xs (j + 1)) (xs (j + 2)) hw hx) rfl rfl (by decide) hl.1 (Nat.le_of_ble_eq_true rfl) ⟨Nat.le_refl _, Nat.le_refl _⟩ d_La_law_722 (fun r σ' H locs hq hP hS => ?_)
      obtain ⟨hq0, rfl⟩ := hq
      rw [hq0] at hP
      refine lv_aload_n X.1 X.2.1 d_La_law_725 rfl (lv_at hl 3 rfl) ?_
      refine lv_aload_n X.1 X.2.1 d_La_law_726 rfl (lv_at hl 1 rfl) ?_
      refine lv_iload_n X.1 X.2.1 d_La_law_727 rfl (lv_at hl 0 rfl) ?_
      refine lv_iconst (v := nI 1) X.1 X.2.1 d_La_law_728 (by decide) ?_
      refine gx_iadd X.1 X.2.1 d_La_law_729 ?_
      refine va_sld X.1 X.2.1 hX hbl hbA hS (vp_in_nI (by omega) (by omega)) d_La_law_730 ?_
      rw [nI_clamp (by omega)]
      refine lv_aload_n X.1 X.2.1 d_La_law_731 rfl (lv_at hl 1 rfl) ?_
      refine lv_iload_n X.1 X.2.1 d_La_law_732 rfl (lv_at hl 0 rfl) ?_
      refine lv_iconst (v := nI 2) X.1 X.2.1 d_La_law_733 (by decide) ?_
      refine gx_iadd X.1 X.2.1 d_La_law_734 ?_
      refine va_sld X.1 X.2.1 hX hbl hbA hS (vp_in_nI (by omega) (by omega)) d_La_law_735 ?_
      rw [nI_clamp (by omega)]
      refine cv_La_97 (rest := [.int (nI (ab_value a (xs (j + 1)).toInt (xs (j + 2)).toInt))]) X hJ hP hS (by decide) (ec_Mo_0 _) (K_Mo_value l dC dI cx ad hJ0 _ a (xs (j + 1)) (xs (j + 2)) hm hw hv) rfl rfl (by decide) hl.1 (Nat.le_of_ble_eq_true rfl) ⟨Nat.le_refl _, Nat.le_refl _⟩ d_La_law_736 (fun r υ H locs hq hP hS => ?_)
      obtain ⟨w1, rfl⟩ := hq
      refine lv_icmp_eq X.1 X.2.1 (tgt := 777) d_La_law_739 (by decide) (fun h739 => ?_) (fun h739 => absurd rfl h739)
      refine lv_iinc (k := 0) (v := nI (j + 5)) X.1 X.2.1 d_La_law_777 hl rfl (nI_add _ _) (by decide) rfl (fun ls hl => ?_)
      have hl : lv_has ls 4 [(3, .int (nI (j + 5))), (0, .ref b), (1, .ref (ad 0)), (2, .ref (ad 224))] := hl
      refine lv_goto (tgt := 18) X.1 X.2.1 d_La_law_780 (by decide) ?_
      exact ih (j + 5) B a υ (by omega) (by omega) (by omega) I (xr_of hx (mC_lo w1)) (mr_mC hm w1) H locs ls hP hS (lv_sub hl [0, 1, 2, 3] rfl)
    · skip
      refine lv_tableIn (x := nI 19) (tgt := 744) X.1 X.2.1 d_La_law_32 (by decide) (by decide) (off := 712) (by decide) (by decide) ?_
      refine lv_aload_n X.1 X.2.1 d_La_law_744 rfl (lv_at hl 2 rfl) ?_
      refine lv_aload_n X.1 X.2.1 d_La_law_745 rfl (lv_at hl 1 rfl) ?_
      refine lv_iload_n X.1 X.2.1 d_La_law_746 rfl (lv_at hl 0 rfl) ?_
      refine lv_iconst (v := nI 1) X.1 X.2.1 d_La_law_747 (by decide) ?_
      refine gx_iadd X.1 X.2.1 d_La_law_748 ?_
      refine va_sld X.1 X.2.1 hX hbl hbA hS (vp_in_nI (by omega) (by omega)) d_La_law_749 ?_
      rw [nI_clamp (by omega)]
      refine lv_aload_n X.1 X.2.1 d_La_law_750 rfl (lv_at hl 1 rfl) ?_
      refine lv_iload_n X.1 X.2.1 d_La_law_751 rfl (lv_at hl 0 rfl) ?_
      refine lv_iconst (v := nI 2) X.1 X.2.1 d_La_law_752 (by decide) ?_
      refine gx_iadd X.1 X.2.1 d_La_law_753 ?_
      refine va_sld X.1 X.2.1 hX hbl hbA hS (vp_in_nI (by omega) (by omega)) d_La_law_754 ?_
      rw [nI_clamp (by omega)]
      refine cv_La_98 (rest := []) X hJ hP hS (by decide) (ec_CG _) (K_CG_holds l dC dI cx ad hJ0 _ a (xs (j + 1)) (xs (j + 2)) hw hx) rfl rfl (by decide) hl.1 (Nat.le_of_ble_eq_true rfl) ⟨Nat.le_refl _, Nat.le_refl _⟩ d_La_law_755 (fun rx σ' H locs hq hP hS => ?_)
      obtain ⟨hq0, hq1⟩ := hq
      rw [hq0] at hP
      refine lv_aload_n X.1 X.2.1 d_La_law_758 rfl (lv_at hl 3 rfl) ?_
      refine lv_aload_n X.1 X.2.1 d_La_law_759 rfl (lv_at hl 1 rfl) ?_
      refine lv_iload_n X.1 X.2.1 d_La_law_760 rfl (lv_at hl 0 rfl) ?_
      refine lv_iconst (v := nI 1) X.1 X.2.1 d_La_law_761 (by decide) ?_
      refine gx_iadd X.1 X.2.1 d_La_law_762 ?_
      refine va_sld X.1 X.2.1 hX hbl hbA hS (vp_in_nI (by omega) (by omega)) d_La_law_763 ?_
      rw [nI_clamp (by omega)]
      refine lv_aload_n X.1 X.2.1 d_La_law_764 rfl (lv_at hl 1 rfl) ?_
      refine lv_iload_n X.1 X.2.1 d_La_law_765 rfl (lv_at hl 0 rfl) ?_
      refine lv_iconst (v := nI 2) X.1 X.2.1 d_La_law_766 (by decide) ?_
      refine gx_iadd X.1 X.2.1 d_La_law_767 ?_
      refine va_sld X.1 X.2.1 hX hbl hbA hS (vp_in_nI (by omega) (by omega)) d_La_law_768 ?_
      rw [nI_clamp (by omega)]
      refine cv_La_101 (rest := [.int rx]) X hJ hP hS (by decide) (ec_Mo_0 _) (K_Mo_holds l dC dI cx ad hJ0 _ a (xs (j + 1)) (xs (j + 2)) hm hw hv) rfl rfl (by decide) hl.1 (Nat.le_of_ble_eq_true rfl) ⟨Nat.le_refl _, Nat.le_refl _⟩ d_La_law_769 (fun r υ H locs hq hP hS => ?_)
      obtain ⟨w1, hq2⟩ := hq
      obtain rfl := lw_hold hx hq1 hq2
      refine lv_icmp_eq X.1 X.2.1 (tgt := 777) d_La_law_772 (by decide) (fun h772 => ?_) (fun h772 => absurd rfl h772)
      refine lv_iinc (k := 0) (v := nI (j + 5)) X.1 X.2.1 d_La_law_777 hl rfl (nI_add _ _) (by decide) rfl (fun ls hl => ?_)
      have hl : lv_has ls 4 [(3, .int (nI (j + 5))), (0, .ref b), (1, .ref (ad 0)), (2, .ref (ad 224))] := hl
      refine lv_goto (tgt := 18) X.1 X.2.1 d_La_law_780 (by decide) ?_
      exact ih (j + 5) B a υ (by omega) (by omega) (by omega) I (xr_of hx (mC_lo w1)) (mr_mC hm w1) H locs ls hP hS (lv_sub hl [0, 1, 2, 3] rfl)
