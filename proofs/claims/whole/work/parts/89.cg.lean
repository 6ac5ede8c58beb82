/-! the constructor of the system -/
theorem ct_E_at {cx : Nat → ClassId} {fs : List Value} {tN gN sN dN rG rN : Nat} {ad : Nat → Nat} {n : Nat} (h1 : (2 ≤ n ∧ n < 107) ∨ 110 ≤ n) (h2 : n ≠ nRs rG) : ct_E cx fs tN gN sN dN rG rN ad n = gx_ec cx ad n (gs0 n) := by
  unfold ct_E
  rw [if_neg (by omega), if_neg (by omega), if_neg (by omega), if_neg (by omega), if_neg (by omega), if_neg h2]
theorem ct_E_rs {cx : Nat → ClassId} {fs : List Value} {tN gN sN dN rG rN : Nat} {ad : Nat → Nat} : ct_E cx fs tN gN sN dN rG rN ad (nRs rG) = ct_rf cx 6 3 (ct_so rN (fun j => ad (nRp rG j))) := by
  have h := nRs_ge rG
  unfold ct_E
  rw [if_neg (by omega), if_neg (by omega), if_neg (by omega), if_neg (by omega), if_neg (by omega), if_pos rfl]
theorem ct_E_fin {cx : Nat → ClassId} {a : Nat → Nat} {r1 r7 r8 r9 r10 : Nat} (h1 : a 1 = r1) (h7 : a 107 = r7) (h8 : a 108 = r8) (h9 : a 109 = r9) (h10 : a 110 = r10) : ∀ n, n < 224 → ct_E cx [.ref r1, .ref r7, .ref r8, .ref r9, .ref r10, .int (nI 0)] 21 4 9 3 4 0 a n = gx_ec cx a n (gs0 n) := by
  intro n hn
  have h4 : nRs 4 = 242 := rfl
  by_cases c0 : n = 0
  · subst c0
    subst h1 h7 h8 h9 h10
    rfl
  by_cases c1 : n = 1
  · subst c1; rfl
  by_cases c7 : n = 107
  · subst c7; rfl
  by_cases c8 : n = 108
  · subst c8; rfl
  by_cases c9 : n = 109
  · subst c9; rfl
  exact ct_E_at (by omega) (by omega)
set_option maxRecDepth 100000 in
set_option maxHeartbeats 8000000 in
theorem C_CG (l : Launch) (dC : Nat → ClassId) (dI : Nat → Nat → Nat) (cx : Nat → ClassId) (ad : Nat → Nat) (E : Nat → va_E) (sz : Nat) (hj : gx_J 1 ad (fun _ => True)) (hE : E 0 = .inr (kCG, [.null, .null, .null, .null, .null, .int 0])) : ct_M l dC dI cx y_CG_init w_CG_init 3 223 3072 [.ref (ad 0)] 1 ad E sz 224 (fun ad2 n => gx_ec cx ad2 n (gs0 n)) := by
  refine ct_ofW (cc := c_CG_init) (maxL := 6) (by decide) rfl rfl (Nat.le_of_ble_eq_true rfl) hj ?_
  intro p e s m below meth c ls S hr hlk hin2 hK hN hl hP hJ hA
  have X : cg_X c_CG_init "CommitGroups" 6 dC dI cx p m c s _ := ⟨S.1, S.2.1, S.2.2.2.1, fun w h => S.2.2.2.2 w (List.mem_cons_of_mem _ h), hK, hN.1, S.2.2.1⟩
  have hS : va_S (ct_A (1) ad s.heap.size) s.heap s.heap [] := va_S.rf
  have hl : lv_has ls 6 [(0, .ref (ad 0))] := hl
  have hfin : ∀ (a : Nat → Nat) (H : Heap) (locs : List Loc) (ls : Array Slot), a 0 = ad 0 → ct_P dC dI 224 a (fun n => gx_ec cx a n (gs0 n)) H → gx_J 224 a (ct_A 1 ad s.heap.size) → va_S (ct_A 1 ad s.heap.size) s.heap H locs → W p l e (ct_R 3 223 3072) s m ([.ref (ad 0)] : List Value).toArray below meth c H locs (223) (3072) (MQ below (va_Qv (fun ad2 : Nat → Nat => (∀ n, n < 1 → ad2 n = ad n) ∧ gx_J 224 ad2 (ct_A 1 ad s.heap.size)) (fun ad2 t => ct_P dC dI 224 ad2 ((fun (ad2 : Nat → Nat) (n : Nat) => gx_ec cx ad2 n (gs0 n)) ad2) t.heap) (ct_A 1 ad s.heap.size)) ([.ref (ad 0)] : List Value).toArray s 223 3072 (ct_A 1 ad s.heap.size)) (F0 m 225 ls []) := fun a H locs ls h0 hP hJ hS => ct_ret X.1 X.2.1 hr hlk hP hJ hS d_CG_init_225 (fun n hn => by rw [show n = 0 by omega]; exact h0) (fun n hn => rfl)
  show W p l e (ct_R 3 223 3072) s m ([.ref (ad 0)] : List Value).toArray below meth c s.heap [] (0) (0) (MQ below (va_Qv (fun ad2 : Nat → Nat => (∀ n, n < 1 → ad2 n = ad n) ∧ gx_J 224 ad2 (ct_A 1 ad s.heap.size)) (fun ad2 t => ct_P dC dI 224 ad2 ((fun (ad2 : Nat → Nat) (n : Nat) => gx_ec cx ad2 n (gs0 n)) ad2) t.heap) (ct_A 1 ad s.heap.size)) ([.ref (ad 0)] : List Value).toArray s 223 3072 (ct_A 1 ad s.heap.size)) (F0 m 0 ls [])
  generalize (MQ below (va_Qv (fun ad2 : Nat → Nat => (∀ n, n < 1 → ad2 n = ad n) ∧ gx_J 224 ad2 (ct_A 1 ad s.heap.size)) (fun ad2 t => ct_P dC dI 224 ad2 ((fun (ad2 : Nat → Nat) (n : Nat) => gx_ec cx ad2 n (gs0 n)) ad2) t.heap) (ct_A 1 ad s.heap.size)) ([.ref (ad 0)] : List Value).toArray s 223 3072 (ct_A 1 ad s.heap.size)) = QQ at hfin ⊢
  have nR3 : nRs 3 = 210 := rfl
  have nG3 : nGr 3 = 223 := rfl
  have tr : ∀ (r1 r7 r8 r9 r10 N : Nat) (a b : Nat → Nat), 110 < N → (∀ n, n < N → b n = a n) → (a 0 = ad 0 ∧ a 1 = r1 ∧ a 107 = r7 ∧ a 108 = r8 ∧ a 109 = r9 ∧ a 110 = r10) → (b 0 = ad 0 ∧ b 1 = r1 ∧ b 107 = r7 ∧ b 108 = r8 ∧ b 109 = r9 ∧ b 110 = r10) := by
    intro r1 r7 r8 r9 r10 N a b hN hk h
    exact ⟨(hk 0 (by omega)).trans h.1, (hk 1 (by omega)).trans h.2.1, (hk 107 (by omega)).trans h.2.2.1, (hk 108 (by omega)).trans h.2.2.2.1, (hk 109 (by omega)).trans h.2.2.2.2.1, (hk 110 (by omega)).trans h.2.2.2.2.2⟩
  have lpD : ∀ (r1 r7 r8 r9 r10 rs k r : Nat) (a : Nat → Nat), r + k = 3 → (a 0 = ad 0 ∧ a 1 = r1 ∧ a 107 = r7 ∧ a 108 = r8 ∧ a 109 = r9 ∧ a 110 = r10) → a 210 = rs → ∀ (H : Heap) (locs : List Loc) (ls : Array Slot), ct_P dC dI (nSt 3 r) a (ct_E cx [.ref r1, .ref r7, .ref r8, .ref r9, .ref r10, .int (nI 0)] 21 3 9 r 3 r a) H → gx_J (nSt 3 r) a (ct_A 1 ad s.heap.size) → va_S (ct_A 1 ad s.heap.size) s.heap H locs → lv_has ls 6 [(3, .int (nI r)), (2, .ref rs), (0, .ref (ad 0))] → W p l e (ct_R 3 223 3072) s m ([.ref (ad 0)] : List Value).toArray below meth c H locs (210 + 4 * r) (2807 + 88 * r) QQ (F0 m 171 ls []) := by
    intro r1 r7 r8 r9 r10 rs k
    induction k with
    | zero =>
      intro r a hrk ha hrs H locs ls hP hJ hS hl
      obtain rfl : r = 3 := by omega
      refine lv_iload_n X.1 X.2.1 d_CG_init_171 rfl (lv_at hl 0 rfl) ?_
      refine lv_iconst (v := nI 3) X.1 X.2.1 d_CG_init_172 (by decide) ?_
      refine gx_icmp_ge X.1 X.2.1 (tgt := 211) d_CG_init_173 (by decide) (by omega) (by omega) (fun h173 => ?_) (fun h173 => absurd h173 (by omega))
      have hP := ct_E_cg (ct_E_g (rG := 3) (by decide) (show nSt 3 3 ≤ 224 by decide)) hP
      rw [e_B2 3 (by decide)] at hP hJ
      refine lv_aload_n X.1 X.2.1 d_CG_init_211 rfl (lv_at hl 2 rfl) ?_
      refine ct_getA (n := 0) ha.1 X hP (by omega) in_CG rfl rfl 1 (by decide) (gU_mem (List.mem_append_right _ (List.mem_append_left _ (List.mem_of_getElem? (i := 184) rfl))) rfl) (fun _ h => h) rfl d_CG_init_212 ?_
      refine lv_iconst (v := nI 3) X.1 X.2.1 d_CG_init_215 (by decide) ?_
      refine ct_new2 (ci := kGr) (fs := [.null]) X hP hJ hS hA in_Gr t_Gr t_Gr_ok (gU_mem (List.mem_append_right _ (List.mem_append_left _ (List.mem_of_getElem? (i := 59) rfl))) rfl) (gU_mem (List.mem_append_right _ (List.mem_append_left _ (List.mem_of_getElem? (i := 163) rfl))) rfl) (gU_mem (List.mem_append_right _ (List.mem_append_left _ (List.mem_of_getElem? (i := 7) rfl))) rfl) rfl (fun j hj => by rcases (show j = 0 by omega) with rfl <;> rfl) (by show _ ≤ 223; omega) (by show _ ≤ 3072; omega) d_CG_init_216 (fun a1 H hk1 hP hJ hS => ?_)
      refine lv_dup X.1 X.2.1 d_CG_init_219 rfl ?_
      refine lv_aload_n X.1 X.2.1 d_CG_init_220 rfl (lv_at hl 1 rfl) ?_
      refine ct_call hJ hS hA (va_runI (As := [.ref (a1 (nRs 3))]) (rest := [.ref (a1 (nGr 3)), .int (nI 3), .ref r7]) (own := "CommitGroups") (index := 53) (bytes := c_Gr_init) (maxL := 2) ⟨X.1, X.2.1, X.2.2.2.2.2.2, X.2.2.1, X.2.2.2.1⟩ (C_Gr l dC dI cx a1 _ H.size 3 (by decide) ⟨hJ.1, fun _ _ => trivial⟩ (va_up_self _ _ _)) (cwI 1 X.2.2.2.1 wg_Gr_init rfl rfl rfl (X.2.2.2.1 _ (gU_mem (List.mem_append_right _ (List.mem_append_left _ (List.mem_of_getElem? (i := 7) rfl))) rfl)) (X.2.2.2.1 _ (gU_mem (List.mem_append_right _ (List.mem_append_left _ (List.mem_of_getElem? (i := 164) rfl))) rfl)) (X.2.2.2.1 _ (gU_mem (List.mem_append_right _ (List.mem_append_left _ (List.mem_of_getElem? (i := 165) rfl))) rfl)) rfl (by decide +kernel) (by decide)) (ct_pre hK hN hP _) rfl rfl hl.1 (by rw [show a1 (nRs 3) = rs from (hk1 210 (by decide)).trans hrs]; rfl) (lv_room (Nat.le_of_ble_eq_true rfl)) d_CG_init_221 ⟨(by show _ ≤ 223; omega), (by show _ ≤ 3072; omega)⟩) (fun a2 H locs hk2 hJ hP hS => ?_)
      have hP := ct_E_i2 in_G3 (Or.inl (by decide)) (Or.inr (by decide)) hk1 hk2 hP
      have ha2 := tr r1 r7 r8 r9 r10 223 a a2 (by decide) (fun n hn => (hk2 n (by omega)).trans (hk1 n hn)) ha
      refine ct_astA (n := 107) (v := nGr 3) ha2.2.2.1 (hk2 (nGr 3) (by decide)) X hP hJ hS (by decide) (by decide) rfl rfl ((ct_E_at (by decide) (by decide)).trans (ec_nGr (by decide) _)) rfl (by decide) (by decide) d_CG_init_224 (fun H locs hP hS => ?_)
      have hP := ct_E_cg (fun n _ => ct_E_7 n) hP
      exact hfin a2 H locs ls ha2.1 (ct_E_cg (ct_E_fin ha2.2.1 ha2.2.2.1 ha2.2.2.2.1 ha2.2.2.2.2.1 ha2.2.2.2.2.2) hP) hJ hS
    | succ k ih =>
      intro r a hrk ha hrs H locs ls hP hJ hS hl
      have hr3 : r < 3 := by omega
      have n1 : nSt 3 r = 211 + 4 * r := rfl
      have n2 : nRp 3 r = 213 + 4 * r := rfl
      refine lv_iload_n X.1 X.2.1 d_CG_init_171 rfl (lv_at hl 0 rfl) ?_
      refine lv_iconst (v := nI 3) X.1 X.2.1 d_CG_init_172 (by decide) ?_
      refine gx_icmp_ge X.1 X.2.1 (tgt := 211) d_CG_init_173 (by decide) (by omega) (by omega) (fun h173 => absurd h173 (by omega)) (fun h173 => ?_)
      refine ct_new2 (ci := kDS) (fs := [.null]) X hP hJ hS hA in_DS t_DS t_DS_ok (gU_mem (List.mem_append_right _ (List.mem_append_left _ (List.mem_of_getElem? (i := 63) rfl))) rfl) (gU_mem (List.mem_append_right _ (List.mem_append_left _ (List.mem_of_getElem? (i := 173) rfl))) rfl) (gU_mem (List.mem_append_right _ (List.mem_append_left _ (List.mem_of_getElem? (i := 8) rfl))) rfl) rfl (fun j hj => by rcases (show j = 0 by omega) with rfl <;> rfl) (by show _ ≤ 223; omega) (by show _ ≤ 3072; omega) d_CG_init_176 (fun a1 H hk1 hP hJ hS => ?_)
      refine lv_dup X.1 X.2.1 d_CG_init_179 rfl ?_
      refine ct_call hJ hS hA (va_runIN (As := []) (rest := [.ref (a1 (nSt 3 r))]) (own := "CommitGroups") (host := "CommitGroups") (index := 56) (bytes := c_DS_init) (maxL := 1) ⟨X.1, X.2.1, X.2.2.2.2.2.2, X.2.2.1, X.2.2.2.1⟩ (C_DS l dC dI cx a1 _ H.size r hr3 ⟨hJ.1, fun _ _ => trivial⟩ (va_up_self _ _ _)) ⟨va_cnB 0 X.2.2.2.1 wg_DS_init rfl rfl rfl hN.2.2.2.2.1 (X.2.2.2.1 _ (gU_mem (List.mem_append_right _ (List.mem_append_left _ (List.mem_of_getElem? (i := 8) rfl))) rfl)) (by decide +kernel) (by decide), rfl, X.2.2.2.1 _ (gU_mem (List.mem_append_right _ (List.mem_append_left _ (List.mem_of_getElem? (i := 175) rfl))) rfl)⟩ (ct_pre hK hN hP _) rfl rfl hl.1 rfl (lv_room (Nat.le_of_ble_eq_true rfl)) d_CG_init_180 ⟨(by show _ ≤ 223; omega), (by show _ ≤ 3072; omega)⟩) (fun a2 H locs hk2 hJ hP hS => ?_)
      have hP := ct_E_i2 (in_D r (by omega)) (Or.inl (by omega)) (Or.inl (by omega)) hk1 hk2 hP
      have hka : ∀ n, n < nSt 3 r → a2 n = a n := fun n hn => (hk2 n (by omega)).trans (hk1 n hn)
      have ha2 := tr r1 r7 r8 r9 r10 (nSt 3 r) a a2 (by omega) hka ha
      have hrs2 : a2 210 = rs := (hka 210 (by omega)).trans hrs
      rw [e_D1 r hr3] at hP hJ
      refine lv_astore X.1 X.2.1 d_CG_init_183 hl (by decide) rfl (fun ls hl => ?_)
      have hl : lv_has ls 6 [(4, .ref (a1 (nSt 3 r))), (3, .int (nI r)), (2, .ref rs), (0, .ref (ad 0))] := hl
      refine lv_aload_n X.1 X.2.1 d_CG_init_185 rfl (lv_at hl 3 rfl) ?_
      refine ct_getA (n := 0) ha2.1 X hP (by omega) in_CG rfl rfl 3 (by decide) (gU_mem (List.mem_append_right _ (List.mem_append_left _ (List.mem_of_getElem? (i := 186) rfl))) rfl) (fun _ h => h) rfl d_CG_init_186 ?_
      refine lv_iload_n X.1 X.2.1 d_CG_init_189 rfl (lv_at hl 1 rfl) ?_
      refine lv_aload X.1 X.2.1 d_CG_init_190 (lv_at hl 0 rfl) ?_
      refine ct_astA (n := 109) (v := nSt 3 r) ha2.2.2.2.2.1 (hk2 (nSt 3 r) (by omega)) X hP hJ hS (by omega) (by omega) rfl rfl ((ct_E_at (by omega) (by omega)).trans (ec_nDS hr3 _)) rfl (by omega) (by decide) d_CG_init_192 (fun H locs hP hS => ?_)
      have hP := ct_E_cg (fun n _ => ct_E_9 n) hP
      refine lv_aload_n X.1 X.2.1 d_CG_init_193 rfl (lv_at hl 2 rfl) ?_
      refine lv_iload_n X.1 X.2.1 d_CG_init_194 rfl (lv_at hl 1 rfl) ?_
      refine ct_new2 (ci := kRp) (fs := [.null, .null, .int 0, .int 0, .int 0, .int 0]) X hP hJ hS hA in_Rp t_Rp t_Rp_ok (gU_mem (List.mem_append_right _ (List.mem_append_left _ (List.mem_of_getElem? (i := 88) rfl))) rfl) (gU_mem (List.mem_append_right _ (List.mem_append_left _ (List.mem_of_getElem? (i := 133) rfl))) rfl) (gU_mem (List.mem_append_right _ (List.mem_append_left _ (List.mem_of_getElem? (i := 6) rfl))) rfl) rfl (fun j hj => by rcases (show j = 0 ∨ j = 1 ∨ j = 2 ∨ j = 3 ∨ j = 4 ∨ j = 5 by omega) with rfl | rfl | rfl | rfl | rfl | rfl <;> rfl) (by show _ ≤ 223; omega) (by show _ ≤ 3072; omega) d_CG_init_195 (fun a3 H hk3 hP hJ hS => ?_)
      refine lv_dup X.1 X.2.1 d_CG_init_198 rfl ?_
      refine lv_aload X.1 X.2.1 d_CG_init_199 (lv_at hl 0 rfl) ?_
      refine ct_call hJ hS hA (va_runI (As := [.ref (a3 (nSt 3 r))]) (rest := [.ref (a3 (nRp 3 r)), .int (nI r), .ref rs]) (own := "CommitGroups") (index := 50) (bytes := c_Rp_init) (maxL := 2) ⟨X.1, X.2.1, X.2.2.2.2.2.2, X.2.2.1, X.2.2.2.1⟩ (C_Rp l dC dI cx a3 _ H.size 3 r (by decide) hr3 ⟨hJ.1, fun _ _ => trivial⟩ (va_up_self _ _ _)) (cwI 1 X.2.2.2.1 wg_Rp_init rfl rfl rfl (X.2.2.2.1 _ (gU_mem (List.mem_append_right _ (List.mem_append_left _ (List.mem_of_getElem? (i := 6) rfl))) rfl)) (X.2.2.2.1 _ (gU_mem (List.mem_append_right _ (List.mem_append_left _ (List.mem_of_getElem? (i := 134) rfl))) rfl)) (X.2.2.2.1 _ (gU_mem (List.mem_append_right _ (List.mem_append_left _ (List.mem_of_getElem? (i := 135) rfl))) rfl)) rfl (by decide +kernel) (by decide)) (ct_pre hK hN hP _) rfl rfl hl.1 (by rw [show a3 (nSt 3 r) = a1 (nSt 3 r) from (hk3 _ (by omega)).trans (hk2 _ (by omega))]; rfl) (lv_room (Nat.le_of_ble_eq_true rfl)) d_CG_init_201 ⟨(by show _ ≤ 223; omega), (by show _ ≤ 3072; omega)⟩) (fun a4 H locs hk4 hJ hP hS => ?_)
      have hP := ct_E_i2 (in_D1 r hr3) (Or.inl (by omega)) (Or.inl (by omega)) hk3 hk4 hP
      have hkb : ∀ n, n < nRp 3 r → a4 n = a2 n := fun n hn => (hk4 n (by omega)).trans (hk3 n hn)
      have ha4 := tr r1 r7 r8 r9 r10 (nRp 3 r) a2 a4 (by omega) hkb ha2
      have hrs4 : a4 210 = rs := (hkb 210 (by omega)).trans hrs2
      refine ct_astA (n := nRs 3) (v := nRp 3 r) hrs4 (hk4 (nRp 3 r) (by omega)) X hP hJ hS (by omega) (by omega) ct_E_rs rfl ((ct_E_at (by omega) (by omega)).trans (ec_nRp (by decide) hr3 _)) rfl (by omega) (by decide) d_CG_init_204 (fun H locs hP hS => ?_)
      have hP := ct_E_cg (fun n _ => ct_E_r n) hP
      rw [e_C2 3 (by decide) r hr3] at hP hJ
      refine lv_iinc (k := 1) (v := nI (r + 1)) X.1 X.2.1 d_CG_init_205 hl rfl (nI_add _ _) (by decide) rfl (fun ls hl => ?_)
      have hl : lv_has ls 6 [(3, .int (nI (r + 1))), (4, .ref (a1 (nSt 3 r))), (2, .ref rs), (0, .ref (ad 0))] := hl
      refine lv_goto (tgt := 171) X.1 X.2.1 d_CG_init_208 (by decide) ?_
      refine W.widen (k := 210 + 4 * (r + 1)) (n := 2807 + 88 * (r + 1)) (by omega) (by omega) ?_
      exact ih (r + 1) a4 (by omega) ha4 hrs4 H locs ls hP hJ hS (lv_sub hl [0, 2, 3] rfl)
  have lpB : ∀ (r1 r7 r8 r9 r10 k sh : Nat) (a : Nat → Nat), sh + k = 3 → (a 0 = ad 0 ∧ a 1 = r1 ∧ a 107 = r7 ∧ a 108 = r8 ∧ a 109 = r9 ∧ a 110 = r10) → ∀ (H : Heap) (locs : List Loc) (ls : Array Slot), ct_P dC dI (nRs sh) a (ct_E cx [.ref r1, .ref r7, .ref r8, .ref r9, .ref r10, .int (nI 0)] 21 sh (3 * sh) 0 4 0 a) H → gx_J (nRs sh) a (ct_A 1 ad s.heap.size) → va_S (ct_A 1 ad s.heap.size) s.heap H locs → lv_has ls 6 [(2, .int (nI sh)), (1, .ref r1), (0, .ref (ad 0))] → W p l e (ct_R 3 223 3072) s m ([.ref (ad 0)] : List Value).toArray below meth c H locs (113 + 32 * sh) (839 + 655 * sh) QQ (F0 m 82 ls []) := by
    intro r1 r7 r8 r9 r10 k
    induction k with
    | zero =>
      intro sh a hsk ha H locs ls hP hJ hS hl
      obtain rfl : sh = 3 := by omega
      refine lv_iload_n X.1 X.2.1 d_CG_init_82 rfl (lv_at hl 0 rfl) ?_
      refine lv_iconst (v := nI 3) X.1 X.2.1 d_CG_init_83 (by decide) ?_
      refine gx_icmp_ge X.1 X.2.1 (tgt := 164) d_CG_init_84 (by decide) (by omega) (by omega) (fun h84 => ?_) (fun h84 => absurd h84 (by omega))
      refine lv_iconst (v := nI 3) X.1 X.2.1 d_CG_init_164 (by decide) ?_
      refine ct_newq2 (k := 3) (t0 := 6) (C := "CommitGroups$Replica") X hP hJ hS hA (by decide) rfl rfl (gU_mem (List.mem_append_right _ (List.mem_append_left _ (List.mem_of_getElem? (i := 88) rfl))) rfl) hN.2.2.2.2.2.2.2.2.2.2 (by show _ ≤ 223; omega) (by show _ ≤ 3072; omega) d_CG_init_165 (fun a1 H hk1 hP hJ hS => ?_)
      have hP := ct_E_cg (fun n (hn : n < nRs 3 + 1) => show va_up (ct_E cx _ 21 3 9 0 4 0 a) (nRs 3) (ct_rf cx 6 3 (fun _ => none)) n = va_up (ct_E cx _ 21 3 9 0 3 0 a) (nRs 3) (ct_rf cx 6 3 (fun _ => none)) n by
        by_cases z : n = nRs 3
        · rw [z, va_up_self, va_up_self]
        · rw [va_up_ne _ _ z, va_up_ne _ _ z]
          unfold ct_E
          rw [if_neg z, if_neg (show ¬ n = nRs 4 from fun q => absurd (show nRs 4 < nRs 3 + 1 from q ▸ hn) (by decide))]) hP
      have hP := ct_E_p2 (in_B2 3 (by decide)) hk1 (by rw [ct_E_rs, ct_so_0]) hP
      rw [e_B1 3 (by decide)] at hP hJ
      have ha1 := tr r1 r7 r8 r9 r10 210 a a1 (by decide) hk1 ha
      refine lv_astore_n X.1 X.2.1 d_CG_init_168 rfl hl (by decide) rfl (fun ls hl => ?_)
      have hl : lv_has ls 6 [(2, .ref (a1 (nRs 3))), (1, .ref r1), (0, .ref (ad 0))] := hl
      refine lv_iconst (v := nI 0) X.1 X.2.1 d_CG_init_169 (by decide) ?_
      refine lv_istore_n X.1 X.2.1 d_CG_init_170 rfl hl (by decide) rfl (fun ls hl => ?_)
      have hl : lv_has ls 6 [(3, .int (nI 0)), (2, .ref (a1 (nRs 3))), (1, .ref r1), (0, .ref (ad 0))] := hl
      refine W.widen (k := 210 + 4 * 0) (n := 2807 + 88 * 0) (by omega) (by omega) ?_
      exact lpD r1 r7 r8 r9 r10 (a1 (nRs 3)) 3 0 a1 rfl ha1 rfl H _ ls hP hJ hS (lv_sub hl [0, 1, 3] rfl)
    | succ k ih =>
      intro sh a hsk ha H locs ls hP hJ hS hl
      have hs3 : sh < 3 := by omega
      have n0 : nRs sh = 114 + 32 * sh := by unfold nRs; rw [if_neg (by omega)]
      have n4 : nRs 4 = 242 := rfl
      have ng : nGr sh = 145 + 32 * sh := by unfold nGr; rw [if_neg (by omega)]
      have lpC : ∀ (rs k r : Nat) (a : Nat → Nat), r + k = 3 → (a 0 = ad 0 ∧ a 1 = r1 ∧ a 107 = r7 ∧ a 108 = r8 ∧ a 109 = r9 ∧ a 110 = r10) → a (nRs sh) = rs → ∀ (H : Heap) (locs : List Loc) (ls : Array Slot), ct_P dC dI (nSt sh r) a (ct_E cx [.ref r1, .ref r7, .ref r8, .ref r9, .ref r10, .int (nI 0)] 21 sh (3 * sh + r) 0 sh r a) H → gx_J (nSt sh r) a (ct_A 1 ad s.heap.size) → va_S (ct_A 1 ad s.heap.size) s.heap H locs → lv_has ls 6 [(4, .int (nI r)), (3, .ref rs), (2, .int (nI sh)), (1, .ref r1), (0, .ref (ad 0))] → W p l e (ct_R 3 223 3072) s m ([.ref (ad 0)] : List Value).toArray below meth c H locs (114 + 32 * sh + 10 * r) (842 + 655 * sh + 217 * r) QQ (F0 m 95 ls []) := by
        intro rs k
        induction k with
        | zero =>
          intro r a hrk ha hrs H locs ls hP hJ hS hl
          obtain rfl : r = 3 := by omega
          have n1 : nSt sh 3 = 145 + 32 * sh := by rw [nSt_num hs3]; omega
          refine lv_iload X.1 X.2.1 d_CG_init_95 (lv_at hl 0 rfl) ?_
          refine lv_iconst (v := nI 3) X.1 X.2.1 d_CG_init_97 (by decide) ?_
          refine gx_icmp_ge X.1 X.2.1 (tgt := 144) d_CG_init_98 (by decide) (by omega) (by omega) (fun h98 => ?_) (fun h98 => absurd h98 (by omega))
          have hP := ct_E_cg (ct_E_g (rG := sh) (by omega) (show nSt sh 3 ≤ 224 by omega)) hP
          rw [e_B2 sh (by omega)] at hP hJ
          refine lv_aload_n X.1 X.2.1 d_CG_init_144 rfl (lv_at hl 4 rfl) ?_
          refine ct_getA (n := 0) ha.1 X hP (by omega) in_CG rfl rfl 1 (by decide) (gU_mem (List.mem_append_right _ (List.mem_append_left _ (List.mem_of_getElem? (i := 184) rfl))) rfl) (fun _ h => h) rfl d_CG_init_145 ?_
          refine lv_iload_n X.1 X.2.1 d_CG_init_148 rfl (lv_at hl 2 rfl) ?_
          refine ct_new2 (ci := kGr) (fs := [.null]) X hP hJ hS hA in_Gr t_Gr t_Gr_ok (gU_mem (List.mem_append_right _ (List.mem_append_left _ (List.mem_of_getElem? (i := 59) rfl))) rfl) (gU_mem (List.mem_append_right _ (List.mem_append_left _ (List.mem_of_getElem? (i := 163) rfl))) rfl) (gU_mem (List.mem_append_right _ (List.mem_append_left _ (List.mem_of_getElem? (i := 7) rfl))) rfl) rfl (fun j hj => by rcases (show j = 0 by omega) with rfl <;> rfl) (by show _ ≤ 223; omega) (by show _ ≤ 3072; omega) d_CG_init_149 (fun a1 H hk1 hP hJ hS => ?_)
          refine lv_dup X.1 X.2.1 d_CG_init_152 rfl ?_
          refine lv_aload_n X.1 X.2.1 d_CG_init_153 rfl (lv_at hl 1 rfl) ?_
          refine ct_call hJ hS hA (va_runI (As := [.ref (a1 (nRs sh))]) (rest := [.ref (a1 (nGr sh)), .int (nI sh), .ref r7]) (own := "CommitGroups") (index := 53) (bytes := c_Gr_init) (maxL := 2) ⟨X.1, X.2.1, X.2.2.2.2.2.2, X.2.2.1, X.2.2.2.1⟩ (C_Gr l dC dI cx a1 _ H.size sh (by omega) ⟨hJ.1, fun _ _ => trivial⟩ (va_up_self _ _ _)) (cwI 1 X.2.2.2.1 wg_Gr_init rfl rfl rfl (X.2.2.2.1 _ (gU_mem (List.mem_append_right _ (List.mem_append_left _ (List.mem_of_getElem? (i := 7) rfl))) rfl)) (X.2.2.2.1 _ (gU_mem (List.mem_append_right _ (List.mem_append_left _ (List.mem_of_getElem? (i := 164) rfl))) rfl)) (X.2.2.2.1 _ (gU_mem (List.mem_append_right _ (List.mem_append_left _ (List.mem_of_getElem? (i := 165) rfl))) rfl)) rfl (by decide +kernel) (by decide)) (ct_pre hK hN hP _) rfl rfl hl.1 (by rw [show a1 (nRs sh) = rs from (hk1 _ (by omega)).trans hrs]; rfl) (lv_room (Nat.le_of_ble_eq_true rfl)) d_CG_init_154 ⟨(by show _ ≤ 223; omega), (by show _ ≤ 3072; omega)⟩) (fun a2 H locs hk2 hJ hP hS => ?_)
          have hP := ct_E_i2 (in_G sh hs3) (Or.inl (by omega)) (Or.inr (by omega)) hk1 hk2 hP
          have hka : ∀ n, n < nGr sh → a2 n = a n := fun n hn => (hk2 n (by omega)).trans (hk1 n hn)
          have ha2 := tr r1 r7 r8 r9 r10 (nGr sh) a a2 (by omega) hka ha
          refine ct_astA (n := 107) (v := nGr sh) ha2.2.2.1 (hk2 (nGr sh) (by omega)) X hP hJ hS (by omega) (by omega) rfl rfl ((ct_E_at (by omega) (by omega)).trans (ec_nGr (by omega) _)) rfl (by omega) (by decide) d_CG_init_157 (fun H locs hP hS => ?_)
          have hP := ct_E_cg (fun n _ => ct_E_7 n) hP
          rw [e_B3 sh hs3, show 3 * sh + 3 = 3 * (sh + 1) by omega] at hP
          rw [e_B3 sh hs3] at hJ
          refine lv_iinc (k := 2) (v := nI (sh + 1)) X.1 X.2.1 d_CG_init_158 hl rfl (nI_add _ _) (by decide) rfl (fun ls hl => ?_)
          have hl : lv_has ls 6 [(2, .int (nI (sh + 1))), (4, .int (nI 3)), (3, .ref rs), (1, .ref r1), (0, .ref (ad 0))] := hl
          refine lv_goto (tgt := 82) X.1 X.2.1 d_CG_init_161 (by decide) ?_
          refine W.widen (k := 113 + 32 * (sh + 1)) (n := 839 + 655 * (sh + 1)) (by omega) (by omega) ?_
          exact ih (sh + 1) a2 (by omega) ha2 H locs ls hP hJ hS (lv_sub hl [0, 3, 4] rfl)
        | succ k ihr =>
          intro r a hrk ha hrs H locs ls hP hJ hS hl
          have hr3 : r < 3 := by omega
          have n1 : nSt sh r = 115 + 32 * sh + 10 * r := nSt_num hs3
          have n2 : nRp sh r = 123 + 32 * sh + 10 * r := by unfold nRp; rw [if_neg (by omega)]
          refine lv_iload X.1 X.2.1 d_CG_init_95 (lv_at hl 0 rfl) ?_
          refine lv_iconst (v := nI 3) X.1 X.2.1 d_CG_init_97 (by decide) ?_
          refine gx_icmp_ge X.1 X.2.1 (tgt := 144) d_CG_init_98 (by decide) (by omega) (by omega) (fun h98 => absurd h98 (by omega)) (fun h98 => ?_)
          refine ct_new2 (ci := kSS) (fs := [.int 0, .null, .null, .null, .null, .null, .null, .null, .null]) X hP hJ hS hA in_SS t_SS t_SS_ok (gU_mem (List.mem_append_right _ (List.mem_append_left _ (List.mem_of_getElem? (i := 61) rfl))) rfl) (gU_mem (List.mem_append_right _ (List.mem_append_left _ (List.mem_of_getElem? (i := 90) rfl))) rfl) (gU_mem (List.mem_append_right _ (List.mem_append_left _ (List.mem_of_getElem? (i := 5) rfl))) rfl) rfl (fun j hj => by rcases (show j = 0 ∨ j = 1 ∨ j = 2 ∨ j = 3 ∨ j = 4 ∨ j = 5 ∨ j = 6 ∨ j = 7 ∨ j = 8 by omega) with rfl | rfl | rfl | rfl | rfl | rfl | rfl | rfl | rfl <;> rfl) (by show _ ≤ 223; omega) (by show _ ≤ 3072; omega) d_CG_init_101 (fun a1 H hk1 hP hJ hS => ?_)
          refine lv_dup X.1 X.2.1 d_CG_init_104 rfl ?_
          refine lv_iload_n X.1 X.2.1 d_CG_init_105 rfl (lv_at hl 2 rfl) ?_
          refine lv_aload_n X.1 X.2.1 d_CG_init_106 rfl (lv_at hl 3 rfl) ?_
          refine ct_call hJ hS hA (va_runI (As := [.int (nI sh), .ref (a1 1)]) (rest := [.ref (a1 (nSt sh r))]) (own := "CommitGroups") (index := 47) (bytes := c_SS_init) (maxL := 3) ⟨X.1, X.2.1, X.2.2.2.2.2.2, X.2.2.1, X.2.2.2.1⟩ (C_SS l dC dI cx a1 _ H.size sh r hs3 hr3 ⟨hJ.1, fun _ _ => trivial⟩ (va_up_self _ _ _)) (cwI 2 X.2.2.2.1 wg_SS_init rfl rfl rfl (X.2.2.2.1 _ (gU_mem (List.mem_append_right _ (List.mem_append_left _ (List.mem_of_getElem? (i := 5) rfl))) rfl)) (X.2.2.2.1 _ (gU_mem (List.mem_append_right _ (List.mem_append_left _ (List.mem_of_getElem? (i := 91) rfl))) rfl)) (X.2.2.2.1 _ (gU_mem (List.mem_append_right _ (List.mem_append_left _ (List.mem_of_getElem? (i := 92) rfl))) rfl)) rfl (by decide +kernel) (by decide)) (ct_pre hK hN hP _) rfl rfl hl.1 (by rw [show a1 1 = r1 from (hk1 1 (by omega)).trans ha.2.1]; rfl) (lv_room (Nat.le_of_ble_eq_true rfl)) d_CG_init_107 ⟨(by show _ ≤ 223; omega), (by show _ ≤ 3072; omega)⟩) (fun a2 H locs hk2 hJ hP hS => ?_)
          have hP := ct_E_i2 (in_C sh hs3 r (by omega)) (Or.inl (by omega)) (Or.inl (by omega)) hk1 hk2 hP
          have hka : ∀ n, n < nSt sh r → a2 n = a n := fun n hn => (hk2 n (by omega)).trans (hk1 n hn)
          have ha2 := tr r1 r7 r8 r9 r10 (nSt sh r) a a2 (by omega) hka ha
          have hrs2 : a2 (nRs sh) = rs := (hka _ (by omega)).trans hrs
          rw [e_C1 sh hs3 r hr3] at hP hJ
          refine lv_astore X.1 X.2.1 d_CG_init_110 hl (by decide) rfl (fun ls hl => ?_)
          have hl : lv_has ls 6 [(5, .ref (a1 (nSt sh r))), (4, .int (nI r)), (3, .ref rs), (2, .int (nI sh)), (1, .ref r1), (0, .ref (ad 0))] := hl
          refine lv_aload_n X.1 X.2.1 d_CG_init_112 rfl (lv_at hl 5 rfl) ?_
          refine ct_getA (n := 0) ha2.1 X hP (by omega) in_CG rfl rfl 2 (by decide) (gU_mem (List.mem_append_right _ (List.mem_append_left _ (List.mem_of_getElem? (i := 185) rfl))) rfl) (fun _ h => h) rfl d_CG_init_113 ?_
          refine lv_iload_n X.1 X.2.1 d_CG_init_116 rfl (lv_at hl 3 rfl) ?_
          refine lv_iconst (v := nI 3) X.1 X.2.1 d_CG_init_117 (by decide) ?_
          refine gx_imul X.1 X.2.1 d_CG_init_118 ?_
          refine lv_iload X.1 X.2.1 d_CG_init_119 (lv_at hl 1 rfl) ?_
          refine gx_iadd X.1 X.2.1 d_CG_init_121 ?_
          rw [show sh * 3 + r = 3 * sh + r by omega]
          refine lv_aload X.1 X.2.1 d_CG_init_122 (lv_at hl 0 rfl) ?_
          refine ct_astA (n := 108) (v := nSt sh r) ha2.2.2.2.1 (hk2 (nSt sh r) (by omega)) X hP hJ hS (by omega) (by omega) rfl rfl ((ct_E_at (by omega) (by omega)).trans (ec_nSS hs3 hr3 _)) rfl (by omega) (by decide) d_CG_init_124 (fun H locs hP hS => ?_)
          have e8 : nSt ((3 * sh + r) / 3) ((3 * sh + r) % 3) = nSt sh r := by rw [show (3 * sh + r) / 3 = sh by omega, show (3 * sh + r) % 3 = r by omega]
          have hP := ct_E_cg (fun n _ => ((congrArg (fun z => va_up (ct_E cx _ 21 sh (3 * sh + r) 0 sh r a2) 108 (ct_rf cx 4 9 (va_up (ct_so (3 * sh + r) (fun q => a2 (nSt (q / 3) (q % 3)))) (3 * sh + r) (some (a2 z)))) n) e8.symm).trans (ct_E_8 n))) hP
          refine lv_aload_n X.1 X.2.1 d_CG_init_125 rfl (lv_at hl 2 rfl) ?_
          refine lv_iload X.1 X.2.1 d_CG_init_126 (lv_at hl 1 rfl) ?_
          refine ct_new2 (ci := kRp) (fs := [.null, .null, .int 0, .int 0, .int 0, .int 0]) X hP hJ hS hA in_Rp t_Rp t_Rp_ok (gU_mem (List.mem_append_right _ (List.mem_append_left _ (List.mem_of_getElem? (i := 88) rfl))) rfl) (gU_mem (List.mem_append_right _ (List.mem_append_left _ (List.mem_of_getElem? (i := 133) rfl))) rfl) (gU_mem (List.mem_append_right _ (List.mem_append_left _ (List.mem_of_getElem? (i := 6) rfl))) rfl) rfl (fun j hj => by rcases (show j = 0 ∨ j = 1 ∨ j = 2 ∨ j = 3 ∨ j = 4 ∨ j = 5 by omega) with rfl | rfl | rfl | rfl | rfl | rfl <;> rfl) (by show _ ≤ 223; omega) (by show _ ≤ 3072; omega) d_CG_init_128 (fun a3 H hk3 hP hJ hS => ?_)
          refine lv_dup X.1 X.2.1 d_CG_init_131 rfl ?_
          refine lv_aload X.1 X.2.1 d_CG_init_132 (lv_at hl 0 rfl) ?_
          refine ct_call hJ hS hA (va_runI (As := [.ref (a3 (nSt sh r))]) (rest := [.ref (a3 (nRp sh r)), .int (nI r), .ref rs]) (own := "CommitGroups") (index := 50) (bytes := c_Rp_init) (maxL := 2) ⟨X.1, X.2.1, X.2.2.2.2.2.2, X.2.2.1, X.2.2.2.1⟩ (C_Rp l dC dI cx a3 _ H.size sh r (by omega) hr3 ⟨hJ.1, fun _ _ => trivial⟩ (va_up_self _ _ _)) (cwI 1 X.2.2.2.1 wg_Rp_init rfl rfl rfl (X.2.2.2.1 _ (gU_mem (List.mem_append_right _ (List.mem_append_left _ (List.mem_of_getElem? (i := 6) rfl))) rfl)) (X.2.2.2.1 _ (gU_mem (List.mem_append_right _ (List.mem_append_left _ (List.mem_of_getElem? (i := 134) rfl))) rfl)) (X.2.2.2.1 _ (gU_mem (List.mem_append_right _ (List.mem_append_left _ (List.mem_of_getElem? (i := 135) rfl))) rfl)) rfl (by decide +kernel) (by decide)) (ct_pre hK hN hP _) rfl rfl hl.1 (by rw [show a3 (nSt sh r) = a1 (nSt sh r) from (hk3 _ (by omega)).trans (hk2 _ (by omega))]; rfl) (lv_room (Nat.le_of_ble_eq_true rfl)) d_CG_init_134 ⟨(by show _ ≤ 223; omega), (by show _ ≤ 3072; omega)⟩) (fun a4 H locs hk4 hJ hP hS => ?_)
          have hP := ct_E_i2 (in_C1 sh hs3 r hr3) (Or.inl (by omega)) (Or.inl (by omega)) hk3 hk4 hP
          have hkb : ∀ n, n < nRp sh r → a4 n = a2 n := fun n hn => (hk4 n (by omega)).trans (hk3 n hn)
          have ha4 := tr r1 r7 r8 r9 r10 (nRp sh r) a2 a4 (by omega) hkb ha2
          have hrs4 : a4 (nRs sh) = rs := (hkb _ (by omega)).trans hrs2
          refine ct_astA (n := nRs sh) (v := nRp sh r) hrs4 (hk4 (nRp sh r) (by omega)) X hP hJ hS (by omega) (by omega) ct_E_rs rfl ((ct_E_at (by omega) (by omega)).trans (ec_nRp (by omega) hr3 _)) rfl (by omega) (by decide) d_CG_init_137 (fun H locs hP hS => ?_)
          have hP := ct_E_cg (fun n _ => ct_E_r n) hP
          rw [e_C2 sh (by omega) r hr3] at hP hJ
          refine lv_iinc (k := 1) (v := nI (r + 1)) X.1 X.2.1 d_CG_init_138 hl rfl (nI_add _ _) (by decide) rfl (fun ls hl => ?_)
          have hl : lv_has ls 6 [(4, .int (nI (r + 1))), (5, .ref (a1 (nSt sh r))), (3, .ref rs), (2, .int (nI sh)), (1, .ref r1), (0, .ref (ad 0))] := hl
          refine lv_goto (tgt := 95) X.1 X.2.1 d_CG_init_141 (by decide) ?_
          refine W.widen (k := 114 + 32 * sh + 10 * (r + 1)) (n := 842 + 655 * sh + 217 * (r + 1)) (by omega) (by omega) ?_
          exact ihr (r + 1) a4 (by omega) ha4 hrs4 H locs ls hP hJ hS (lv_sub hl [0, 2, 3, 4, 5] rfl)
      refine lv_iload_n X.1 X.2.1 d_CG_init_82 rfl (lv_at hl 0 rfl) ?_
      refine lv_iconst (v := nI 3) X.1 X.2.1 d_CG_init_83 (by decide) ?_
      refine gx_icmp_ge X.1 X.2.1 (tgt := 164) d_CG_init_84 (by decide) (by omega) (by omega) (fun h84 => absurd h84 (by omega)) (fun h84 => ?_)
      refine lv_iconst (v := nI 3) X.1 X.2.1 d_CG_init_87 (by decide) ?_
      refine ct_newq2 (k := 3) (t0 := 6) (C := "CommitGroups$Replica") X hP hJ hS hA (by decide) rfl rfl (gU_mem (List.mem_append_right _ (List.mem_append_left _ (List.mem_of_getElem? (i := 88) rfl))) rfl) hN.2.2.2.2.2.2.2.2.2.2 (by show _ ≤ 223; omega) (by show _ ≤ 3072; omega) d_CG_init_88 (fun a1 H hk1 hP hJ hS => ?_)
      have hP := ct_E_cg (fun n (hn : n < nRs sh + 1) => show va_up (ct_E cx _ 21 sh (3 * sh) 0 4 0 a) (nRs sh) (ct_rf cx 6 3 (fun _ => none)) n = va_up (ct_E cx _ 21 sh (3 * sh) 0 sh 0 a) (nRs sh) (ct_rf cx 6 3 (fun _ => none)) n by
        by_cases z : n = nRs sh
        · rw [z, va_up_self, va_up_self]
        · rw [va_up_ne _ _ z, va_up_ne _ _ z]
          unfold ct_E
          rw [if_neg z, if_neg (show ¬ n = nRs 4 by omega)]) hP
      have hP := ct_E_p2 (in_B2 sh (by omega)) hk1 (by rw [ct_E_rs, ct_so_0]) hP
      rw [e_B1 sh (by omega)] at hP hJ
      have ha1 := tr r1 r7 r8 r9 r10 (nRs sh) a a1 (by omega) hk1 ha
      refine lv_astore_n X.1 X.2.1 d_CG_init_91 rfl hl (by decide) rfl (fun ls hl => ?_)
      have hl : lv_has ls 6 [(3, .ref (a1 (nRs sh))), (2, .int (nI sh)), (1, .ref r1), (0, .ref (ad 0))] := hl
      refine lv_iconst (v := nI 0) X.1 X.2.1 d_CG_init_92 (by decide) ?_
      refine lv_istore X.1 X.2.1 d_CG_init_93 hl (by decide) rfl (fun ls hl => ?_)
      have hl : lv_has ls 6 [(4, .int (nI 0)), (3, .ref (a1 (nRs sh))), (2, .int (nI sh)), (1, .ref r1), (0, .ref (ad 0))] := hl
      refine W.widen (k := 114 + 32 * sh + 10 * 0) (n := 842 + 655 * sh + 217 * 0) (by omega) (by omega) ?_
      exact lpC (a1 (nRs sh)) 3 0 a1 rfl ha1 rfl H _ ls hP hJ hS (lv_sub hl [0, 1, 2, 3, 4] rfl)
  have lpA : ∀ (r1 k i : Nat) (a : Nat → Nat), i + k = 21 → a 0 = ad 0 → a 1 = r1 → ∀ (H : Heap) (locs : List Loc) (ls : Array Slot), ct_P dC dI (nTx i) a (ct_E cx [.null, .null, .null, .null, .null, .int 0] i 0 0 0 4 0 a) H → gx_J (nTx i) a (ct_A 1 ad s.heap.size) → va_S (ct_A 1 ad s.heap.size) s.heap H locs → lv_has ls 6 [(2, .int (nI i)), (1, .ref r1), (0, .ref (ad 0))] → W p l e (ct_R 3 223 3072) s m ([.ref (ad 0)] : List Value).toArray below meth c H locs (1 + 5 * i) (21 + 30 * i) QQ (F0 m 12 ls []) := by
    intro r1 k
    induction k with
    | zero =>
      intro i a hik h0 h1 H locs ls hP hJ hS hl
      obtain rfl : i = 21 := by omega
      refine lv_iload_n X.1 X.2.1 d_CG_init_12 rfl (lv_at hl 0 rfl) ?_
      refine lv_bipush (v := nI 20) X.1 X.2.1 d_CG_init_13 (by decide) ?_
      refine gx_icmp_gt X.1 X.2.1 (tgt := 34) d_CG_init_15 (by decide) (by omega) (by omega) (fun h15 => ?_) (fun h15 => absurd h15 (by omega))
      have hP : ct_P dC dI 107 a (ct_E cx [.null, .null, .null, .null, .null, .int 0] 21 0 0 0 4 0 a) H := hP
      have hJ : gx_J 107 a (ct_A 1 ad s.heap.size) := hJ
      refine lv_aload_n X.1 X.2.1 d_CG_init_34 rfl (lv_at hl 2 rfl) ?_
      refine lv_aload_n X.1 X.2.1 d_CG_init_35 rfl (lv_at hl 1 rfl) ?_
      refine ct_putA (n := 0) h0 X hP hJ hS (by omega) in_CG t_CG t_CG_ok n_CG rfl rfl 0 (by decide) (gU_mem (List.mem_append_right _ (List.mem_append_left _ (List.mem_of_getElem? (i := 183) rfl))) rfl) (fun _ h => h) (Or.inr ⟨rfl, hin2, rfl⟩) (ty := .array (.object "CommitGroups$Transaction")) (by decide +kernel) rfl rfl (Nat.le_of_ble_eq_true rfl) d_CG_init_36 (fun H locs hP hS => ?_)
      have hP := ct_E_cg (fun n _ => ct_E_0 (fs2 := [.ref r1, .null, .null, .null, .null, .int 0]) rfl n) hP
      refine lv_aload_n X.1 X.2.1 d_CG_init_39 rfl (lv_at hl 2 rfl) ?_
      refine lv_iconst (v := nI 4) X.1 X.2.1 d_CG_init_40 (by decide) ?_
      refine ct_newq2 (k := 4) (t0 := 3) (C := "CommitGroups$Group") X hP hJ hS hA (by decide) rfl rfl (gU_mem (List.mem_append_right _ (List.mem_append_left _ (List.mem_of_getElem? (i := 59) rfl))) rfl) hN.2.2.2.2.2.2.2.1 (by show _ ≤ 223; omega) (by show _ ≤ 3072; omega) d_CG_init_41 (fun b1 H hkb1 hP hJ hS => ?_)
      have hP := ct_E_p2 in_7 hkb1 (show ct_rf cx 3 4 (fun _ => none) = ct_rf cx 3 4 (ct_so 0 _) by rw [ct_so_0]) hP
      have h0 : b1 0 = ad 0 := (hkb1 0 (by decide)).trans h0
      refine ct_putA (n := 0) h0 X hP hJ hS (by omega) in_CG t_CG t_CG_ok n_CG rfl rfl 1 (by decide) (gU_mem (List.mem_append_right _ (List.mem_append_left _ (List.mem_of_getElem? (i := 184) rfl))) rfl) (fun _ h => h) (Or.inr ⟨rfl, hin2, rfl⟩) (ty := .array (.object "CommitGroups$Group")) (by decide +kernel) rfl rfl (Nat.le_of_ble_eq_true rfl) d_CG_init_44 (fun H locs hP hS => ?_)
      have hP := ct_E_cg (fun n _ => ct_E_0 (fs2 := [.ref r1, .ref (b1 107), .null, .null, .null, .int 0]) rfl n) hP
      refine lv_aload_n X.1 X.2.1 d_CG_init_47 rfl (lv_at hl 2 rfl) ?_
      refine lv_bipush (v := nI 9) X.1 X.2.1 d_CG_init_48 (by decide) ?_
      refine ct_newq2 (k := 9) (t0 := 4) (C := "CommitGroups$ShardState") X hP hJ hS hA (by decide) rfl rfl (gU_mem (List.mem_append_right _ (List.mem_append_left _ (List.mem_of_getElem? (i := 61) rfl))) rfl) hN.2.2.2.2.2.2.2.2.1 (by show _ ≤ 223; omega) (by show _ ≤ 3072; omega) d_CG_init_50 (fun b2 H hkb2 hP hJ hS => ?_)
      have hP := ct_E_p2 in_8 hkb2 (show ct_rf cx 4 9 (fun _ => none) = ct_rf cx 4 9 (ct_so 0 _) by rw [ct_so_0]) hP
      have h0 : b2 0 = ad 0 := (hkb2 0 (by decide)).trans h0
      refine ct_putA (n := 0) h0 X hP hJ hS (by omega) in_CG t_CG t_CG_ok n_CG rfl rfl 2 (by decide) (gU_mem (List.mem_append_right _ (List.mem_append_left _ (List.mem_of_getElem? (i := 185) rfl))) rfl) (fun _ h => h) (Or.inr ⟨rfl, hin2, rfl⟩) (ty := .array (.object "CommitGroups$ShardState")) (by decide +kernel) rfl rfl (Nat.le_of_ble_eq_true rfl) d_CG_init_53 (fun H locs hP hS => ?_)
      have hP := ct_E_cg (fun n _ => ct_E_0 (fs2 := [.ref r1, .ref (b1 107), .ref (b2 108), .null, .null, .int 0]) rfl n) hP
      refine lv_aload_n X.1 X.2.1 d_CG_init_56 rfl (lv_at hl 2 rfl) ?_
      refine lv_iconst (v := nI 3) X.1 X.2.1 d_CG_init_57 (by decide) ?_
      refine ct_newq2 (k := 3) (t0 := 5) (C := "CommitGroups$DecisionState") X hP hJ hS hA (by decide) rfl rfl (gU_mem (List.mem_append_right _ (List.mem_append_left _ (List.mem_of_getElem? (i := 63) rfl))) rfl) hN.2.2.2.2.2.2.2.2.2.1 (by show _ ≤ 223; omega) (by show _ ≤ 3072; omega) d_CG_init_58 (fun b3 H hkb3 hP hJ hS => ?_)
      have hP := ct_E_p2 in_9 hkb3 (show ct_rf cx 5 3 (fun _ => none) = ct_rf cx 5 3 (ct_so 0 _) by rw [ct_so_0]) hP
      have h0 : b3 0 = ad 0 := (hkb3 0 (by decide)).trans h0
      refine ct_putA (n := 0) h0 X hP hJ hS (by omega) in_CG t_CG t_CG_ok n_CG rfl rfl 3 (by decide) (gU_mem (List.mem_append_right _ (List.mem_append_left _ (List.mem_of_getElem? (i := 186) rfl))) rfl) (fun _ h => h) (Or.inr ⟨rfl, hin2, rfl⟩) (ty := .array (.object "CommitGroups$DecisionState")) (by decide +kernel) rfl rfl (Nat.le_of_ble_eq_true rfl) d_CG_init_61 (fun H locs hP hS => ?_)
      have hP := ct_E_cg (fun n _ => ct_E_0 (fs2 := [.ref r1, .ref (b1 107), .ref (b2 108), .ref (b3 109), .null, .int 0]) rfl n) hP
      refine lv_aload_n X.1 X.2.1 d_CG_init_64 rfl (lv_at hl 2 rfl) ?_
      refine ct_new2 (ci := kCo) (fs := [.int 0, .null, .null, .null]) X hP hJ hS hA in_Co t_Co t_Co_ok (gU_mem (List.mem_append_right _ (List.mem_append_left _ (List.mem_of_getElem? (i := 65) rfl))) rfl) (gU_mem (List.mem_append_right _ (List.mem_append_left _ (List.mem_of_getElem? (i := 66) rfl))) rfl) (gU_mem (List.mem_append_right _ (List.mem_append_left _ (List.mem_of_getElem? (i := 3) rfl))) rfl) rfl (fun j hj => by rcases (show j = 0 ∨ j = 1 ∨ j = 2 ∨ j = 3 by omega) with rfl | rfl | rfl | rfl <;> rfl) (by show _ ≤ 223; omega) (by show _ ≤ 3072; omega) d_CG_init_65 (fun b4 H hkb4 hP hJ hS => ?_)
      refine lv_dup X.1 X.2.1 d_CG_init_68 rfl ?_
      refine ct_call hJ hS hA (va_runIN (As := []) (rest := [.ref (b4 110), .ref (ad 0)]) (own := "CommitGroups") (host := "CommitGroups") (index := 36) (bytes := c_Co_init) (maxL := 1) ⟨X.1, X.2.1, X.2.2.2.2.2.2, X.2.2.1, X.2.2.2.1⟩ (C_Co l dC dI cx b4 _ H.size  ⟨hJ.1, fun _ _ => trivial⟩ (va_up_self _ _ _)) ⟨va_cnB 0 X.2.2.2.1 wg_Co_init rfl rfl rfl hN.2.2.1 (X.2.2.2.1 _ (gU_mem (List.mem_append_right _ (List.mem_append_left _ (List.mem_of_getElem? (i := 3) rfl))) rfl)) (by decide +kernel) (by decide), rfl, X.2.2.2.1 _ (gU_mem (List.mem_append_right _ (List.mem_append_left _ (List.mem_of_getElem? (i := 68) rfl))) rfl)⟩ (ct_pre hK hN hP _) rfl rfl hl.1 rfl (lv_room (Nat.le_of_ble_eq_true rfl)) d_CG_init_69 ⟨(by show _ ≤ 223; omega), (by show _ ≤ 3072; omega)⟩) (fun b5 H locs hkb5 hJ hP hS => ?_)
      have hP := ct_E_i2 in_10 (Or.inl (by decide)) (Or.inr (by decide)) hkb4 hkb5 hP
      have h0 : b5 0 = ad 0 := (hkb5 0 (by decide)).trans ((hkb4 0 (by decide)).trans h0)
      refine ct_putA (n := 0) h0 X hP hJ hS (by omega) in_CG t_CG t_CG_ok n_CG rfl rfl 4 (by decide) (gU_mem (List.mem_append_right _ (List.mem_append_left _ (List.mem_of_getElem? (i := 187) rfl))) rfl) (fun _ h => h) (Or.inr ⟨rfl, hin2, rfl⟩) (ty := .object "CommitGroups$Coordinator") (by decide +kernel) rfl rfl (Nat.le_of_ble_eq_true rfl) d_CG_init_72 (fun H locs hP hS => ?_)
      have hP := ct_E_cg (fun n _ => ct_E_0 (fs2 := [.ref r1, .ref (b1 107), .ref (b2 108), .ref (b3 109), .ref (b4 110), .int 0]) rfl n) hP
      refine lv_aload_n X.1 X.2.1 d_CG_init_75 rfl (lv_at hl 2 rfl) ?_
      refine lv_iconst (v := nI 0) X.1 X.2.1 d_CG_init_76 (by decide) ?_
      refine ct_putA (n := 0) h0 X hP hJ hS (by omega) in_CG t_CG t_CG_ok n_CG rfl rfl 5 (by decide) (gU_mem (List.mem_append_right _ (List.mem_append_left _ (List.mem_of_getElem? (i := 188) rfl))) rfl) (fun _ h => h) (Or.inl rfl) (ty := .int) (by decide +kernel) rfl rfl (Nat.le_of_ble_eq_true rfl) d_CG_init_77 (fun H locs hP hS => ?_)
      have hP := ct_E_cg (fun n _ => ct_E_0 (fs2 := [.ref r1, .ref (b1 107), .ref (b2 108), .ref (b3 109), .ref (b4 110), .int (nI 0)]) rfl n) hP
      refine lv_iconst (v := nI 0) X.1 X.2.1 d_CG_init_80 (by decide) ?_
      refine lv_istore_n X.1 X.2.1 d_CG_init_81 rfl hl (by decide) rfl (fun ls hl => ?_)
      have hl : lv_has ls 6 [(2, .int (nI 0)), (1, .ref r1), (0, .ref (ad 0))] := hl
      have ha : b5 0 = ad 0 ∧ b5 1 = r1 ∧ b5 107 = b1 107 ∧ b5 108 = b2 108 ∧ b5 109 = b3 109 ∧ b5 110 = b4 110 := ⟨h0, (hkb5 1 (by decide)).trans ((hkb4 1 (by decide)).trans ((hkb3 1 (by decide)).trans ((hkb2 1 (by decide)).trans ((hkb1 1 (by decide)).trans h1)))), (hkb5 107 (by decide)).trans ((hkb4 107 (by decide)).trans ((hkb3 107 (by decide)).trans (hkb2 107 (by decide)))), (hkb5 108 (by decide)).trans ((hkb4 108 (by decide)).trans (hkb3 108 (by decide))), (hkb5 109 (by decide)).trans (hkb4 109 (by decide)), hkb5 110 (by decide)⟩
      refine W.widen (k := 113 + 32 * 0) (n := 839 + 655 * 0) (by omega) (by omega) ?_
      exact lpB r1 (b1 107) (b2 108) (b3 109) (b4 110) 3 0 b5 rfl ha H locs ls hP hJ hS (lv_sub hl [0, 1, 2] rfl)
    | succ k ih =>
      intro i a hik h0 h1 H locs ls hP hJ hS hl
      have hi : i < 21 := by omega
      have n1 : nTx i = 2 + 5 * i := rfl
      have n4 : nRs 4 = 242 := rfl
      refine lv_iload_n X.1 X.2.1 d_CG_init_12 rfl (lv_at hl 0 rfl) ?_
      refine lv_bipush (v := nI 20) X.1 X.2.1 d_CG_init_13 (by decide) ?_
      refine gx_icmp_gt X.1 X.2.1 (tgt := 34) d_CG_init_15 (by decide) (by omega) (by omega) (fun h15 => absurd h15 (by omega)) (fun h15 => ?_)
      refine lv_aload_n X.1 X.2.1 d_CG_init_18 rfl (lv_at hl 1 rfl) ?_
      refine lv_iload_n X.1 X.2.1 d_CG_init_19 rfl (lv_at hl 0 rfl) ?_
      refine ct_new2 (ci := kTx) (fs := [.null, .null, .null, .null, .int 0, .int 0]) X hP hJ hS hA in_Tx t_Tx t_Tx_ok (gU_mem (List.mem_append_right _ (List.mem_append_left _ (List.mem_of_getElem? (i := 22) rfl))) rfl) (gU_mem (List.mem_append_right _ (List.mem_append_left _ (List.mem_of_getElem? (i := 24) rfl))) rfl) (gU_mem (List.mem_append_right _ (List.mem_append_left _ (List.mem_of_getElem? (i := 2) rfl))) rfl) rfl (fun j hj => by rcases (show j = 0 ∨ j = 1 ∨ j = 2 ∨ j = 3 ∨ j = 4 ∨ j = 5 by omega) with rfl | rfl | rfl | rfl | rfl | rfl <;> rfl) (by show _ ≤ 223; omega) (by show _ ≤ 3072; omega) d_CG_init_20 (fun a1 H hk1 hP hJ hS => ?_)
      refine lv_dup X.1 X.2.1 d_CG_init_23 rfl ?_
      refine ct_call hJ hS hA (va_runIN (As := []) (rest := [.ref (a1 (nTx i)), .int (nI i), .ref r1]) (own := "CommitGroups") (host := "CommitGroups") (index := 11) (bytes := c_Tx_init) (maxL := 1) ⟨X.1, X.2.1, X.2.2.2.2.2.2, X.2.2.1, X.2.2.2.1⟩ (C_Tx l dC dI cx a1 _ H.size i hi ⟨hJ.1, fun _ _ => trivial⟩ (va_up_self _ _ _)) ⟨va_cnB 0 X.2.2.2.1 wg_Tx_init rfl rfl rfl hN.2.1 (X.2.2.2.1 _ (gU_mem (List.mem_append_right _ (List.mem_append_left _ (List.mem_of_getElem? (i := 2) rfl))) rfl)) (by decide +kernel) (by decide), rfl, X.2.2.2.1 _ (gU_mem (List.mem_append_right _ (List.mem_append_left _ (List.mem_of_getElem? (i := 26) rfl))) rfl)⟩ (ct_pre hK hN hP _) rfl rfl hl.1 rfl (lv_room (Nat.le_of_ble_eq_true rfl)) d_CG_init_24 ⟨(by show _ ≤ 223; omega), (by show _ ≤ 3072; omega)⟩) (fun a2 H locs hk2 hJ hP hS => ?_)
      have hP := ct_E_i2 (in_A i (by omega)) (Or.inr ⟨by omega, by omega⟩) (Or.inr (by omega)) hk1 hk2 hP
      have hka : ∀ n, n < nTx i → a2 n = a n := fun n hn => (hk2 n (by omega)).trans (hk1 n hn)
      have h0 : a2 0 = ad 0 := (hka 0 (by omega)).trans h0
      have h1 : a2 1 = r1 := (hka 1 (by omega)).trans h1
      refine ct_astA (n := 1) (v := nTx i) h1 (hk2 (nTx i) (by omega)) X hP hJ hS (by omega) (by omega) rfl rfl ((ct_E_at (by omega) (by omega)).trans (ec_nTx hi _)) rfl hi (by decide) d_CG_init_27 (fun H locs hP hS => ?_)
      have hP := ct_E_cg (fun n _ => ct_E_1 n) hP
      rw [e_A1 i] at hP hJ
      refine lv_iinc (k := 0) (v := nI (i + 1)) X.1 X.2.1 d_CG_init_28 hl rfl (nI_add _ _) (by decide) rfl (fun ls hl => ?_)
      have hl : lv_has ls 6 [(2, .int (nI (i + 1))), (1, .ref r1), (0, .ref (ad 0))] := hl
      refine lv_goto (tgt := 12) X.1 X.2.1 d_CG_init_31 (by decide) ?_
      refine W.widen (k := 1 + 5 * (i + 1)) (n := 21 + 30 * (i + 1)) (by omega) (by omega) ?_
      exact ih (i + 1) a2 (by omega) h0 h1 H locs ls hP hJ hS (lv_sub hl [0, 1, 2] rfl)
  refine lv_aload_n X.1 X.2.1 d_CG_init_0 rfl (lv_at hl 0 rfl) ?_
  refine ct_obj X (gU_mem (List.mem_append_right _ (List.mem_append_left _ (List.mem_of_getElem? (i := 19) rfl))) rfl) hl.1 (by decide) d_CG_init_1 (gU_mem (List.mem_append_right _ (List.mem_append_left _ (List.mem_of_getElem? (i := 20) rfl))) rfl) ?_
  refine lv_bipush (v := nI 21) X.1 X.2.1 d_CG_init_4 (by decide) ?_
  refine ct_newq2 (k := 21) (t0 := 2) (C := "CommitGroups$Transaction") X hP hJ hS hA (by decide) rfl rfl (gU_mem (List.mem_append_right _ (List.mem_append_left _ (List.mem_of_getElem? (i := 22) rfl))) rfl) hN.2.2.2.2.2.2.1 (by show _ ≤ 223; omega) (by show _ ≤ 3072; omega) d_CG_init_6 (fun a1 H hk1 hP hJ hS => ?_)
  refine lv_astore_n X.1 X.2.1 d_CG_init_9 rfl hl (by decide) rfl (fun ls hl => ?_)
  have hl : lv_has ls 6 [(1, .ref (a1 1)), (0, .ref (ad 0))] := hl
  refine lv_iconst (v := nI 0) X.1 X.2.1 d_CG_init_10 (by decide) ?_
  refine lv_istore_n X.1 X.2.1 d_CG_init_11 rfl hl (by decide) rfl (fun ls hl => ?_)
  have hl : lv_has ls 6 [(2, .int (nI 0)), (1, .ref (a1 1)), (0, .ref (ad 0))] := hl
  have hP : ct_P dC dI (nTx 0) a1 (ct_E cx [.null, .null, .null, .null, .null, .int 0] 0 0 0 0 4 0 a1) H := ct_E_cg (fun n (hn : n < 2) => by
    rcases (show n = 0 ∨ n = 1 by omega) with rfl | rfl
    · rw [va_up_ne _ _ (by decide), hE]; rfl
    · rw [va_up_self]
      show _ = ct_rf cx 2 21 (ct_so 0 _)
      rw [ct_so_0]) hP
  refine W.widen (k := 1 + 5 * 0) (n := 21 + 30 * 0) (by omega) (by omega) ?_
  exact lpA (a1 1) 21 0 a1 rfl (hk1 0 (by decide)) rfl H _ ls hP hJ hS (lv_sub hl [0, 1, 2] rfl)
