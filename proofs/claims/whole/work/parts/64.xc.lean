/-! the coordinator and the face, seen in the numbers -/
theorem xr_tc {σ : gx_M} {a : ab_S} (hx : xr_tx σ a) {t sh : Nat} (ht : t < 21) : (∃ i, i < σ (nTx t) 4 ∧ σ (nTy t) i % 3 = sh) ↔ ab_tc a t sh = true := by
  obtain ⟨h1, h2, h3, h4⟩ := hx t ht
  unfold ab_tc
  rw [List.any_eq_true, h1]
  constructor
  · rintro ⟨i, hi, hk⟩
    have ho : (ab_op a t)[i]? = some (ab_op a t)[i] := List.getElem?_eq_getElem hi
    refine ⟨(ab_op a t)[i], List.getElem_mem hi, ?_⟩
    rw [(h3 i _ ho).2.1] at hk
    simpa using hk
  · rintro ⟨o, ho, hk⟩
    obtain ⟨i, hi⟩ := List.getElem?_of_mem ho
    have hlt := (List.getElem?_eq_some_iff.mp hi).1
    refine ⟨i, hlt, ?_⟩
    rw [(h3 i o hi).2.1]
    simpa using hk
theorem K_reaches (l : Launch) (dC : Nat → ClassId) (dI : Nat → Nat → Nat) (cx : Nat → ClassId) (ad : Nat → Nat) (hJ : gx_J gx_N ad (gx_A gx_N ad)) (σ : gx_M) (a : ab_S) (t sh : Nat) (ht : t < 21) (hs : sh < 3) (hx : xr_tx σ a) (hw : ab_W a) : cg_Mi l dC dI cx ad y_Tx_reaches w_Tx_reaches 0 [.ref (ad (nTx t)), .int (nI sh)] σ (fun r σ' => σ' = σ ∧ gx_bo (ab_tc a t sh = true) r) := by
  have h := K_Tx_reaches l dC dI cx ad hJ σ t sh ht hs (by rw [(hx t ht).1]; exact (hw.2.1 t).1) (fun i hi => by
    obtain ⟨h1, h2, h3, h4⟩ := hx t ht
    rw [h1] at hi
    have ho : (ab_op a t)[i]? = some (ab_op a t)[i] := List.getElem?_eq_getElem hi
    rw [(h3 i _ ho).2.1]
    exact ((hw.2.1 t).2 _ (List.getElem_mem hi)).2)
  have e : (∃ i, i < σ (nTx t) 4 ∧ σ (nTy t) i % 3 = sh) = (ab_tc a t sh = true) := propext (xr_tc hx ht)
  rw [e] at h
  exact h
/-- a closed transaction -/
theorem xr_close {σ : gx_M} {a : ab_S} (h : xr σ a) {t : Nat} (ht : t < 21) : xr (gx_w σ (nTx t) 5 1) (ab_close a t) := by
  have fT5 : fT (nTx t) := ⟨by unfold nTx; omega, by unfold nTx; omega⟩
  refine xr_T h (chg_w _ _ _ fT5) ?_ ?_ rfl rfl rfl rfl rfl rfl rfl rfl rfl
  · intro u hu
    obtain ⟨y1, y2, y3, y4⟩ := h.2.1 u hu
    have n1 : nTk u ≠ nTx t := by unfold nTk nTx; omega
    have n2 : nTy u ≠ nTx t := by unfold nTy nTx; omega
    have n3 : nTa u ≠ nTx t := by unfold nTa nTx; omega
    have n4 : nTn u ≠ nTx t := by unfold nTn nTx; omega
    rw [gx_w_row _ _ _ n1, gx_w_row _ _ _ n2, gx_w_row _ _ _ n3, gx_w_row _ _ _ n4]
    show _ ∧ _ = xb (pu_up (ab_cl a) t true u) ∧ _ ∧ _
    by_cases q : u = t
    · subst q
      rw [gx_w_self, gx_w_col _ _ _ (show (4 : Nat) ≠ 5 by decide), pu_up_self]
      exact ⟨y1, rfl, y3, y4⟩
    · have n5 : nTx u ≠ nTx t := by unfold nTx; omega
      rw [gx_w_row _ _ _ n5, pu_up_ne _ _ q]
      exact ⟨y1, y2, y3, y4⟩
  · exact h.2.2.2.1
/-- one more operation -/
theorem pu_need_snoc (L : List pu_Op) (o : pu_Op) (k : Nat) : pu_need (L ++ [o]) k = if o.2.1 = k then max (pu_need L k) (if o.1 = 0 then 1 else 2) else pu_need L k := by
  have h2 : (pu_need L k = 2 ↔ (L.any fun o => o.2.1 == k && o.1 != 0) = true) ∧ (0 < pu_need L k ↔ (L.any fun o => o.2.1 == k) = true) := by
    unfold pu_need
    constructor
    · by_cases q : (L.any fun o => o.2.1 == k && o.1 != 0) = true
      · rw [if_pos q]; exact ⟨fun _ => q, fun _ => rfl⟩
      · rw [if_neg q]
        constructor
        · intro z; split at z <;> simp at z
        · intro z; exact absurd z q
    · by_cases q : (L.any fun o => o.2.1 == k && o.1 != 0) = true
      · rw [if_pos q]
        constructor
        · intro _
          rw [List.any_eq_true] at q ⊢
          obtain ⟨x, x1, x2⟩ := q
          exact ⟨x, x1, by simp at x2; simp [x2.1]⟩
        · intro _; decide
      · rw [if_neg q]
        by_cases z : (L.any fun o => o.2.1 == k) = true
        · rw [if_pos z]; exact ⟨fun _ => z, fun _ => by decide⟩
        · rw [if_neg z]; exact ⟨fun y => absurd y (by decide), fun y => absurd y z⟩
  have hle := pu_need_le L k
  have e : pu_need (L ++ [o]) k = if ((L.any fun o => o.2.1 == k && o.1 != 0) || (o.2.1 == k && o.1 != 0)) = true then 2 else if ((L.any fun o => o.2.1 == k) || (o.2.1 == k)) = true then 1 else 0 := by
    unfold pu_need
    rw [List.any_append, List.any_append]
    simp only [List.any_cons, List.any_nil, Bool.or_false]
  rw [e]
  obtain ⟨a1, a2⟩ := h2
  cases x1 : (L.any fun o => o.2.1 == k && o.1 != 0) <;> cases x2 : (L.any fun o => o.2.1 == k) <;> rw [x1] at a1 <;> rw [x2] at a2 <;> simp at a1 a2 <;> by_cases y1 : o.2.1 = k <;> by_cases y2 : o.1 = 0 <;> simp [y1, y2] <;> omega
theorem xr_setop {σ : gx_M} {a : ab_S} (h : xr σ a) (hw : ab_W a) {t : Nat} (ht : t < 21) (hc : ab_cl a t = false) (hl : (ab_op a t).length < 4) {k y v : Nat} (hy : y < 12) (hex : ∀ s r, s < 3 → r < 3 → ∀ e, e ∈ ab_lg a s r → e.2 ≠ t) :
    xr (gx_w (gx_w (gx_w (gx_w (gx_w σ (nTk t) (σ (nTx t) 4) k) (nTy t) (σ (nTx t) 4) y) (nTa t) (σ (nTx t) 4) v) (nTx t) 4 (σ (nTx t) 4 + 1)) (nTn t) y (max (σ (nTn t) y) (if k = 0 then 1 else 2))) (ab_setop a t (ab_op a t ++ [(k, y, v)])) := by
  obtain ⟨z1, z2, z3, z4⟩ := h.2.1 t ht
  have ft : ∀ j, j < 5 → fT (2 + 5 * t + j) := fun j hj => ⟨by omega, by omega⟩
  have c1 : chg fT σ (gx_w σ (nTk t) (σ (nTx t) 4) k) := chg_w _ _ _ (by have := ft 1 (by decide); unfold nTk; rw [show 3 + 5 * t = 2 + 5 * t + 1 by omega]; exact this)
  have c2 := chg_trans c1 (chg_w (gx_w σ (nTk t) (σ (nTx t) 4) k) (n := nTy t) (σ (nTx t) 4) y (by have := ft 2 (by decide); unfold nTy; rw [show 4 + 5 * t = 2 + 5 * t + 2 by omega]; exact this))
  have c3 := chg_trans c2 (chg_w _ (n := nTa t) (σ (nTx t) 4) v (by have := ft 3 (by decide); unfold nTa; rw [show 5 + 5 * t = 2 + 5 * t + 3 by omega]; exact this))
  have c4 := chg_trans c3 (chg_w _ (n := nTx t) 4 (σ (nTx t) 4 + 1) (by have := ft 0 (by decide); unfold nTx; exact this))
  have c5 := chg_trans c4 (chg_w _ (n := nTn t) y (max (σ (nTn t) y) (if k = 0 then 1 else 2)) (by have := ft 4 (by decide); unfold nTn; rw [show 6 + 5 * t = 2 + 5 * t + 4 by omega]; exact this))
  refine xr_T h c5 ?_ ?_ rfl rfl rfl rfl rfl rfl rfl rfl rfl
  · intro u hu
    obtain ⟨y1, y2, y3, y4⟩ := h.2.1 u hu
    show _ = (pu_up (ab_op a) t (ab_op a t ++ [(k, y, v)]) u).length ∧ _ = xb (ab_cl a u) ∧ (∀ i o, (pu_up (ab_op a) t (ab_op a t ++ [(k, y, v)]) u)[i]? = some o → _) ∧ ∀ j, j < 12 → _ = pu_need (pu_up (ab_op a) t (ab_op a t ++ [(k, y, v)]) u) j
    by_cases q : u = t
    · subst q
      have d1 : nTx u ≠ nTk u := by unfold nTx nTk; omega
      have d2 : nTx u ≠ nTy u := by unfold nTx nTy; omega
      have d3 : nTx u ≠ nTa u := by unfold nTx nTa; omega
      have d4 : nTx u ≠ nTn u := by unfold nTx nTn; omega
      have d5 : nTk u ≠ nTy u := by unfold nTk nTy; omega
      have d6 : nTk u ≠ nTa u := by unfold nTk nTa; omega
      have d7 : nTk u ≠ nTn u := by unfold nTk nTn; omega
      have d8 : nTy u ≠ nTa u := by unfold nTy nTa; omega
      have d9 : nTy u ≠ nTn u := by unfold nTy nTn; omega
      have d10 : nTa u ≠ nTn u := by unfold nTa nTn; omega
      rw [pu_up_self]
      refine ⟨?_, ?_, fun i o hio => ?_, fun j hj => ?_⟩
      · rw [gx_w_row _ _ _ d4, gx_w_self, List.length_append, y1]; rfl
      · rw [gx_w_row _ _ _ d4, gx_w_col _ _ _ (show (5 : Nat) ≠ 4 by decide), gx_w_row _ _ _ d3, gx_w_row _ _ _ d2, gx_w_row _ _ _ d1]; exact y2
      · rw [gx_w_row _ _ _ d7, gx_w_row _ _ _ d1.symm, gx_w_row _ _ _ d6, gx_w_row _ _ _ d5, gx_w_row _ _ _ d9, gx_w_row _ _ _ d2.symm, gx_w_row _ _ _ d8, gx_w_row _ _ _ d10, gx_w_row _ _ _ d3.symm]
        by_cases qi : i = (ab_op a u).length
        · subst qi
          rw [List.getElem?_append_right (Nat.le_refl _)] at hio
          have : o = (k, y, v) := by simpa using hio.symm
          subst this
          rw [y1, gx_w_self, gx_w_self, gx_w_self]
          exact ⟨rfl, rfl, rfl⟩
        · have hlt := (List.getElem?_eq_some_iff.mp hio).1
          rw [List.length_append] at hlt
          have hlt2 : i < (ab_op a u).length := by simp at hlt; omega
          rw [List.getElem?_append_left hlt2] at hio
          rw [y1, gx_w_col _ _ _ qi, gx_w_col _ _ _ qi, gx_w_col _ _ _ qi, gx_w_row _ _ _ d5.symm, gx_w_row _ _ _ d8.symm, gx_w_row _ _ _ d6.symm]
          exact y3 i o hio
      · rw [pu_need_snoc]
        show _ = if y = j then max (pu_need (ab_op a u) j) (if k = 0 then 1 else 2) else pu_need (ab_op a u) j
        by_cases qj : j = y
        · subst qj
          rw [gx_w_self, if_pos rfl, y4 j hj]
        · rw [gx_w_col _ _ _ qj, if_neg (fun z => qj z.symm), gx_w_row _ _ _ d4.symm, gx_w_row _ _ _ d10.symm, gx_w_row _ _ _ d9.symm, gx_w_row _ _ _ d7.symm]
          exact y4 j hj
    · rw [pu_up_ne _ _ q]
      have row : ∀ b : Nat, b < 5 → (gx_w (gx_w (gx_w (gx_w (gx_w σ (nTk t) (σ (nTx t) 4) k) (nTy t) (σ (nTx t) 4) y) (nTa t) (σ (nTx t) 4) v) (nTx t) 4 (σ (nTx t) 4 + 1)) (nTn t) y (max (σ (nTn t) y) (if k = 0 then 1 else 2))) (2 + 5 * u + b) = σ (2 + 5 * u + b) := by
        intro b hb
        rw [gx_w_row _ _ _ (by unfold nTn; omega), gx_w_row _ _ _ (by unfold nTx; omega), gx_w_row _ _ _ (by unfold nTa; omega), gx_w_row _ _ _ (by unfold nTy; omega), gx_w_row _ _ _ (by unfold nTk; omega)]
      have r0 := row 0 (by decide)
      have r1 := row 1 (by decide)
      have r2 := row 2 (by decide)
      have r3 := row 3 (by decide)
      have r4 := row 4 (by decide)
      rw [show 2 + 5 * u + 0 = nTx u by unfold nTx; omega] at r0
      rw [show 2 + 5 * u + 1 = nTk u by unfold nTk; omega] at r1
      rw [show 2 + 5 * u + 2 = nTy u by unfold nTy; omega] at r2
      rw [show 2 + 5 * u + 3 = nTa u by unfold nTa; omega] at r3
      rw [show 2 + 5 * u + 4 = nTn u by unfold nTn; omega] at r4
      rw [r0, r1, r2, r3, r4]
      exact ⟨y1, y2, y3, y4⟩
  · intro s r hs hr
    obtain ⟨w1, w2⟩ := h.2.2.2.1 s r hs hr
    refine ⟨w1, ?_⟩
    have same : ∀ u, u ≠ t → ab_op (ab_setop a t (ab_op a t ++ [(k, y, v)])) u = ab_op a u := fun u q => pu_up_ne _ _ q
    have eex : ab_ex (ab_setop a t (ab_op a t ++ [(k, y, v)])) s r = ab_ex a s r := by
      unfold ab_ex
      show pu_ex (ab_op (ab_setop a t (ab_op a t ++ [(k, y, v)]))) s ((ab_lg a s r).take (ab_dn a s r)) = _
      exact pu_ex_congr s _ (fun e he => same e.2 (hex s r hs hr e (List.mem_of_mem_take he)))
    rw [eex]
    have ht0 : (ab_ex a s r).1 t = 0 := by
      apply Classical.byContradiction
      intro q
      obtain ⟨kk, hk⟩ := pu_ex_vo_in _ _ _ _ q
      exact hex s r hs hr _ (List.mem_of_mem_take hk) rfl
    obtain ⟨p1, p2, p3, p4, p5, p6, p7⟩ := w2
    refine ⟨p1, p2, p3, p4, ?_, ?_, p7⟩
    · intro kk hk
      refine ⟨(p5 kk hk).1, fun u u1 u2 => ?_⟩
      by_cases q : u = t
      · subst q
        rw [(p5 kk hk).2 u u1 u2, ht0]
        exact ⟨fun z => absurd z.1 (by decide), fun z => absurd z.1 (by decide)⟩
      · rw [same u q]; exact (p5 kk hk).2 u u1 u2
    · intro kk hk
      refine ⟨(p6 kk hk).1, fun u u1 => ?_⟩
      by_cases q : u = t
      · subst q
        rw [(p6 kk hk).2 u u1, ht0]
        exact ⟨fun z => absurd z.1 (by decide), fun z => absurd z.1 (by decide)⟩
      · rw [same u q]; exact (p6 kk hk).2 u u1
