/-! constructors: rows by address; the first numbers -/
theorem va_up_eq {α : Type} {f : Nat → α} {k n : Nat} {v : α} (h : n = k) : va_up f k v n = v := by subst h; exact va_up_self _ _ _
theorem gx_wl_ad {N : Nat} {ad ad2 : Nat → Nat} {f : Nat → va_E} (h : ∀ n, n < N → ad2 n = ad n) : gx_wl N ad2 f = gx_wl N ad f := by
  unfold gx_wl
  apply List.map_congr_left
  intro a ha
  rw [h a (List.mem_range.mp ha)]
def gs0 : gx_M := fun n k =>
  if n = 110 ∧ k = 0 then 1
  else if 114 ≤ n ∧ n < 210 ∧ ((n - 114) % 32 = 1 ∨ (n - 114) % 32 = 11 ∨ (n - 114) % 32 = 21) ∧ k = 0 then (n - 114) / 32
  else if 114 ≤ n ∧ n < 210 ∧ ((n - 114) % 32 = 9 ∨ (n - 114) % 32 = 19 ∨ (n - 114) % 32 = 29) ∧ k = 2 then 1
  else if (n = 213 ∨ n = 217 ∨ n = 221) ∧ k = 2 then 1 else 0
theorem gs0_z {n : Nat} (h : n < 110 ∨ n = 111 ∨ n = 112 ∨ n = 113 ∨ 223 ≤ n ∨ (114 ≤ n ∧ n < 210 ∧ (n - 114) % 32 ≠ 1 ∧ (n - 114) % 32 ≠ 11 ∧ (n - 114) % 32 ≠ 21 ∧ (n - 114) % 32 ≠ 9 ∧ (n - 114) % 32 ≠ 19 ∧ (n - 114) % 32 ≠ 29) ∨ (210 ≤ n ∧ n ≠ 213 ∧ n ≠ 217 ∧ n ≠ 221)) : gs0 n = fun _ => 0 := by
  funext k
  unfold gs0
  rw [if_neg (by omega), if_neg (by omega), if_neg (by omega), if_neg (by omega)]
theorem gs0_Co : gs0 110 0 = 1 := rfl
theorem gs0_SS {s r : Nat} (hs : s < 3) (hr : r < 3) : gs0 (nSt s r) 0 = s := by
  rw [nSt_num hs]
  unfold gs0
  rcases pu_lt3 hr with rfl | rfl | rfl
  all_goals
    rw [if_neg (by omega), if_pos (by omega)]
    omega
theorem gs0_Rp {g r : Nat} (hg : g < 4) (hr : r < 3) : gs0 (nRp g r) 2 = 1 ∧ gs0 (nRp g r) 3 = 0 ∧ gs0 (nRp g r) 4 = 0 ∧ gs0 (nRp g r) 5 = 0 := by
  have h : (g < 3 ∧ nRp g r = 123 + 32 * g + 10 * r) ∨ (g = 3 ∧ nRp g r = 213 + 4 * r) := by
    unfold nRp
    by_cases q : g = 3
    · rw [if_pos q]; omega
    · rw [if_neg q]; omega
  generalize nRp g r = n at h
  unfold gs0
  refine ⟨?_, ?_, ?_, ?_⟩
  · rw [if_neg (by omega), if_neg (by omega)]
    rcases h with h | h
    · rcases pu_lt3 hr with rfl | rfl | rfl
      all_goals rw [if_pos (by omega)]
    · rw [if_neg (by omega), if_pos (by omega)]
  · rw [if_neg (by omega), if_neg (by omega), if_neg (by omega), if_neg (by omega)]
  · rw [if_neg (by omega), if_neg (by omega), if_neg (by omega), if_neg (by omega)]
  · rw [if_neg (by omega), if_neg (by omega), if_neg (by omega), if_neg (by omega)]
section CT
variable {p : Program} {l : Launch} {e : Env} {R : Room} {s : State} {m : MethodId} {args : Array Value} {below : List Frame} {meth : Method} {c : Code} {H : Heap} {locs : List Loc} {cells slots : Nat} {Q : State → Prop}
variable {cc : ByteArray} {pc : Nat} {ls : Array Slot} {rest st0 : List Value} {A : Nat → Prop} {H0 : Heap} {dC : Nat → ClassId} {dI : Nat → Nat → Nat} {cx : Nat → ClassId} {ad : Nat → Nat} {own : String} {nL N : Nat} {E : Nat → va_E}
theorem ct_putA {n r : Nat} (hr : ad n = r) (X : cg_X cc own nL dC dI cx p m c s args) (hP : ct_P dC dI N ad E H) (hJ : gx_J N ad A) (hS : va_S A H0 H locs) (hn : n < N) {C ref : String} {T : u_T} {NF ci index : Nat} (hin : ∀ w ∈ u_ws C T NF, w ∈ gU) (ty0 : Nat → FieldType) (hty : ∀ k, k < NF → parseFieldDescriptor (T k).2.2.1 = some (ty0 k)) (hnm : ∀ a, a < NF → ∀ b, b < NF → a ≠ b → (T a).2.1 ≠ (T b).2.1) {fs : List Value} (hE : E n = .inr (ci, fs)) (hc : cg_cl[ci]? = some (C, T, NF)) (k : Nat) (hk : k < NF) (hlink : Cond.fieldLink own index ref (T k).2.1 (T k).2.2.1 ∈ gU) (hsame : ∀ x, s.fieldFound? (T k).1 (T k).2.1 (T k).2.2.1 = some x → s.fieldFound? ref (T k).2.1 (T k).2.2.1 = some x) (hfin : (T k).2.2.2 = false ∨ ((T k).2.2.2 = true ∧ meth.name = "<init>" ∧ (T k).1 = own)) {ty : FieldType} {w : Value} (hd : parseFieldDescriptor (T k).2.2.1 = some ty) (hnw : narrow ty w = w) (hfit : fits ty w = true) (hl : k < fs.length) (hdg : decode cc pc = .ok (.putfield index, 3))
    (kk : ∀ (H : Heap) (locs : List Loc), ct_P dC dI N ad (va_up E n (.inr (ci, fs.set k w))) H → va_S A H0 H locs → W p l e R s m args below meth c H locs cells slots Q (F0 m (pc + 3) ls rest)) : W p l e R s m args below meth c H locs cells slots Q (F0 m pc ls (w :: .ref r :: rest)) := by
  subst hr
  exact ct_put X hP hJ hS hn hin ty0 hty hnm hE hc k hk hlink hsame hfin hd hnw hfit hl hdg kk
theorem ct_obj (X : cg_X cc own nL dC dI cx p m c s args) {index : Nat} (hlk : Cond.methodLink own index y_Ob_init ∈ gU) (hls : ls.size = nL) {a : Nat} (hR : 1 ≤ R.frames ∧ (rest.map fun v => v.category).sum + 12 ≤ R.locals) (hdg : decode cc pc = .ok (.invokespecial index, 3)) (him : Cond.instanceMethod y_Ob_init ∈ gU)
    (kk : W p l e R s m args below meth c H locs cells slots Q (F0 m (pc + 3) ls rest)) : W p l e R s m args below meth c H locs cells slots Q (F0 m pc ls (.ref a :: rest)) :=
  W.objInit X.1 X.2.1 X.2.2.1 (X.2.2.2.1 _ hlk) (X.2.2.2.1 _ him) (X.2.2.2.1 _ wc_Ob_init) rfl (hls.trans X.2.2.2.2.2.2.symm) rfl hdg hR.1 (by have := hR.2; show 2 * 0 + _ + 12 ≤ _; omega) kk
end CT
