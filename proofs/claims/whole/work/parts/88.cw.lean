/-! constructors: rows with a named new cell; where the cells lie -/
theorem in_A : ∀ i, i < 22 → ct_in (nTx i) i 0 0 0 4 0 := by unfold ct_in; decide +kernel
theorem in_A1 : ∀ i, i < 21 → ct_in (nTx (i + 1)) i 0 0 0 4 0 := by unfold ct_in; decide +kernel
theorem in_7 : ct_in 107 21 0 0 0 4 0 := by unfold ct_in; decide +kernel
theorem in_8 : ct_in 108 21 0 0 0 4 0 := by unfold ct_in; decide +kernel
theorem in_9 : ct_in 109 21 0 0 0 4 0 := by unfold ct_in; decide +kernel
theorem in_10 : ct_in 110 21 0 0 0 4 0 := by unfold ct_in; decide +kernel
theorem in_B : ∀ s, s < 4 → ct_in (nRs s) 21 s (3 * s) 0 4 0 := by unfold ct_in; decide +kernel
theorem in_B2 : ∀ s, s < 4 → ct_in (nRs s) 21 s (3 * s) 0 s 0 := by unfold ct_in; decide +kernel
theorem in_C : ∀ s, s < 3 → ∀ r, r < 4 → ct_in (nSt s r) 21 s (3 * s + r) 0 s r := by
  intro s hs r hr
  rcases pu_lt3 hs with rfl | rfl | rfl <;> rcases (show r = 0 ∨ r = 1 ∨ r = 2 ∨ r = 3 by omega) with rfl | rfl | rfl | rfl <;> (unfold ct_in; decide +kernel)
theorem in_C1 : ∀ s, s < 3 → ∀ r, r < 3 → ct_in (nRp s r) 21 s (3 * s + r + 1) 0 s r := by
  intro s hs r hr
  rcases pu_lt3 hs with rfl | rfl | rfl <;> rcases pu_lt3 hr with rfl | rfl | rfl <;> (unfold ct_in; decide +kernel)
theorem in_G : ∀ s, s < 3 → ct_in (nGr s) 21 s (3 * s + 3) 0 4 0 := by unfold ct_in; decide +kernel
theorem in_D : ∀ r, r < 4 → ct_in (nSt 3 r) 21 3 9 r 3 r := by unfold ct_in; decide +kernel
theorem in_D1 : ∀ r, r < 3 → ct_in (nRp 3 r) 21 3 9 (r + 1) 3 r := by unfold ct_in; decide +kernel
theorem in_G3 : ct_in (nGr 3) 21 3 9 3 4 0 := by unfold ct_in; decide +kernel
theorem e_A1 (i : Nat) : nTx i + 5 = nTx (i + 1) := by unfold nTx; omega
theorem e_B1 : ∀ s, s < 4 → nRs s + 1 = nSt s 0 := by decide +kernel
theorem e_C1 : ∀ s, s < 3 → ∀ r, r < 3 → nSt s r + 8 = nRp s r := by decide +kernel
theorem e_C2 : ∀ s, s < 4 → ∀ r, r < 3 → nRp s r + 2 = nSt s (r + 1) := by decide +kernel
theorem e_D1 : ∀ r, r < 3 → nSt 3 r + 2 = nRp 3 r := by decide +kernel
theorem e_B2 : ∀ s, s < 4 → nSt s 3 = nGr s := by decide +kernel
theorem e_B3 : ∀ s, s < 3 → nGr s + 1 = nRs (s + 1) := by decide +kernel
section CT
variable {p : Program} {l : Launch} {e : Env} {R : Room} {s : State} {m : MethodId} {args : Array Value} {below : List Frame} {meth : Method} {c : Code} {H : Heap} {locs : List Loc} {cells slots : Nat} {Q : State → Prop}
variable {cc : ByteArray} {pc : Nat} {ls : Array Slot} {rest st0 : List Value} {A : Nat → Prop} {H0 : Heap} {dC : Nat → ClassId} {dI : Nat → Nat → Nat} {cx : Nat → ClassId} {ad ad2 : Nat → Nat} {own : String} {nL N : Nat} {E : Nat → va_E} {fs : List Value} {tN gN sN dN rG rN : Nat}
/-- a new array of references -/
theorem ct_newq2 (X : cg_X cc own nL dC dI cx p m c s args) (hP : ct_P dC dI N ad E H) (hJ : gx_J N ad A) (hS : va_S A H0 H locs) (hA : ∀ q, H0.size ≤ q → A q) {k t0 index : Nat} {C nm : String} (hk : k < 1000) (ht : (cg_tys cx)[t0]? = some (cx t0, .object C)) (hnm : "[" ++ (FieldType.object C).toString = nm) (hlk : Cond.classLink own index C ∈ gU) (hAO : va_AO C s) (hcells : cells + 1 ≤ R.cells) (hslots : slots + k ≤ R.slots) (hdg : decode cc pc = .ok (.anewarray index, 3))
    (kk : ∀ (a : Nat → Nat) (H1 : Heap), (∀ n, n < N → a n = ad n) → ct_P dC dI (N + 1) a (va_up E N (ct_rf cx t0 k (fun _ => none))) H1 → gx_J (N + 1) a A → va_S A H0 H1 locs → W p l e R s m args below meth c H1 locs (cells + 1) (slots + k) Q (F0 m (pc + 3) ls (.ref (a N) :: rest))) : W p l e R s m args below meth c H locs cells slots Q (F0 m pc ls (.int (nI k) :: rest)) :=
  ct_newq X hP hJ hS hA hk ht hnm hlk hAO hcells hslots hdg (fun q H1 hP1 hJ1 hS1 => by
    have := kk (va_up ad N q) H1 (fun n hn => va_up_ne _ _ (by omega)) hP1 hJ1 hS1
    rw [va_up_self] at this
    exact this)
theorem ct_new2 (X : cg_X cc own nL dC dI cx p m c s args) (hP : ct_P dC dI N ad E H) (hJ : gx_J N ad A) (hS : va_S A H0 H locs) (hA : ∀ q, H0.size ≤ q → A q) {C : String} {T : u_T} {NF ci index : Nat} (hin : ∀ w ∈ u_ws C T NF, w ∈ gU) (ty : Nat → FieldType) (hty : ∀ k, k < NF → parseFieldDescriptor (T k).2.2.1 = some (ty k)) (hcl : Cond.classLink own index C ∈ gU) (hinst : Cond.instantiable C NF ∈ gU) (hini : Cond.initialized C ∈ gU) (hc : cg_cl[ci]? = some (C, T, NF)) {fs : List Value} (hfs : ∀ j, j < NF → defaultValue (ty j) = vp_V fs j) (hcells : cells + 1 ≤ R.cells) (hslots : slots + NF ≤ R.slots) (hdg : decode cc pc = .ok (.new index, 3))
    (kk : ∀ (a : Nat → Nat) (H1 : Heap), (∀ n, n < N → a n = ad n) → ct_P dC dI (N + 1) a (va_up E N (.inr (ci, fs))) H1 → gx_J (N + 1) a A → va_S A H0 H1 locs → W p l e R s m args below meth c H1 locs (cells + 1) (slots + NF) Q (F0 m (pc + 3) ls (.ref (a N) :: rest))) : W p l e R s m args below meth c H locs cells slots Q (F0 m pc ls rest) :=
  ct_new X hP hJ hS hA hin ty hty hcl (X.2.2.2.1 _ hinst) hini hc hfs hcells hslots hdg (fun q H1 hP1 hJ1 hS1 => by
    have := kk (va_up ad N q) H1 (fun n hn => va_up_ne _ _ (by omega)) hP1 hJ1 hS1
    rw [va_up_self] at this
    exact this)
theorem ct_E_p2 {x : va_E} {H : Heap} (h : ct_in N tN gN sN dN rG rN) (hk : ∀ n, n < N → ad2 n = ad n) (hx : x = ct_E cx fs tN gN sN dN rG rN ad2 N) (hP : ct_P dC dI (N + 1) ad2 (va_up (ct_E cx fs tN gN sN dN rG rN ad) N x) H) : ct_P dC dI (N + 1) ad2 (ct_E cx fs tN gN sN dN rG rN ad2) H := by
  unfold ct_P at hP ⊢
  rw [gx_wl_congr (g := ct_E cx fs tN gN sN dN rG rN ad2)] at hP
  · exact hP
  · intro n hn
    by_cases z : n = N
    · rw [z, va_up_self, hx]
    · rw [va_up_ne _ _ z]
      exact (ct_E_q h hk n (by omega)).symm
theorem ct_E_i2 {O N2 : Nat} {x : va_E} {a1 : Nat → Nat} {H : Heap} (h : ct_in O tN gN sN dN rG rN) (hO : 110 ≤ O ∨ (2 ≤ O ∧ N2 ≤ 107)) (hr : nRs rG < O ∨ N2 ≤ nRs rG) (h1 : ∀ n, n < O → a1 n = ad n) (hk : ∀ n, n < O + 1 → ad2 n = a1 n) (hP : ct_P dC dI N2 ad2 (fun n => if n < O then va_up (ct_E cx fs tN gN sN dN rG rN ad) O x n else gx_ec cx ad2 n (gs0 n)) H) : ct_P dC dI N2 ad2 (ct_E cx fs tN gN sN dN rG rN ad2) H := by
  unfold ct_P at hP ⊢
  rw [gx_wl_congr (g := ct_E cx fs tN gN sN dN rG rN ad2)] at hP
  · exact hP
  · intro n hn
    by_cases z : n < O
    · rw [if_pos z, va_up_ne _ _ (by omega)]
      exact (ct_E_q h (fun k hk2 => by rw [hk k (by omega), h1 k hk2]) n z).symm
    · rw [if_neg z]
      unfold ct_E
      rw [if_neg (by omega), if_neg (by omega), if_neg (by omega), if_neg (by omega), if_neg (by omega), if_neg (by omega)]
theorem ct_E_cg {E2 : Nat → va_E} {H : Heap} (h : ∀ n, n < N → E n = E2 n) (hP : ct_P dC dI N ad E H) : ct_P dC dI N ad E2 H := by
  unfold ct_P at hP ⊢
  rw [← gx_wl_congr h]
  exact hP
/-- a reference is stored -/
theorem ct_astA {n v r1 r2 : Nat} (h1 : ad n = r1) (h2 : ad v = r2) (X : cg_X cc own nL dC dI cx p m c s args) (hP : ct_P dC dI N ad E H) (hJ : gx_J N ad A) (hS : va_S A H0 H locs) {i len t0 ci : Nat} {r : vw_C} {vs : List Value} {f : Nat → Option Nat} (hn : n < N) (hv : v < N) (hE : E n = ct_rf cx t0 len f) (ht : (cg_tys cx)[t0]? = some (cx t0, .object r.1)) (hEv : E v = .inr (ci, vs)) (hc : cg_cl[ci]? = some r) (hi : i < len) (hlen : len < 2 ^ 31) (hdg : decode cc pc = .ok (.aastore, 1))
    (kk : ∀ (H : Heap) (locs : List Loc), ct_P dC dI N ad (va_up E n (ct_rf cx t0 len (va_up f i (some (ad v))))) H → va_S A H0 H locs → W p l e R s m args below meth c H locs cells slots Q (F0 m (pc + 1) ls rest)) : W p l e R s m args below meth c H locs cells slots Q (F0 m pc ls (.ref r2 :: .int (nI i) :: .ref r1 :: rest)) := by
  subst h1
  subst h2
  exact ct_ast X hP hJ hS hn hv hE ht hEv hc hi hlen hdg kk
theorem ct_getA {n r : Nat} (hr : ad n = r) (X : cg_X cc own nL dC dI cx p m c s args) (hP : ct_P dC dI N ad E H) (hn : n < N) {C ref : String} {T : u_T} {NF ci index : Nat} (hin : ∀ w ∈ u_ws C T NF, w ∈ gU) {fs : List Value} (hE : E n = .inr (ci, fs)) (hc : cg_cl[ci]? = some (C, T, NF)) (k : Nat) (hk : k < NF) (hlink : Cond.fieldLink own index ref (T k).2.1 (T k).2.2.1 ∈ gU) (hsame : ∀ x, s.fieldFound? (T k).1 (T k).2.1 (T k).2.2.1 = some x → s.fieldFound? ref (T k).2.1 (T k).2.2.1 = some x) {v : Value} (hv : fs[k]? = some v) (hdg : decode cc pc = .ok (.getfield index, 3))
    (kk : W p l e R s m args below meth c H locs cells slots Q (F0 m (pc + 3) ls (v :: rest))) : W p l e R s m args below meth c H locs cells slots Q (F0 m pc ls (.ref r :: rest)) := by
  subst hr
  exact ct_get X hP hn hin hE hc k hk hlink hsame hv hdg kk
end CT
