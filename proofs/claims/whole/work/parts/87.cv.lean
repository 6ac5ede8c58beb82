/-! constructors: how far what a cell names reaches -/
def ct_rf (cx : Nat → ClassId) (t0 len : Nat) (f : Nat → Option Nat) : va_E := .inl (cx t0, len, .inr (.inr (.inr (.inr f))))
def ct_so (k : Nat) (g : Nat → Nat) : Nat → Option Nat := fun j => if j < k then some (g j) else none
theorem ct_so_0 (g : Nat → Nat) : ct_so 0 g = fun _ => none := by
  funext j
  unfold ct_so
  rw [if_neg (Nat.not_lt_zero _)]
theorem ct_so_s (k : Nat) (g : Nat → Nat) : va_up (ct_so k g) k (some (g k)) = ct_so (k + 1) g := by
  funext j
  show (if j = k then some (g k) else if j < k then some (g j) else none) = if j < k + 1 then some (g j) else none
  by_cases q : j = k
  · rw [if_pos q, if_pos (by omega), q]
  · rw [if_neg q]
    by_cases z : j < k
    · rw [if_pos z, if_pos (by omega)]
    · rw [if_neg z, if_neg (by omega)]
theorem ct_so_c {k : Nat} {g g2 : Nat → Nat} (h : ∀ j, j < k → g2 j = g j) : ct_so k g2 = ct_so k g := by
  funext j
  unfold ct_so
  by_cases z : j < k
  · rw [if_pos z, if_pos z, h j z]
  · rw [if_neg z, if_neg z]
def ct_f (n : Nat) : Nat :=
  if n < 2 then 111
  else if n < 107 then (n - 2) / 5 * 5 + 7
  else if n < 114 then 114
  else if n < 210 then (if (n - 114) % 32 = 0 ∨ (n - 114) % 32 = 31 then (n - 114) / 32 * 32 + 144 else if ((n - 114) % 32 - 1) % 10 < 8 then (n - 114) / 32 * 32 + ((n - 114) % 32 - 1) / 10 * 10 + 123 else (n - 114) / 32 * 32 + ((n - 114) % 32 - 1) / 10 * 10 + 125)
  else if n = 210 ∨ n = 223 then 222 else if (n - 211) % 4 < 2 then (n - 211) / 4 * 4 + 213 else (n - 211) / 4 * 4 + 215
theorem ec_q {cx : Nat → ClassId} {ad ad2 : Nat → Nat} {n N : Nat} (hn : n < 224) (h7 : n ≠ 107) (h8 : n ≠ 108) (h9 : n ≠ 109) (hf : ct_f n ≤ N) (hk : ∀ k, k < N → ad2 k = ad k) (f : Nat → Nat) : gx_ec cx ad2 n f = gx_ec cx ad n f := by
  unfold ct_f at hf
  unfold gx_ec
  by_cases c0 : n = 0
  · rw [if_pos c0, if_pos c0]
    rw [if_pos (by omega)] at hf
    unfold fs_CG
    rw [hk 1 (by omega), hk 107 (by omega), hk 108 (by omega), hk 109 (by omega), hk 110 (by omega)]
  rw [if_neg c0, if_neg c0]
  by_cases c1 : n = 1
  · rw [if_pos c1, if_pos c1]
    rw [if_pos (by omega)] at hf
    have e : ∀ i, (if i < 21 then some (ad2 (nTx i)) else none) = (if i < 21 then some (ad (nTx i)) else none) := by
      intro i
      by_cases z : i < 21
      · rw [if_pos z, if_pos z, hk (nTx i) (by unfold nTx; omega)]
      · rw [if_neg z, if_neg z]
    unfold ce_r
    simp only [e]
  rw [if_neg c1, if_neg c1]
  rw [if_neg (by omega)] at hf
  by_cases c2 : n < 107
  · rw [if_pos c2, if_pos c2]
    rw [if_pos c2] at hf
    unfold ec_Tx fs_Tx
    rw [hk (nTk ((n - 2) / 5)) (by unfold nTk; omega), hk (nTy ((n - 2) / 5)) (by unfold nTy; omega), hk (nTa ((n - 2) / 5)) (by unfold nTa; omega), hk (nTn ((n - 2) / 5)) (by unfold nTn; omega)]
  rw [if_neg c2, if_neg c2, if_neg h7, if_neg h7, if_neg h8, if_neg h8, if_neg h9, if_neg h9]
  rw [if_neg c2] at hf
  by_cases c3 : n = 110
  · rw [if_pos c3, if_pos c3]
    rw [if_pos (by omega)] at hf
    unfold fs_Co
    rw [hk 111 (by omega), hk 112 (by omega), hk 113 (by omega)]
  rw [if_neg c3, if_neg c3]
  by_cases c4 : n < 114
  · rcases (show n = 111 ∨ n = 112 ∨ n = 113 by omega) with rfl | rfl | rfl <;> rfl
  rw [if_neg c4] at hf
  have n1 : ¬ n = 111 := by omega
  have n2 : ¬ n = 112 := by omega
  have n3 : ¬ n = 113 := by omega
  rw [if_neg n1, if_neg n1, if_neg n2, if_neg n2, if_neg n3, if_neg n3]
  by_cases c5 : n < 210
  · rw [if_pos c5, if_pos c5]
    rw [if_pos c5] at hf
    have hs : (n - 114) / 32 < 3 := by omega
    have hm : (n - 114) % 32 < 32 := Nat.mod_lt _ (by decide)
    generalize (n - 114) / 32 = s at hf hs
    generalize (n - 114) % 32 = j at hf hm
    by_cases d0 : j = 0
    · rw [if_pos d0, if_pos d0]
      rw [if_pos (Or.inl d0)] at hf
      have e : ∀ i, (if i < 3 then some (ad2 (nRp s i)) else none) = (if i < 3 then some (ad (nRp s i)) else none) := by
        intro i
        by_cases z : i < 3
        · rw [if_pos z, if_pos z, hk (nRp s i) (by unfold nRp; rw [if_neg (by omega)]; omega)]
        · rw [if_neg z, if_neg z]
      unfold ce_r
      simp only [e]
    rw [if_neg d0, if_neg d0]
    by_cases d1 : j = 31
    · rw [if_pos d1, if_pos d1]
      rw [if_pos (Or.inr d1)] at hf
      unfold fs_Gr
      rw [hk (nRs s) (by unfold nRs; rw [if_neg (by omega)]; omega)]
    rw [if_neg d1, if_neg d1]
    rw [if_neg (by omega)] at hf
    have hr : (j - 1) / 10 < 3 := by omega
    have hm2 : (j - 1) % 10 < 10 := Nat.mod_lt _ (by decide)
    generalize (j - 1) / 10 = r at hf hr
    generalize (j - 1) % 10 = x at hf hm2
    unfold ec_Sh
    by_cases e0 : x = 0
    · rw [if_pos e0, if_pos e0]
      rw [if_pos (by omega)] at hf
      unfold fs_SS
      rw [hk 1 (by omega), hk (nSv s r) (by unfold nSv; omega), hk (nSd s r) (by unfold nSd; omega), hk (nSa s r) (by unfold nSa; omega), hk (nSh s r) (by unfold nSh; omega), hk (nSo s r) (by unfold nSo; omega), hk (nSf s r) (by unfold nSf; omega), hk (nSn s r) (by unfold nSn; omega)]
    rw [if_neg e0, if_neg e0]
    by_cases e8 : x = 8
    · rw [if_neg (by omega)] at hf
      subst e8
      unfold fs_Rp
      rw [hk (nSt s r) (by rw [nSt_num hs]; omega), hk (nLg s r) (by unfold nLg; rw [if_neg (by omega)]; omega)]
    · simp only [e8, if_false]
  rw [if_neg c5, if_neg c5]
  rw [if_neg c5] at hf
  by_cases c6 : n = 210
  · rw [if_pos c6, if_pos c6]
    rw [if_pos (Or.inl c6)] at hf
    have e : ∀ i, (if i < 3 then some (ad2 (nRp 3 i)) else none) = (if i < 3 then some (ad (nRp 3 i)) else none) := by
      intro i
      by_cases z : i < 3
      · rw [if_pos z, if_pos z, hk (nRp 3 i) (by show 213 + 4 * i < N; omega)]
      · rw [if_neg z, if_neg z]
    unfold ce_r
    simp only [e]
  rw [if_neg c6, if_neg c6]
  by_cases c7 : n = 223
  · rw [if_pos c7, if_pos c7]
    rw [if_pos (Or.inr c7)] at hf
    unfold fs_Gr
    rw [hk (nRs 3) (by show 210 < N; omega)]
  have c8 : n < 223 := by omega
  rw [if_neg c7, if_neg c7, if_pos c8, if_pos c8]
  rw [if_neg (by omega)] at hf
  have hr : (n - 211) / 4 < 3 := by omega
  have hm : (n - 211) % 4 < 4 := Nat.mod_lt _ (by decide)
  generalize (n - 211) / 4 = r at hf hr
  generalize (n - 211) % 4 = x at hf hm
  unfold ec_De
  by_cases e0 : x = 0
  · rw [if_pos (by omega)] at hf
    subst e0
    unfold fs_DS
    rw [hk (nDd r) (by unfold nDd; omega)]
    rfl
  by_cases e2 : x = 2
  · rw [if_neg (by omega)] at hf
    subst e2
    unfold fs_Rp
    rw [hk (nSt 3 r) (by show 211 + 4 * r < N; omega), hk (nLg 3 r) (by show 214 + 4 * r < N; omega)]
    rfl
  · simp only [e0, e2, if_false]
/-- what the cells hold while the system is being built -/
def ct_E (cx : Nat → ClassId) (fs : List Value) (tN gN sN dN rG rN : Nat) (ad : Nat → Nat) (n : Nat) : va_E :=
  if n = 0 then .inr (kCG, fs)
  else if n = 1 then ct_rf cx 2 21 (ct_so tN (fun t => ad (nTx t)))
  else if n = 107 then ct_rf cx 3 4 (ct_so gN (fun j => ad (nGr j)))
  else if n = 108 then ct_rf cx 4 9 (ct_so sN (fun q => ad (nSt (q / 3) (q % 3))))
  else if n = 109 then ct_rf cx 5 3 (ct_so dN (fun r => ad (nSt 3 r)))
  else if n = nRs rG then ct_rf cx 6 3 (ct_so rN (fun j => ad (nRp rG j)))
  else gx_ec cx ad n (gs0 n)
section CE
variable {cx : Nat → ClassId} {fs fs2 : List Value} {tN gN sN dN rG rN : Nat} {ad ad2 : Nat → Nat}
theorem nRs_ge (g : Nat) : 114 ≤ nRs g := by
  unfold nRs
  split <;> omega
/-- the cells of a world of N cells name cells of it -/
def ct_in (N tN gN sN dN rG rN : Nat) : Prop := N ≤ 224 ∧ (∀ j, j < tN → nTx j < N) ∧ (∀ j, j < gN → nGr j < N) ∧ (∀ q, q < sN → nSt (q / 3) (q % 3) < N) ∧ (∀ r, r < dN → nSt 3 r < N) ∧ (∀ j, j < rN → nRp rG j < N) ∧ ∀ n, n < N → n < 2 ∨ n = 107 ∨ n = 108 ∨ n = 109 ∨ n = nRs rG ∨ ct_f n ≤ N
theorem ct_E_q {N : Nat} (h : ct_in N tN gN sN dN rG rN) (hk : ∀ k, k < N → ad2 k = ad k) : ∀ n, n < N → ct_E cx fs tN gN sN dN rG rN ad2 n = ct_E cx fs tN gN sN dN rG rN ad n := by
  intro n hn
  obtain ⟨h0, h1, h2, h3, h4, h5, h6⟩ := h
  unfold ct_E
  by_cases c0 : n = 0
  · rw [if_pos c0, if_pos c0]
  rw [if_neg c0, if_neg c0]
  by_cases c1 : n = 1
  · rw [if_pos c1, if_pos c1, ct_so_c (fun j hj => hk _ (h1 j hj))]
  rw [if_neg c1, if_neg c1]
  by_cases c2 : n = 107
  · rw [if_pos c2, if_pos c2, ct_so_c (fun j hj => hk _ (h2 j hj))]
  rw [if_neg c2, if_neg c2]
  by_cases c3 : n = 108
  · rw [if_pos c3, if_pos c3, ct_so_c (fun j hj => hk _ (h3 j hj))]
  rw [if_neg c3, if_neg c3]
  by_cases c4 : n = 109
  · rw [if_pos c4, if_pos c4, ct_so_c (fun j hj => hk _ (h4 j hj))]
  rw [if_neg c4, if_neg c4]
  by_cases c5 : n = nRs rG
  · rw [if_pos c5, if_pos c5, ct_so_c (fun j hj => hk _ (h5 j hj))]
  rw [if_neg c5, if_neg c5]
  have h7 := h6 n hn
  exact ec_q (by omega) c2 c3 c4 (by omega) hk _
theorem ct_E_0 (h : fs2.length = fs2.length) (n : Nat) : va_up (ct_E cx fs tN gN sN dN rG rN ad) 0 (.inr (kCG, fs2)) n = ct_E cx fs2 tN gN sN dN rG rN ad n := by
  by_cases q : n = 0
  · subst q; rw [va_up_self]; rfl
  · rw [va_up_ne _ _ q]; unfold ct_E; rw [if_neg q, if_neg q]
theorem ct_E_1 (n : Nat) : va_up (ct_E cx fs tN gN sN dN rG rN ad) 1 (ct_rf cx 2 21 (va_up (ct_so tN (fun t => ad (nTx t))) tN (some (ad (nTx tN))))) n = ct_E cx fs (tN + 1) gN sN dN rG rN ad n := by
  by_cases q : n = 1
  · subst q; rw [va_up_self, ct_so_s tN (fun t => ad (nTx t))]; rfl
  · rw [va_up_ne _ _ q]; unfold ct_E; rw [if_neg q, if_neg q]
theorem ct_E_7 (n : Nat) : va_up (ct_E cx fs tN gN sN dN rG rN ad) 107 (ct_rf cx 3 4 (va_up (ct_so gN (fun j => ad (nGr j))) gN (some (ad (nGr gN))))) n = ct_E cx fs tN (gN + 1) sN dN rG rN ad n := by
  by_cases q : n = 107
  · subst q; rw [va_up_self, ct_so_s gN (fun j => ad (nGr j))]; rfl
  · rw [va_up_ne _ _ q]; unfold ct_E; rw [if_neg q, if_neg q]
theorem ct_E_8 (n : Nat) : va_up (ct_E cx fs tN gN sN dN rG rN ad) 108 (ct_rf cx 4 9 (va_up (ct_so sN (fun q => ad (nSt (q / 3) (q % 3)))) sN (some (ad (nSt (sN / 3) (sN % 3)))))) n = ct_E cx fs tN gN (sN + 1) dN rG rN ad n := by
  by_cases q : n = 108
  · subst q; rw [va_up_self, ct_so_s sN (fun q => ad (nSt (q / 3) (q % 3)))]; rfl
  · rw [va_up_ne _ _ q]; unfold ct_E; rw [if_neg q, if_neg q]
theorem ct_E_9 (n : Nat) : va_up (ct_E cx fs tN gN sN dN rG rN ad) 109 (ct_rf cx 5 3 (va_up (ct_so dN (fun r => ad (nSt 3 r))) dN (some (ad (nSt 3 dN))))) n = ct_E cx fs tN gN sN (dN + 1) rG rN ad n := by
  by_cases q : n = 109
  · subst q; rw [va_up_self, ct_so_s dN (fun r => ad (nSt 3 r))]; rfl
  · rw [va_up_ne _ _ q]; unfold ct_E; rw [if_neg q, if_neg q]
theorem ct_E_r (n : Nat) : va_up (ct_E cx fs tN gN sN dN rG rN ad) (nRs rG) (ct_rf cx 6 3 (va_up (ct_so rN (fun j => ad (nRp rG j))) rN (some (ad (nRp rG rN))))) n = ct_E cx fs tN gN sN dN rG (rN + 1) ad n := by
  have h := nRs_ge rG
  by_cases q : n = nRs rG
  · subst q
    rw [va_up_self, ct_so_s rN (fun j => ad (nRp rG j))]
    unfold ct_E
    rw [if_neg (by omega), if_neg (by omega), if_neg (by omega), if_neg (by omega), if_neg (by omega), if_pos rfl]
  · rw [va_up_ne _ _ q]; unfold ct_E; rw [if_neg q, if_neg q]
/-- a cell more -/
theorem ct_E_p {N q : Nat} {x : va_E} (h : ct_in N tN gN sN dN rG rN) (hx : x = ct_E cx fs tN gN sN dN rG rN (va_up ad N q) N) : ∀ n, n < N + 1 → va_up (ct_E cx fs tN gN sN dN rG rN ad) N x n = ct_E cx fs tN gN sN dN rG rN (va_up ad N q) n := by
  intro n hn
  by_cases z : n = N
  · rw [z, va_up_self, hx]
  · rw [va_up_ne _ _ z]
    exact (ct_E_q h (fun k hk => va_up_ne _ _ (by omega)) n (by omega)).symm
/-- behind a constructor -/
theorem ct_E_i {O N2 q : Nat} {x : va_E} (h : ct_in O tN gN sN dN rG rN) (hO : 110 ≤ O ∨ (2 ≤ O ∧ N2 ≤ 107)) (hr : nRs rG < O ∨ N2 ≤ nRs rG) (hk : ∀ n, n < O + 1 → ad2 n = va_up ad O q n) : ∀ n, n < N2 → (if n < O then va_up (ct_E cx fs tN gN sN dN rG rN ad) O x n else gx_ec cx ad2 n (gs0 n)) = ct_E cx fs tN gN sN dN rG rN ad2 n := by
  intro n hn
  by_cases z : n < O
  · rw [if_pos z, va_up_ne _ _ (by omega)]
    exact (ct_E_q h (fun k hk2 => by rw [hk k (by omega), va_up_ne _ _ (by omega)]) n z).symm
  · rw [if_neg z]
    unfold ct_E
    rw [if_neg (by omega), if_neg (by omega), if_neg (by omega), if_neg (by omega), if_neg (by omega), if_neg (by omega)]
/-- a group's array is full -/
theorem ct_E_g {N : Nat} (hg : rG < 4) (hN : N ≤ 224) : ∀ n, n < N → ct_E cx fs tN gN sN dN rG 3 ad n = ct_E cx fs tN gN sN dN 4 0 ad n := by
  intro n hn
  have h := nRs_ge rG
  have h4 : nRs 4 = 242 := rfl
  unfold ct_E
  by_cases c0 : n = 0
  · rw [if_pos c0, if_pos c0]
  rw [if_neg c0, if_neg c0]
  by_cases c1 : n = 1
  · rw [if_pos c1, if_pos c1]
  rw [if_neg c1, if_neg c1]
  by_cases c2 : n = 107
  · rw [if_pos c2, if_pos c2]
  rw [if_neg c2, if_neg c2]
  by_cases c3 : n = 108
  · rw [if_pos c3, if_pos c3]
  rw [if_neg c3, if_neg c3]
  by_cases c4 : n = 109
  · rw [if_pos c4, if_pos c4]
  rw [if_neg c4, if_neg c4, if_neg (show ¬ n = nRs 4 by omega)]
  by_cases c5 : n = nRs rG
  · rw [if_pos c5, c5, ec_nRs hg]; rfl
  · rw [if_neg c5]
end CE
