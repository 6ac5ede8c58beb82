/-! the layout: which cell is which; what a cell holds, as a function of its row of numbers -/
def nTx (t : Nat) : Nat := 2 + 5 * t
def nTk (t : Nat) : Nat := 3 + 5 * t
def nTy (t : Nat) : Nat := 4 + 5 * t
def nTa (t : Nat) : Nat := 5 + 5 * t
def nTn (t : Nat) : Nat := 6 + 5 * t
def nRs (g : Nat) : Nat := if g = 3 then 210 else 114 + 32 * g
def nGr (g : Nat) : Nat := if g = 3 then 223 else 145 + 32 * g
def nRp (g r : Nat) : Nat := if g = 3 then 213 + 4 * r else 123 + 32 * g + 10 * r
def nLg (g r : Nat) : Nat := if g = 3 then 214 + 4 * r else 124 + 32 * g + 10 * r
def nSt (g r : Nat) : Nat := if g = 3 then 211 + 4 * r else 115 + 32 * g + 10 * r
def nSv (s r : Nat) : Nat := 116 + 32 * s + 10 * r
def nSd (s r : Nat) : Nat := 117 + 32 * s + 10 * r
def nSa (s r : Nat) : Nat := 118 + 32 * s + 10 * r
def nSh (s r : Nat) : Nat := 119 + 32 * s + 10 * r
def nSo (s r : Nat) : Nat := 120 + 32 * s + 10 * r
def nSf (s r : Nat) : Nat := 121 + 32 * s + 10 * r
def nSn (s r : Nat) : Nat := 122 + 32 * s + 10 * r
def nDd (r : Nat) : Nat := 212 + 4 * r
def gx_N : Nat := 241
theorem nTx_lt {t : Nat} (h0 : t < 21) : nTx t < gx_N := by unfold nTx gx_N; omega
theorem nTk_lt {t : Nat} (h0 : t < 21) : nTk t < gx_N := by unfold nTk gx_N; omega
theorem nTy_lt {t : Nat} (h0 : t < 21) : nTy t < gx_N := by unfold nTy gx_N; omega
theorem nTa_lt {t : Nat} (h0 : t < 21) : nTa t < gx_N := by unfold nTa gx_N; omega
theorem nTn_lt {t : Nat} (h0 : t < 21) : nTn t < gx_N := by unfold nTn gx_N; omega
theorem nRs_lt {g : Nat} (h0 : g < 4) : nRs g < gx_N := by unfold nRs gx_N; split <;> omega
theorem nGr_lt {g : Nat} (h0 : g < 4) : nGr g < gx_N := by unfold nGr gx_N; split <;> omega
theorem nRp_lt {g r : Nat} (h0 : g < 4) (h1 : r < 3) : nRp g r < gx_N := by unfold nRp gx_N; split <;> omega
theorem nLg_lt {g r : Nat} (h0 : g < 4) (h1 : r < 3) : nLg g r < gx_N := by unfold nLg gx_N; split <;> omega
theorem nSt_lt {g r : Nat} (h0 : g < 4) (h1 : r < 3) : nSt g r < gx_N := by unfold nSt gx_N; split <;> omega
theorem nSv_lt {s r : Nat} (h0 : s < 3) (h1 : r < 3) : nSv s r < gx_N := by unfold nSv gx_N; omega
theorem nSd_lt {s r : Nat} (h0 : s < 3) (h1 : r < 3) : nSd s r < gx_N := by unfold nSd gx_N; omega
theorem nSa_lt {s r : Nat} (h0 : s < 3) (h1 : r < 3) : nSa s r < gx_N := by unfold nSa gx_N; omega
theorem nSh_lt {s r : Nat} (h0 : s < 3) (h1 : r < 3) : nSh s r < gx_N := by unfold nSh gx_N; omega
theorem nSo_lt {s r : Nat} (h0 : s < 3) (h1 : r < 3) : nSo s r < gx_N := by unfold nSo gx_N; omega
theorem nSf_lt {s r : Nat} (h0 : s < 3) (h1 : r < 3) : nSf s r < gx_N := by unfold nSf gx_N; omega
theorem nSn_lt {s r : Nat} (h0 : s < 3) (h1 : r < 3) : nSn s r < gx_N := by unfold nSn gx_N; omega
theorem nDd_lt {r : Nat} (h0 : r < 3) : nDd r < gx_N := by unfold nDd gx_N; omega
def ce_i (cx : Nat → ClassId) (len : Nat) (f : Nat → Nat) : va_E := .inl (cx 0, len, .inl (fun j => nI (f j)))
def ce_z (cx : Nat → ClassId) (len : Nat) (f : Nat → Nat) : va_E := .inl (cx 1, len, .inl (fun j => nI (f j)))
def ce_r (cx : Nat → ClassId) (k len : Nat) (g : Nat → Nat) : va_E := .inl (cx k, len, .inr (.inr (.inr (.inr (fun i => if i < len then some (g i) else none)))))
def fs_CG (ad : Nat → Nat) (f : Nat → Nat) : List Value := [.ref (ad 1), .ref (ad 107), .ref (ad 108), .ref (ad 109), .ref (ad 110), .int (nI (f 5))]
def fs_Tx (ad : Nat → Nat) (t : Nat) (f : Nat → Nat) : List Value := [.ref (ad (nTk t)), .ref (ad (nTy t)), .ref (ad (nTa t)), .ref (ad (nTn t)), .int (nI (f 4)), .int (nI (f 5))]
def fs_Co (ad : Nat → Nat) (f : Nat → Nat) : List Value := [.int (nI (f 0)), .ref (ad 111), .ref (ad 112), .ref (ad 113)]
def fs_SS (ad : Nat → Nat) (s r : Nat) (f : Nat → Nat) : List Value := [.int (nI (f 0)), .ref (ad 1), .ref (ad (nSv s r)), .ref (ad (nSd s r)), .ref (ad (nSa s r)), .ref (ad (nSh s r)), .ref (ad (nSo s r)), .ref (ad (nSf s r)), .ref (ad (nSn s r))]
def fs_DS (ad : Nat → Nat) (r : Nat) (_ : Nat → Nat) : List Value := [.ref (ad (nDd r))]
def fs_Rp (ad : Nat → Nat) (g r : Nat) (f : Nat → Nat) : List Value := [.ref (ad (nSt g r)), .ref (ad (nLg g r)), .int (nI (f 2)), .int (nI (f 3)), .int (nI (f 4)), .int (nI (f 5))]
def fs_Gr (ad : Nat → Nat) (g : Nat) (_ : Nat → Nat) : List Value := [.ref (ad (nRs g))]
def fs_Mo (ad : Nat → Nat) (f : Nat → Nat) : List Value := [.int (nI (f 0)), .ref (ad 225), .ref (ad 226), .ref (ad 227), .ref (ad 228), .ref (ad 229), .ref (ad 230), .ref (ad 231), .ref (ad 232), .ref (ad 233), .ref (ad 234), .int (nI (f 11)), .ref (ad 235), .ref (ad 236), .ref (ad 237), .ref (ad 238), .ref (ad 239), .ref (ad 240), .long (nI (f 18)).toInt64]
def ec_Tx (cx : Nat → ClassId) (ad : Nat → Nat) (t j : Nat) (f : Nat → Nat) : va_E :=
  if j = 0 then .inr (kTx, fs_Tx ad t f) else if j = 4 then ce_i cx 12 f else ce_i cx 4 f
def ec_Sh (cx : Nat → ClassId) (ad : Nat → Nat) (s r j : Nat) (f : Nat → Nat) : va_E :=
  if j = 0 then .inr (kSS, fs_SS ad s r f) else if j = 8 then .inr (kRp, fs_Rp ad s r f) else if j = 9 then ce_i cx 60 f
  else if j = 6 then ce_z cx 21 f else if j = 5 then ce_i cx 21 f else if j = 7 then ce_i cx 84 f else ce_i cx 4 f
def ec_De (cx : Nat → ClassId) (ad : Nat → Nat) (r j : Nat) (f : Nat → Nat) : va_E :=
  if j = 0 then .inr (kDS, fs_DS ad r f) else if j = 1 then ce_i cx 21 f else if j = 2 then .inr (kRp, fs_Rp ad 3 r f) else ce_i cx 60 f
def ec_Mo (cx : Nat → ClassId) (ad : Nat → Nat) (j : Nat) (f : Nat → Nat) : va_E :=
  if j = 0 then .inr (kMo, fs_Mo ad f) else if j = 2 ∨ j = 14 then ce_z cx 21 f else if j = 6 then ce_z cx 12 f
  else if j = 1 ∨ j = 12 ∨ j = 13 ∨ j = 15 then ce_i cx 21 f else if j = 3 ∨ j = 4 ∨ j = 5 then ce_i cx 84 f
  else if j = 10 then ce_i cx 720 f else if j = 11 then ce_i cx 63 f else ce_i cx 12 f
def gx_ec (cx : Nat → ClassId) (ad : Nat → Nat) (n : Nat) (f : Nat → Nat) : va_E :=
  if n = 0 then .inr (kCG, fs_CG ad f)
  else if n = 1 then ce_r cx 2 21 (fun t => ad (nTx t))
  else if n < 107 then ec_Tx cx ad ((n - 2) / 5) ((n - 2) % 5) f
  else if n = 107 then ce_r cx 3 4 (fun g => ad (nGr g))
  else if n = 108 then ce_r cx 4 9 (fun q => ad (nSt (q / 3) (q % 3)))
  else if n = 109 then ce_r cx 5 3 (fun r => ad (nSt 3 r))
  else if n = 110 then .inr (kCo, fs_Co ad f)
  else if n = 111 then ce_i cx 63 f
  else if n = 112 then ce_i cx 21 f
  else if n = 113 then ce_i cx 84 f
  else if n < 210 then
    (if (n - 114) % 32 = 0 then ce_r cx 6 3 (fun r => ad (nRp ((n - 114) / 32) r))
     else if (n - 114) % 32 = 31 then .inr (kGr, fs_Gr ad ((n - 114) / 32) f)
     else ec_Sh cx ad ((n - 114) / 32) (((n - 114) % 32 - 1) / 10) (((n - 114) % 32 - 1) % 10) f)
  else if n = 210 then ce_r cx 6 3 (fun r => ad (nRp 3 r))
  else if n = 223 then .inr (kGr, fs_Gr ad 3 f)
  else if n < 223 then ec_De cx ad ((n - 211) / 4) ((n - 211) % 4) f
  else ec_Mo cx ad (n - 224) f
section LAY
variable {cx : Nat → ClassId} {ad : Nat → Nat}
theorem ec_CG  (f : Nat → Nat) : gx_ec cx ad 0 f = .inr (kCG, fs_CG ad f) := by
  rfl
theorem ec_bk  (f : Nat → Nat) : gx_ec cx ad 1 f = ce_r cx 2 21 (fun t => ad (nTx t)) := by
  rfl
theorem ec_nTx {t : Nat} (h0 : t < 21) (f : Nat → Nat) : gx_ec cx ad (nTx t) f = .inr (kTx, fs_Tx ad t f) := by
  have e1 : (nTx t - 2) / 5 = t := by unfold nTx; omega
  have e2 : (nTx t - 2) % 5 = 0 := by unfold nTx; omega
  have e3 : ¬ nTx t = 0 := by unfold nTx; omega
  have e4 : ¬ nTx t = 1 := by unfold nTx; omega
  have e5 : nTx t < 107 := by unfold nTx; omega
  unfold gx_ec
  rw [if_neg e3, if_neg e4, if_pos e5, e1, e2]
  rfl
theorem ec_nTk {t : Nat} (h0 : t < 21) (f : Nat → Nat) : gx_ec cx ad (nTk t) f = ce_i cx 4 f := by
  have e1 : (nTk t - 2) / 5 = t := by unfold nTk; omega
  have e2 : (nTk t - 2) % 5 = 1 := by unfold nTk; omega
  have e3 : ¬ nTk t = 0 := by unfold nTk; omega
  have e4 : ¬ nTk t = 1 := by unfold nTk; omega
  have e5 : nTk t < 107 := by unfold nTk; omega
  unfold gx_ec
  rw [if_neg e3, if_neg e4, if_pos e5, e1, e2]
  rfl
theorem ec_nTy {t : Nat} (h0 : t < 21) (f : Nat → Nat) : gx_ec cx ad (nTy t) f = ce_i cx 4 f := by
  have e1 : (nTy t - 2) / 5 = t := by unfold nTy; omega
  have e2 : (nTy t - 2) % 5 = 2 := by unfold nTy; omega
  have e3 : ¬ nTy t = 0 := by unfold nTy; omega
  have e4 : ¬ nTy t = 1 := by unfold nTy; omega
  have e5 : nTy t < 107 := by unfold nTy; omega
  unfold gx_ec
  rw [if_neg e3, if_neg e4, if_pos e5, e1, e2]
  rfl
theorem ec_nTa {t : Nat} (h0 : t < 21) (f : Nat → Nat) : gx_ec cx ad (nTa t) f = ce_i cx 4 f := by
  have e1 : (nTa t - 2) / 5 = t := by unfold nTa; omega
  have e2 : (nTa t - 2) % 5 = 3 := by unfold nTa; omega
  have e3 : ¬ nTa t = 0 := by unfold nTa; omega
  have e4 : ¬ nTa t = 1 := by unfold nTa; omega
  have e5 : nTa t < 107 := by unfold nTa; omega
  unfold gx_ec
  rw [if_neg e3, if_neg e4, if_pos e5, e1, e2]
  rfl
theorem ec_nTn {t : Nat} (h0 : t < 21) (f : Nat → Nat) : gx_ec cx ad (nTn t) f = ce_i cx 12 f := by
  have e1 : (nTn t - 2) / 5 = t := by unfold nTn; omega
  have e2 : (nTn t - 2) % 5 = 4 := by unfold nTn; omega
  have e3 : ¬ nTn t = 0 := by unfold nTn; omega
  have e4 : ¬ nTn t = 1 := by unfold nTn; omega
  have e5 : nTn t < 107 := by unfold nTn; omega
  unfold gx_ec
  rw [if_neg e3, if_neg e4, if_pos e5, e1, e2]
  rfl
theorem ec_gs  (f : Nat → Nat) : gx_ec cx ad 107 f = ce_r cx 3 4 (fun g => ad (nGr g)) := by
  rfl
theorem ec_ss  (f : Nat → Nat) : gx_ec cx ad 108 f = ce_r cx 4 9 (fun q => ad (nSt (q / 3) (q % 3))) := by
  rfl
theorem ec_dd  (f : Nat → Nat) : gx_ec cx ad 109 f = ce_r cx 5 3 (fun r => ad (nSt 3 r)) := by
  rfl
theorem ec_Co  (f : Nat → Nat) : gx_ec cx ad 110 f = .inr (kCo, fs_Co ad f) := by
  rfl
theorem ec_Cv  (f : Nat → Nat) : gx_ec cx ad 111 f = ce_i cx 63 f := by
  rfl
theorem ec_Cd  (f : Nat → Nat) : gx_ec cx ad 112 f = ce_i cx 21 f := by
  rfl
theorem ec_Cr  (f : Nat → Nat) : gx_ec cx ad 113 f = ce_i cx 84 f := by
  rfl
theorem ec_nRs {g : Nat} (h0 : g < 4) (f : Nat → Nat) : gx_ec cx ad (nRs g) f = ce_r cx 6 3 (fun r => ad (nRp g r)) := by
  rcases (show g = 0 ∨ g = 1 ∨ g = 2 ∨ g = 3 by omega) with rfl | rfl | rfl | rfl <;> rfl
theorem ec_nGr {g : Nat} (h0 : g < 4) (f : Nat → Nat) : gx_ec cx ad (nGr g) f = .inr (kGr, fs_Gr ad g f) := by
  rcases (show g = 0 ∨ g = 1 ∨ g = 2 ∨ g = 3 by omega) with rfl | rfl | rfl | rfl <;> rfl
theorem ec_nRp {g r : Nat} (h0 : g < 4) (h1 : r < 3) (f : Nat → Nat) : gx_ec cx ad (nRp g r) f = .inr (kRp, fs_Rp ad g r f) := by
  rcases (show g = 0 ∨ g = 1 ∨ g = 2 ∨ g = 3 by omega) with rfl | rfl | rfl | rfl <;> rcases (show r = 0 ∨ r = 1 ∨ r = 2 by omega) with rfl | rfl | rfl <;> rfl
theorem ec_nLg {g r : Nat} (h0 : g < 4) (h1 : r < 3) (f : Nat → Nat) : gx_ec cx ad (nLg g r) f = ce_i cx 60 f := by
  rcases (show g = 0 ∨ g = 1 ∨ g = 2 ∨ g = 3 by omega) with rfl | rfl | rfl | rfl <;> rcases (show r = 0 ∨ r = 1 ∨ r = 2 by omega) with rfl | rfl | rfl <;> rfl
theorem ec_nSS {s r : Nat} (h0 : s < 3) (h1 : r < 3) (f : Nat → Nat) : gx_ec cx ad (nSt s r) f = .inr (kSS, fs_SS ad s r f) := by
  rcases (show s = 0 ∨ s = 1 ∨ s = 2 by omega) with rfl | rfl | rfl <;> rcases (show r = 0 ∨ r = 1 ∨ r = 2 by omega) with rfl | rfl | rfl <;> rfl
theorem ec_nDS {r : Nat} (h0 : r < 3) (f : Nat → Nat) : gx_ec cx ad (nSt 3 r) f = .inr (kDS, fs_DS ad r f) := by
  rcases (show r = 0 ∨ r = 1 ∨ r = 2 by omega) with rfl | rfl | rfl <;> rfl
theorem ec_nSv {s r : Nat} (h0 : s < 3) (h1 : r < 3) (f : Nat → Nat) : gx_ec cx ad (nSv s r) f = ce_i cx 4 f := by
  rcases (show s = 0 ∨ s = 1 ∨ s = 2 by omega) with rfl | rfl | rfl <;> rcases (show r = 0 ∨ r = 1 ∨ r = 2 by omega) with rfl | rfl | rfl <;> rfl
theorem ec_nSd {s r : Nat} (h0 : s < 3) (h1 : r < 3) (f : Nat → Nat) : gx_ec cx ad (nSd s r) f = ce_i cx 4 f := by
  rcases (show s = 0 ∨ s = 1 ∨ s = 2 by omega) with rfl | rfl | rfl <;> rcases (show r = 0 ∨ r = 1 ∨ r = 2 by omega) with rfl | rfl | rfl <;> rfl
theorem ec_nSa {s r : Nat} (h0 : s < 3) (h1 : r < 3) (f : Nat → Nat) : gx_ec cx ad (nSa s r) f = ce_i cx 4 f := by
  rcases (show s = 0 ∨ s = 1 ∨ s = 2 by omega) with rfl | rfl | rfl <;> rcases (show r = 0 ∨ r = 1 ∨ r = 2 by omega) with rfl | rfl | rfl <;> rfl
theorem ec_nSh {s r : Nat} (h0 : s < 3) (h1 : r < 3) (f : Nat → Nat) : gx_ec cx ad (nSh s r) f = ce_i cx 4 f := by
  rcases (show s = 0 ∨ s = 1 ∨ s = 2 by omega) with rfl | rfl | rfl <;> rcases (show r = 0 ∨ r = 1 ∨ r = 2 by omega) with rfl | rfl | rfl <;> rfl
theorem ec_nSo {s r : Nat} (h0 : s < 3) (h1 : r < 3) (f : Nat → Nat) : gx_ec cx ad (nSo s r) f = ce_i cx 21 f := by
  rcases (show s = 0 ∨ s = 1 ∨ s = 2 by omega) with rfl | rfl | rfl <;> rcases (show r = 0 ∨ r = 1 ∨ r = 2 by omega) with rfl | rfl | rfl <;> rfl
theorem ec_nSf {s r : Nat} (h0 : s < 3) (h1 : r < 3) (f : Nat → Nat) : gx_ec cx ad (nSf s r) f = ce_z cx 21 f := by
  rcases (show s = 0 ∨ s = 1 ∨ s = 2 by omega) with rfl | rfl | rfl <;> rcases (show r = 0 ∨ r = 1 ∨ r = 2 by omega) with rfl | rfl | rfl <;> rfl
theorem ec_nSn {s r : Nat} (h0 : s < 3) (h1 : r < 3) (f : Nat → Nat) : gx_ec cx ad (nSn s r) f = ce_i cx 84 f := by
  rcases (show s = 0 ∨ s = 1 ∨ s = 2 by omega) with rfl | rfl | rfl <;> rcases (show r = 0 ∨ r = 1 ∨ r = 2 by omega) with rfl | rfl | rfl <;> rfl
theorem ec_nDd {r : Nat} (h0 : r < 3) (f : Nat → Nat) : gx_ec cx ad (nDd r) f = ce_i cx 21 f := by
  rcases (show r = 0 ∨ r = 1 ∨ r = 2 by omega) with rfl | rfl | rfl <;> rfl
theorem ec_Mo_0  (f : Nat → Nat) : gx_ec cx ad 224 f = .inr (kMo, fs_Mo ad f) := by
  rfl
theorem ec_Mo_1  (f : Nat → Nat) : gx_ec cx ad 225 f = ce_i cx 21 f := by
  rfl
theorem ec_Mo_2  (f : Nat → Nat) : gx_ec cx ad 226 f = ce_z cx 21 f := by
  rfl
theorem ec_Mo_3  (f : Nat → Nat) : gx_ec cx ad 227 f = ce_i cx 84 f := by
  rfl
theorem ec_Mo_4  (f : Nat → Nat) : gx_ec cx ad 228 f = ce_i cx 84 f := by
  rfl
theorem ec_Mo_5  (f : Nat → Nat) : gx_ec cx ad 229 f = ce_i cx 84 f := by
  rfl
theorem ec_Mo_6  (f : Nat → Nat) : gx_ec cx ad 230 f = ce_z cx 12 f := by
  rfl
theorem ec_Mo_7  (f : Nat → Nat) : gx_ec cx ad 231 f = ce_i cx 12 f := by
  rfl
theorem ec_Mo_8  (f : Nat → Nat) : gx_ec cx ad 232 f = ce_i cx 12 f := by
  rfl
theorem ec_Mo_9  (f : Nat → Nat) : gx_ec cx ad 233 f = ce_i cx 12 f := by
  rfl
theorem ec_Mo_10  (f : Nat → Nat) : gx_ec cx ad 234 f = ce_i cx 720 f := by
  rfl
theorem ec_Mo_11  (f : Nat → Nat) : gx_ec cx ad 235 f = ce_i cx 63 f := by
  rfl
theorem ec_Mo_12  (f : Nat → Nat) : gx_ec cx ad 236 f = ce_i cx 21 f := by
  rfl
theorem ec_Mo_13  (f : Nat → Nat) : gx_ec cx ad 237 f = ce_i cx 21 f := by
  rfl
theorem ec_Mo_14  (f : Nat → Nat) : gx_ec cx ad 238 f = ce_z cx 21 f := by
  rfl
theorem ec_Mo_15  (f : Nat → Nat) : gx_ec cx ad 239 f = ce_i cx 21 f := by
  rfl
theorem ec_Mo_16  (f : Nat → Nat) : gx_ec cx ad 240 f = ce_i cx 12 f := by
  rfl
end LAY
