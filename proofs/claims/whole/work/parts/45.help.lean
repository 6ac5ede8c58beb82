/-! helpers for walks: raw ints beside numbers, answers that are truth values, long answers -/
theorem gi_ltn {t : Int32} {n : Nat} (hn : n < 2 ^ 31) : t < nI n ↔ t.toInt < n := by rw [Int32.lt_iff_toInt_lt, nI_toInt hn]
theorem gi_nlt {t : Int32} {n : Nat} (hn : n < 2 ^ 31) : nI n < t ↔ (n : Int) < t.toInt := by rw [Int32.lt_iff_toInt_lt, nI_toInt hn]
theorem gi_len {t : Int32} {n : Nat} (hn : n < 2 ^ 31) : t ≤ nI n ↔ t.toInt ≤ n := by rw [Int32.le_iff_toInt_le, nI_toInt hn]
theorem gi_nle {t : Int32} {n : Nat} (hn : n < 2 ^ 31) : nI n ≤ t ↔ (n : Int) ≤ t.toInt := by rw [Int32.le_iff_toInt_le, nI_toInt hn]
theorem gi_lt0 {t : Int32} : t < 0 ↔ t.toInt < 0 := by
  have h0 : (0 : Int32).toInt = 0 := by decide
  rw [Int32.lt_iff_toInt_lt, h0]
theorem gi_le0 {t : Int32} : 0 ≤ t ↔ 0 ≤ t.toInt := by
  have h0 : (0 : Int32).toInt = 0 := by decide
  rw [Int32.le_iff_toInt_le, h0]
/-- an int in a range is a number -/
theorem gi_nat {t : Int32} (h : 0 ≤ t.toInt) : t = nI t.toInt.toNat := by
  have := Int32.toInt_lt t
  apply Int32.toInt_inj.mp
  rw [nI_toInt (by omega)]
  omega
/-- an answer that is a truth value -/
def gx_bo (P : Prop) (r : Int32) : Prop := ∃ b : Nat, r = nI b ∧ b ≤ 1 ∧ (b = 1 ↔ P)
theorem gx_bo1 {P : Prop} (h : P) : gx_bo P (nI 1) := ⟨1, rfl, by decide, fun _ => h, fun _ => rfl⟩
theorem gx_bo0 {P : Prop} (h : ¬ P) : gx_bo P (nI 0) := ⟨0, rfl, by decide, fun q => absurd q (by decide), fun q => absurd q h⟩
section GZ
variable {p : Program} {l : Launch} {e : Env} {R : Room} {s : State} {m : MethodId} {args : Array Value} {below : List Frame} {meth : Method} {c : Code} {H : Heap} {locs : List Loc} {cells slots : Nat} {Q : State → Prop}
variable {cc : ByteArray} {pc : Nat} {ls : Array Slot} {rest st0 : List Value} {D : va_G} {cl : List vw_C} {A : Nat → Prop} {tys : List (ClassId × FieldType)} {H0 : Heap} {N : Nat} {ad : Nat → Nat} {ec : Nat → (Nat → Nat) → va_E} {σ : gx_M} {hw : State → Prop}
theorem gx_lret {post : Int64 → gx_M → Prop} {v : Int64} (hexec : p.tables.exec = Jvm.exec) (hb : c.code = cc) (hr : meth.sig.returnType = some .long) (hlocks : meth.locks = false) (hP : gx_P D cl N ad ec σ H) (hS : va_S (gx_A N ad) s.heap H locs) (hdg : decode cc pc = .ok (.lreturn, 1)) (hpost : post v σ) :
    W p l e R s m args below meth c H locs cells slots (MQ below (va_Ql post (fun u t => gx_P D cl N ad ec u t.heap) (gx_A N ad)) args s cells slots (gx_A N ad)) (F0 m pc ls [.long v]) :=
  W.lret hexec hb hr (fun t ht _ => ⟨⟨v, σ, rfl, hpost, by show gx_P D cl N ad ec σ t.heap; rw [ht]; exact hP⟩, hS.F ht⟩) hS.2.2 hdg hlocks
end GZ
