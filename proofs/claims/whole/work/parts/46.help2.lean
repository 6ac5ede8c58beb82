/-! helpers, two: bits of ints, the ends of walks by name -/
abbrev cg_Qi (dC : Nat → ClassId) (dI : Nat → Nat → Nat) (cx : Nat → ClassId) (ad : Nat → Nat) (post : Int32 → gx_M → Prop) (below : List Frame) (av : List Value) (s : State) : State → Prop := MQ below (va_Qi post (fun u t => gx_P (dC, dI) cg_cl gx_N ad (gx_ec cx ad) u t.heap) (gx_A gx_N ad)) av.toArray s 0 0 (gx_A gx_N ad)
abbrev cg_Qv (dC : Nat → ClassId) (dI : Nat → Nat → Nat) (cx : Nat → ClassId) (ad : Nat → Nat) (post : gx_M → Prop) (below : List Frame) (av : List Value) (s : State) : State → Prop := MQ below (va_Qv post (fun u t => gx_P (dC, dI) cg_cl gx_N ad (gx_ec cx ad) u t.heap) (gx_A gx_N ad)) av.toArray s 0 0 (gx_A gx_N ad)
abbrev cg_Ql (dC : Nat → ClassId) (dI : Nat → Nat → Nat) (cx : Nat → ClassId) (ad : Nat → Nat) (post : Int64 → gx_M → Prop) (below : List Frame) (av : List Value) (s : State) : State → Prop := MQ below (va_Ql post (fun u t => gx_P (dC, dI) cg_cl gx_N ad (gx_ec cx ad) u t.heap) (gx_A gx_N ad)) av.toArray s 0 0 (gx_A gx_N ad)
theorem gb_bv (a : Nat) : (nI a).toBitVec = BitVec.ofNat 32 a := rfl
theorem gb_and (a b : Nat) : nI a &&& nI b = nI (a &&& b) := by
  apply Int32.toBitVec_inj.mp
  rw [Int32.toBitVec_and, gb_bv, gb_bv, gb_bv]
  apply BitVec.eq_of_getLsbD_eq
  intro i hi
  simp [BitVec.getLsbD_ofNat, hi]
theorem gb_or (a b : Nat) : nI a ||| nI b = nI (a ||| b) := by
  apply Int32.toBitVec_inj.mp
  rw [Int32.toBitVec_or, gb_bv, gb_bv, gb_bv]
  apply BitVec.eq_of_getLsbD_eq
  intro i hi
  simp [BitVec.getLsbD_ofNat, hi]
theorem gb_xor (a b : Nat) : nI a ^^^ nI b = nI (a ^^^ b) := by
  apply Int32.toBitVec_inj.mp
  rw [Int32.toBitVec_xor, gb_bv, gb_bv, gb_bv]
  apply BitVec.eq_of_getLsbD_eq
  intro i hi
  simp [BitVec.getLsbD_ofNat, hi]
theorem gb_clr (m t : Nat) : nI m &&& (nI (2 ^ t) ^^^ (-1)) = nI (pt_clr m t) := by
  apply Int32.toBitVec_inj.mp
  have h1 : (-1 : Int32).toBitVec = BitVec.allOnes 32 := by decide
  rw [Int32.toBitVec_and, Int32.toBitVec_xor, gb_bv, gb_bv, gb_bv, h1]
  apply BitVec.eq_of_getLsbD_eq
  intro i hi
  rw [BitVec.getLsbD_and, BitVec.getLsbD_xor, BitVec.getLsbD_ofNat, BitVec.getLsbD_ofNat, BitVec.getLsbD_ofNat, BitVec.getLsbD_allOnes, pt_clr_bit, Nat.testBit_two_pow]
  simp [hi]
theorem gb_shl : ∀ t, t < 21 → nI 1 <<< (nI t &&& 31) = nI (2 ^ t) := by decide +kernel
theorem gb_ushr (a k : Nat) (ha : a < 2 ^ 31) (hk : k < 32) : ((nI a).toUInt32 >>> ((nI k).toUInt32 &&& Int32.toUInt32 31)).toInt32 = nI (a / 2 ^ k) := by
  apply Int32.toBitVec_inj.mp
  rw [gb_bv]
  have e1 : (((nI a).toUInt32 >>> ((nI k).toUInt32 &&& Int32.toUInt32 31)).toInt32).toBitVec = (BitVec.ofNat 32 a) >>> (((BitVec.ofNat 32 k) &&& 31#32) % 32#32) := rfl
  rw [e1]
  apply BitVec.eq_of_toNat_eq
  have hk2 : ((BitVec.ofNat 32 k &&& 31#32) % 32#32).toNat = k := by
    have : ∀ k, k < 32 → ((BitVec.ofNat 32 k &&& 31#32) % 32#32).toNat = k := by decide +kernel
    exact this k hk
  rw [BitVec.ushiftRight_eq', BitVec.toNat_ushiftRight, hk2, BitVec.toNat_ofNat, BitVec.toNat_ofNat, Nat.shiftRight_eq_div_pow, Nat.mod_eq_of_lt (by omega)]
  have : a / 2 ^ k ≤ a := Nat.div_le_self _ _
  rw [Nat.mod_eq_of_lt (by omega)]
