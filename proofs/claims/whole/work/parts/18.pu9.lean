/-! pure part nine: how many bits. -/
def bc_pop : Nat → Nat → Nat
  | 0, _ => 0
  | n + 1, m => m % 2 + bc_pop n (m / 2)
theorem bc_and (a b x y : Nat) (hx : x < 256) (hy : y < 256) : (256 * a + x) &&& (256 * b + y) = 256 * (a &&& b) + (x &&& y) := by
  apply Nat.eq_of_testBit_eq
  intro i
  have h8 : (256 : Nat) = 2 ^ 8 := by decide
  have hxy : (x &&& y) < 256 := Nat.lt_of_le_of_lt Nat.and_le_left hx
  rw [h8] at hx hy hxy ⊢
  rw [Nat.testBit_and, Nat.testBit_two_pow_mul_add _ hx, Nat.testBit_two_pow_mul_add _ hy, Nat.testBit_two_pow_mul_add _ hxy]
  split
  · rw [Nat.testBit_and]
  · rw [Nat.testBit_and]
/-- the first three steps of the count, by bytes -/
def bc_A (M m : Nat) : Nat := m - ((m / 2) &&& M)
def bc_B (M m : Nat) : Nat := (m &&& M) + ((m / 4) &&& M)
def bc_C (M m : Nat) : Nat := (m + m / 16) &&& M
def bc_8 (x : Nat) : Nat := bc_C 15 (bc_B 51 (bc_A 85 x))
theorem bc_byte : ∀ x, x < 256 → bc_8 x = bc_pop 8 x ∧ bc_A 85 x < 256 ∧ ((x / 2) &&& 85) ≤ x ∧ bc_B 51 (bc_A 85 x) < 69 ∧ bc_B 51 (bc_A 85 x) % 16 < 5 ∧ bc_8 x ≤ 8 := by decide +kernel
theorem bc_a1 : ∀ x, x < 256 → ∀ c, c < 2 → ((x / 2 + 128 * c) &&& 85) = ((x / 2) &&& 85) := by decide +kernel
theorem bc_b1 : ∀ x, x < 256 → ∀ c, c < 4 → ((x / 4 + 64 * c) &&& 51) = ((x / 4) &&& 51) := by decide +kernel
theorem bc_c1 : ∀ x, x < 256 → ((x &&& 15) = x % 16) := by decide +kernel
theorem bc_And_le (q M : Nat) : ((q / 2) &&& M) ≤ q := Nat.le_trans Nat.and_le_left (Nat.div_le_self q 2)
theorem bc_A_split (M x q : Nat) (hx : x < 256) : bc_A (256 * M + 85) (256 * q + x) = 256 * bc_A M q + bc_A 85 x := by
  unfold bc_A
  have e : (256 * q + x) / 2 = 256 * (q / 2) + (x / 2 + 128 * (q % 2)) := by omega
  rw [e, bc_and _ _ _ _ (by omega) (by decide), bc_a1 x hx (q % 2) (by omega)]
  have h1 := bc_And_le q M
  have h2 := (bc_byte x hx).2.2.1
  omega
theorem bc_B_split (M x q : Nat) (hx : x < 256) : bc_B (256 * M + 51) (256 * q + x) = 256 * bc_B M q + bc_B 51 x := by
  unfold bc_B
  have e : (256 * q + x) / 4 = 256 * (q / 4) + (x / 4 + 64 * (q % 4)) := by omega
  rw [e, bc_and _ _ _ _ hx (by decide), bc_and _ _ _ _ (by omega) (by decide), bc_b1 x hx (q % 4) (by omega)]
  omega
theorem bc_C_split (M x q : Nat) (hx : x < 69) (hq : q % 16 < 5) : bc_C (256 * M + 15) (256 * q + x) = 256 * bc_C M q + bc_C 15 x := by
  unfold bc_C
  have e : 256 * q + x + (256 * q + x) / 16 = 256 * (q + q / 16) + (x + x / 16 + 16 * (q % 16)) := by omega
  rw [e, bc_and _ _ _ _ (by omega) (by decide), bc_c1 _ (by omega), bc_c1 _ (by omega)]
  omega
theorem bc_pop_split (x q : Nat) (hx : x < 256) (n : Nat) : bc_pop (8 + n) (256 * q + x) = bc_pop 8 x + bc_pop n q := by
  have st : ∀ k y, bc_pop (k + 1) y = y % 2 + bc_pop k (y / 2) := fun k y => rfl
  have e8 : 8 + n = n + 8 := by omega
  rw [e8]
  show (256 * q + x) % 2 + ((256 * q + x) / 2 % 2 + ((256 * q + x) / 2 / 2 % 2 + ((256 * q + x) / 2 / 2 / 2 % 2 + ((256 * q + x) / 2 / 2 / 2 / 2 % 2 + ((256 * q + x) / 2 / 2 / 2 / 2 / 2 % 2 + ((256 * q + x) / 2 / 2 / 2 / 2 / 2 / 2 % 2 + ((256 * q + x) / 2 / 2 / 2 / 2 / 2 / 2 / 2 % 2 + bc_pop n ((256 * q + x) / 2 / 2 / 2 / 2 / 2 / 2 / 2 / 2)))))))) = x % 2 + (x / 2 % 2 + (x / 2 / 2 % 2 + (x / 2 / 2 / 2 % 2 + (x / 2 / 2 / 2 / 2 % 2 + (x / 2 / 2 / 2 / 2 / 2 % 2 + (x / 2 / 2 / 2 / 2 / 2 / 2 % 2 + (x / 2 / 2 / 2 / 2 / 2 / 2 / 2 % 2 + 0))))))) + bc_pop n q
  have ee : (256 * q + x) / 2 / 2 / 2 / 2 / 2 / 2 / 2 / 2 = q := by omega
  rw [ee]
  omega
/-- the count of the JDK, on numbers of 24 bits -/
theorem bc_main (m : Nat) (hm : m < 2 ^ 24) : let i := bc_C 0x0f0f0f0f (bc_B 0x33333333 (bc_A 0x55555555 m)); let d := i + i / 256; ((d + d / 65536) &&& 63) = bc_pop 24 m := by
  have h0 : m % 256 < 256 := Nat.mod_lt _ (by decide)
  have h1 : m / 256 % 256 < 256 := Nat.mod_lt _ (by decide)
  have h2 : m / 65536 < 256 := by omega
  have em : m = 256 * (256 * (m / 65536) + m / 256 % 256) + m % 256 := by omega
  generalize m % 256 = x at h0 em
  generalize m / 256 % 256 = y at h1 em
  generalize m / 65536 = z at h2 em
  subst em
  obtain ⟨x1, x2, x3, x4, x5, x6⟩ := bc_byte x h0
  obtain ⟨y1, y2, y3, y4, y5, y6⟩ := bc_byte y h1
  obtain ⟨z1, z2, z3, z4, z5, z6⟩ := bc_byte z h2
  have a0 : bc_A 0x555555 (256 * z + y) = 256 * bc_A 0x5555 z + bc_A 85 y := bc_A_split 0x5555 y z h1
  have a1 : bc_A 0x55555555 (256 * (256 * z + y) + x) = 256 * (256 * bc_A 0x5555 z + bc_A 85 y) + bc_A 85 x := by rw [← a0]; exact bc_A_split 0x555555 x _ h0
  have az : ∀ w, w < 256 → bc_A 0x5555 w = bc_A 85 w ∧ bc_B 0x3333 (bc_A 85 w) = bc_B 51 (bc_A 85 w) ∧ bc_C 0x0f0f (bc_B 51 (bc_A 85 w)) = bc_8 w := by decide +kernel
  obtain ⟨az1, az2, az3⟩ := az z h2
  rw [a1, az1]
  have b0 : bc_B 0x333333 (256 * bc_A 85 z + bc_A 85 y) = 256 * bc_B 51 (bc_A 85 z) + bc_B 51 (bc_A 85 y) := by rw [← az2]; exact bc_B_split 0x3333 _ _ y2
  have b1 : bc_B 0x33333333 (256 * (256 * bc_A 85 z + bc_A 85 y) + bc_A 85 x) = 256 * (256 * bc_B 51 (bc_A 85 z) + bc_B 51 (bc_A 85 y)) + bc_B 51 (bc_A 85 x) := by rw [← b0]; exact bc_B_split 0x333333 _ _ x2
  rw [b1]
  have c0 : bc_C 0x0f0f0f (256 * bc_B 51 (bc_A 85 z) + bc_B 51 (bc_A 85 y)) = 256 * bc_8 z + bc_8 y := by rw [← az3]; exact bc_C_split 0x0f0f _ _ y4 z5
  have c1 : bc_C 0x0f0f0f0f (256 * (256 * bc_B 51 (bc_A 85 z) + bc_B 51 (bc_A 85 y)) + bc_B 51 (bc_A 85 x)) = 256 * (256 * bc_8 z + bc_8 y) + bc_8 x := by rw [← c0]; exact bc_C_split 0x0f0f0f _ _ x4 (by omega)
  rw [c1, x1, y1, z1]
  have p2 : bc_pop 16 (256 * z + y) = bc_pop 8 y + bc_pop 8 z := bc_pop_split y z h1 8
  have p3 : bc_pop 24 (256 * (256 * z + y) + x) = bc_pop 8 x + bc_pop 16 (256 * z + y) := bc_pop_split x _ h0 16
  rw [p3, p2]
  rw [x1] at x6
  rw [y1] at y6
  rw [z1] at z6
  generalize bc_pop 8 x = a at x6
  generalize bc_pop 8 y = b at y6
  generalize bc_pop 8 z = c at z6
  dsimp only
  rw [show (63 : Nat) = 2 ^ 6 - 1 by decide, Nat.and_two_pow_sub_one_eq_mod]
  have d1 : (256 * (256 * c + b) + a + (256 * (256 * c + b) + a) / 256) / 65536 = c := by omega
  rw [d1]
  omega
