/-! Integer.bitCount of 16 bits -/
def bcN (m : Nat) : Nat :=
  let a := m - (m / 2 &&& 1431655765)
  let b := (a &&& 858993459) + (a / 4 &&& 858993459)
  let c := (b + b / 16) &&& 252645135
  let d := c + c / 256
  let e := d + d / 65536
  e &&& 63
theorem pz_us {n : Nat} (hn : n < 2 ^ 32) (s : Int32) (k : Nat) (hs : ((s.toUInt32 &&& Int32.toUInt32 31).toBitVec % 32).toNat = k) : ((Int32.toUInt32 (nI n) >>> (Int32.toUInt32 s &&& Int32.toUInt32 31)).toInt32) = nI (n / 2 ^ k) := pk_ushrN hn s k hs
theorem pz_bc1 {m : Nat} (hm : m < 65536) : f_J6_bitCount_0f7a4 (nI m) = some (nI (bcN m)) := by
  have k5 : (1431655765 : Int32) = nI 1431655765 := by decide
  have k3 : (858993459 : Int32) = nI 858993459 := by decide
  have kf : (252645135 : Int32) = nI 252645135 := by decide
  have k63 : (63 : Int32) = nI 63 := by decide
  have l1 : (m / 2 &&& 1431655765) ≤ m := Nat.le_trans Nat.and_le_left (Nat.div_le_self _ _)
  have s1 : nI m - nI (m / 2 &&& 1431655765) = nI (m - (m / 2 &&& 1431655765)) := pk_sub l1
  generalize ha : m - (m / 2 &&& 1431655765) = a at s1
  have ha2 : a ≤ m := by omega
  have l2 : (a &&& 858993459) ≤ a := Nat.and_le_left
  have l3 : (a / 4 &&& 858993459) ≤ a := Nat.le_trans Nat.and_le_left (Nat.div_le_self _ _)
  generalize hb : (a &&& 858993459) + (a / 4 &&& 858993459) = b
  have hb2 : b ≤ 2 * m := by omega
  have l4 : b / 16 ≤ b := Nat.div_le_self _ _
  have l5 : ((b + b / 16) &&& 252645135) ≤ b + b / 16 := Nat.and_le_left
  generalize hc : (b + b / 16) &&& 252645135 = c at l5
  have l6 : c / 256 ≤ c := Nat.div_le_self _ _
  have e0 := pz_us (n := m) (by omega) 1 1 (by decide)
  have e1 := pz_us (n := a) (by omega) 2 2 (by decide)
  have e2 := pz_us (n := b) (by omega) 4 4 (by decide)
  have e3 := pz_us (n := c) (by omega) 8 8 (by decide)
  have e4 := pz_us (n := c + c / 256) (by omega) 16 16 (by decide)
  unfold f_J6_bitCount_0f7a4
  rw [k5, k3, kf, k63]
  simp only [e0, pz_and, s1, e1, nI_add, hb, e2, hc, e3, e4, show (2 : Nat) ^ 1 = 2 from rfl, show (2 : Nat) ^ 2 = 4 from rfl, show (2 : Nat) ^ 4 = 16 from rfl, show (2 : Nat) ^ 8 = 256 from rfl, show (2 : Nat) ^ 16 = 65536 from rfl]
  simp only [bcN, ha, hb, hc]
theorem pz_bcA0 : ∀ a, a < 16 → ∀ b, b < 256 → bcN (256 * (0 + a) + b) = pop16 (256 * (0 + a) + b) := by decide +kernel
theorem pz_bcA1 : ∀ a, a < 16 → ∀ b, b < 256 → bcN (256 * (16 + a) + b) = pop16 (256 * (16 + a) + b) := by decide +kernel
theorem pz_bcA2 : ∀ a, a < 16 → ∀ b, b < 256 → bcN (256 * (32 + a) + b) = pop16 (256 * (32 + a) + b) := by decide +kernel
theorem pz_bcA3 : ∀ a, a < 16 → ∀ b, b < 256 → bcN (256 * (48 + a) + b) = pop16 (256 * (48 + a) + b) := by decide +kernel
theorem pz_bcA4 : ∀ a, a < 16 → ∀ b, b < 256 → bcN (256 * (64 + a) + b) = pop16 (256 * (64 + a) + b) := by decide +kernel
theorem pz_bcA5 : ∀ a, a < 16 → ∀ b, b < 256 → bcN (256 * (80 + a) + b) = pop16 (256 * (80 + a) + b) := by decide +kernel
theorem pz_bcA6 : ∀ a, a < 16 → ∀ b, b < 256 → bcN (256 * (96 + a) + b) = pop16 (256 * (96 + a) + b) := by decide +kernel
theorem pz_bcA7 : ∀ a, a < 16 → ∀ b, b < 256 → bcN (256 * (112 + a) + b) = pop16 (256 * (112 + a) + b) := by decide +kernel
theorem pz_bcA8 : ∀ a, a < 16 → ∀ b, b < 256 → bcN (256 * (128 + a) + b) = pop16 (256 * (128 + a) + b) := by decide +kernel
theorem pz_bcA9 : ∀ a, a < 16 → ∀ b, b < 256 → bcN (256 * (144 + a) + b) = pop16 (256 * (144 + a) + b) := by decide +kernel
theorem pz_bcA10 : ∀ a, a < 16 → ∀ b, b < 256 → bcN (256 * (160 + a) + b) = pop16 (256 * (160 + a) + b) := by decide +kernel
theorem pz_bcA11 : ∀ a, a < 16 → ∀ b, b < 256 → bcN (256 * (176 + a) + b) = pop16 (256 * (176 + a) + b) := by decide +kernel
theorem pz_bcA12 : ∀ a, a < 16 → ∀ b, b < 256 → bcN (256 * (192 + a) + b) = pop16 (256 * (192 + a) + b) := by decide +kernel
theorem pz_bcA13 : ∀ a, a < 16 → ∀ b, b < 256 → bcN (256 * (208 + a) + b) = pop16 (256 * (208 + a) + b) := by decide +kernel
theorem pz_bcA14 : ∀ a, a < 16 → ∀ b, b < 256 → bcN (256 * (224 + a) + b) = pop16 (256 * (224 + a) + b) := by decide +kernel
theorem pz_bcA15 : ∀ a, a < 16 → ∀ b, b < 256 → bcN (256 * (240 + a) + b) = pop16 (256 * (240 + a) + b) := by decide +kernel
theorem pz_bcA (a b : Nat) (ha : a < 256) (hb : b < 256) : bcN (256 * a + b) = pop16 (256 * a + b) := by
  have h16 : a / 16 < 16 := by omega
  have h1 : a % 16 < 16 := by omega
  have e : a = 16 * (a / 16) + a % 16 := by omega
  generalize a / 16 = q at h16 e
  generalize a % 16 = r at h1 e
  subst e
  match q, h16 with
  | 0, _ => exact pz_bcA0 r h1 b hb
  | 1, _ => exact pz_bcA1 r h1 b hb
  | 2, _ => exact pz_bcA2 r h1 b hb
  | 3, _ => exact pz_bcA3 r h1 b hb
  | 4, _ => exact pz_bcA4 r h1 b hb
  | 5, _ => exact pz_bcA5 r h1 b hb
  | 6, _ => exact pz_bcA6 r h1 b hb
  | 7, _ => exact pz_bcA7 r h1 b hb
  | 8, _ => exact pz_bcA8 r h1 b hb
  | 9, _ => exact pz_bcA9 r h1 b hb
  | 10, _ => exact pz_bcA10 r h1 b hb
  | 11, _ => exact pz_bcA11 r h1 b hb
  | 12, _ => exact pz_bcA12 r h1 b hb
  | 13, _ => exact pz_bcA13 r h1 b hb
  | 14, _ => exact pz_bcA14 r h1 b hb
  | 15, _ => exact pz_bcA15 r h1 b hb
  | q + 16, h => exact absurd h (by omega)
theorem pz_bc {m : Nat} (hm : m < 65536) : f_J6_bitCount_0f7a4 (nI m) = some (nI (pop16 m)) := by
  rw [pz_bc1 hm]
  have := pz_bcA (m / 256) (m % 256) (by omega) (by omega)
  rw [show 256 * (m / 256) + m % 256 = m by omega] at this
  rw [this]
