/-! the count of bits of sixteen bits, tried on all of them -/
def bcN (m : Nat) : Nat :=
  let a := m - (m / 2 &&& 1431655765)
  let b := (a &&& 858993459) + (a / 4 &&& 858993459)
  let c := (b + b / 16) &&& 252645135
  let d := c + c / 256
  let e := d + d / 65536
  e &&& 63
def popN (m : Nat) : Nat := m / 1 % 2 + m / 2 % 2 + m / 4 % 2 + m / 8 % 2 + m / 16 % 2 + m / 32 % 2 + m / 64 % 2 + m / 128 % 2 + m / 256 % 2 + m / 512 % 2 + m / 1024 % 2 + m / 2048 % 2 + m / 4096 % 2 + m / 8192 % 2 + m / 16384 % 2 + m / 32768 % 2
theorem pz_bcA0 : ∀ a, a < 16 → ∀ b, b < 256 → bcN (256 * (0 + a) + b) = popN (256 * (0 + a) + b) := by decide +kernel
theorem pz_bcA1 : ∀ a, a < 16 → ∀ b, b < 256 → bcN (256 * (16 + a) + b) = popN (256 * (16 + a) + b) := by decide +kernel
theorem pz_bcA2 : ∀ a, a < 16 → ∀ b, b < 256 → bcN (256 * (32 + a) + b) = popN (256 * (32 + a) + b) := by decide +kernel
theorem pz_bcA3 : ∀ a, a < 16 → ∀ b, b < 256 → bcN (256 * (48 + a) + b) = popN (256 * (48 + a) + b) := by decide +kernel
theorem pz_bcA4 : ∀ a, a < 16 → ∀ b, b < 256 → bcN (256 * (64 + a) + b) = popN (256 * (64 + a) + b) := by decide +kernel
theorem pz_bcA5 : ∀ a, a < 16 → ∀ b, b < 256 → bcN (256 * (80 + a) + b) = popN (256 * (80 + a) + b) := by decide +kernel
theorem pz_bcA6 : ∀ a, a < 16 → ∀ b, b < 256 → bcN (256 * (96 + a) + b) = popN (256 * (96 + a) + b) := by decide +kernel
theorem pz_bcA7 : ∀ a, a < 16 → ∀ b, b < 256 → bcN (256 * (112 + a) + b) = popN (256 * (112 + a) + b) := by decide +kernel
theorem pz_bcA8 : ∀ a, a < 16 → ∀ b, b < 256 → bcN (256 * (128 + a) + b) = popN (256 * (128 + a) + b) := by decide +kernel
theorem pz_bcA9 : ∀ a, a < 16 → ∀ b, b < 256 → bcN (256 * (144 + a) + b) = popN (256 * (144 + a) + b) := by decide +kernel
theorem pz_bcA10 : ∀ a, a < 16 → ∀ b, b < 256 → bcN (256 * (160 + a) + b) = popN (256 * (160 + a) + b) := by decide +kernel
theorem pz_bcA11 : ∀ a, a < 16 → ∀ b, b < 256 → bcN (256 * (176 + a) + b) = popN (256 * (176 + a) + b) := by decide +kernel
theorem pz_bcA12 : ∀ a, a < 16 → ∀ b, b < 256 → bcN (256 * (192 + a) + b) = popN (256 * (192 + a) + b) := by decide +kernel
theorem pz_bcA13 : ∀ a, a < 16 → ∀ b, b < 256 → bcN (256 * (208 + a) + b) = popN (256 * (208 + a) + b) := by decide +kernel
theorem pz_bcA14 : ∀ a, a < 16 → ∀ b, b < 256 → bcN (256 * (224 + a) + b) = popN (256 * (224 + a) + b) := by decide +kernel
theorem pz_bcA15 : ∀ a, a < 16 → ∀ b, b < 256 → bcN (256 * (240 + a) + b) = popN (256 * (240 + a) + b) := by decide +kernel
theorem pz_bcA (a b : Nat) (ha : a < 256) (hb : b < 256) : bcN (256 * a + b) = popN (256 * a + b) := by
  have h16 : a / 16 < 16 := by omega
  have h1 : a % 16 < 16 := by omega
  have e : a = 16 * (a / 16) + a % 16 := by omega
  generalize a / 16 = q at h16 e
  generalize a % 16 = r at h1 e
  subst e
  match q, h16 with
  | 0, _ => exact pz_bcA0 r h1 b hb
  | 1, _ => exact pz_bcA1 r h1 b hb
  | 2, _ => exact pz_bcA2 r h1 b hb
  | 3, _ => exact pz_bcA3 r h1 b hb
  | 4, _ => exact pz_bcA4 r h1 b hb
  | 5, _ => exact pz_bcA5 r h1 b hb
  | 6, _ => exact pz_bcA6 r h1 b hb
  | 7, _ => exact pz_bcA7 r h1 b hb
  | 8, _ => exact pz_bcA8 r h1 b hb
  | 9, _ => exact pz_bcA9 r h1 b hb
  | 10, _ => exact pz_bcA10 r h1 b hb
  | 11, _ => exact pz_bcA11 r h1 b hb
  | 12, _ => exact pz_bcA12 r h1 b hb
  | 13, _ => exact pz_bcA13 r h1 b hb
  | 14, _ => exact pz_bcA14 r h1 b hb
  | 15, _ => exact pz_bcA15 r h1 b hb
  | q + 16, h => exact absurd h (by omega)
