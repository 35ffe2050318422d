/-! Integer.bitCount of 16 bits -/
theorem pz_us {n : Nat} (hn : n < 2 ^ 32) (s : Int32) (k : Nat) (hs : ((s.toUInt32 &&& Int32.toUInt32 31).toBitVec % 32).toNat = k) : ((Int32.toUInt32 (nI n) >>> (Int32.toUInt32 s &&& Int32.toUInt32 31)).toInt32) = nI (n / 2 ^ k) := pk_ushrN hn s k hs
theorem pz_bc1 {m : Nat} (hm : m < 65536) : f_J6_bitCount_0f7a4 (nI m) = some (nI (bcN m)) := by
  have k5 : (1431655765 : Int32) = nI 1431655765 := by decide
  have k3 : (858993459 : Int32) = nI 858993459 := by decide
  have kf : (252645135 : Int32) = nI 252645135 := by decide
  have k63 : (63 : Int32) = nI 63 := by decide
  have l1 : (m / 2 &&& 1431655765) ≤ m := Nat.le_trans Nat.and_le_left (Nat.div_le_self _ _)
  have s1 : nI m - nI (m / 2 &&& 1431655765) = nI (m - (m / 2 &&& 1431655765)) := pk_sub l1
  generalize ha : m - (m / 2 &&& 1431655765) = a at s1
  have ha2 : a ≤ m := by omega
  have l2 : (a &&& 858993459) ≤ a := Nat.and_le_left
  have l3 : (a / 4 &&& 858993459) ≤ a := Nat.le_trans Nat.and_le_left (Nat.div_le_self _ _)
  generalize hb : (a &&& 858993459) + (a / 4 &&& 858993459) = b
  have hb2 : b ≤ 2 * m := by omega
  have l4 : b / 16 ≤ b := Nat.div_le_self _ _
  have l5 : ((b + b / 16) &&& 252645135) ≤ b + b / 16 := Nat.and_le_left
  generalize hc : (b + b / 16) &&& 252645135 = c at l5
  have l6 : c / 256 ≤ c := Nat.div_le_self _ _
  have e0 := pz_us (n := m) (by omega) 1 1 (by decide)
  have e1 := pz_us (n := a) (by omega) 2 2 (by decide)
  have e2 := pz_us (n := b) (by omega) 4 4 (by decide)
  have e3 := pz_us (n := c) (by omega) 8 8 (by decide)
  have e4 := pz_us (n := c + c / 256) (by omega) 16 16 (by decide)
  unfold f_J6_bitCount_0f7a4
  rw [k5, k3, kf, k63]
  simp only [e0, pz_and, s1, e1, nI_add, hb, e2, hc, e3, e4, show (2 : Nat) ^ 1 = 2 from rfl, show (2 : Nat) ^ 2 = 4 from rfl, show (2 : Nat) ^ 4 = 16 from rfl, show (2 : Nat) ^ 8 = 256 from rfl, show (2 : Nat) ^ 16 = 65536 from rfl]
  simp only [bcN, ha, hb, hc]
theorem pop_eq (m : Nat) : popN m = pop16 m := by
  have e : ∀ i, (if m.testBit i = true then 1 else 0) = m / 2 ^ i % 2 := by
    intro i
    rw [Nat.testBit_eq_decide_div_mod_eq]
    have : m / 2 ^ i % 2 < 2 := Nat.mod_lt _ (by decide)
    by_cases q : m / 2 ^ i % 2 = 1
    · simp [q]
    · have : m / 2 ^ i % 2 = 0 := by omega
      simp [this]
  simp only [popN, pop16, cnt, e, Nat.zero_add]
theorem pz_bc {m : Nat} (hm : m < 65536) : f_J6_bitCount_0f7a4 (nI m) = some (nI (pop16 m)) := by
  rw [pz_bc1 hm]
  have := pz_bcA (m / 256) (m % 256) (by omega) (by omega)
  rw [show 256 * (m / 256) + m % 256 = m by omega] at this
  rw [this, pop_eq]
