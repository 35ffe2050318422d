/-! pure part, base: loops, reading and writing of the abstract heap, bits -/
theorem pz_FU {m : Nat} (h : m < 6000) : m < FU := by rw [FU_eq]; exact h
theorem pz_ge {L : Int32} {N i : Nat} (hL : L = nI N) (hN : N < 2 ^ 31) (h : i < N) : ¬ L ≤ nI i := by
  subst hL; exact nI_ge h hN
theorem pz_le {L : Int32} {N i : Nat} (hL : L = nI N) (hi : i < 2 ^ 31) (h : N ≤ i) : L ≤ nI i := by
  subst hL; exact nI_le h hi
theorem pz_ex {L : Int32} {N : Nat} (hL : L = nI N) : L ≤ nI N := by
  subst hL; exact Int32.le_refl _
/-- a counting loop, by an invariant -/
theorem pz_lp {σ α : Type} (L : Nat → σ → Int32 → Option α) (k : σ → Option α) (N : Nat) (I : Nat → σ → Prop)
    (hx : ∀ n s, I N s → L (n + 1) s (nI N) = k s)
    (hs : ∀ n i s, i < N → I i s → ∃ s', I (i + 1) s' ∧ L (n + 1) s (nI i) = L n s' (nI (i + 1))) :
    ∀ m i n s, i + m = N → m < n → I i s → ∃ s', I N s' ∧ L n s (nI i) = k s' := by
  intro m
  induction m with
  | zero =>
    intro i n s hi hn hI
    cases n with
    | zero => omega
    | succ n =>
      have : i = N := by omega
      subst this
      exact ⟨s, hI, hx n s hI⟩
  | succ m ih =>
    intro i n s hi hn hI
    cases n with
    | zero => omega
    | succ n =>
      obtain ⟨s', h1, h2⟩ := hs n i s (by omega) hI
      obtain ⟨s2, h3, h4⟩ := ih (i + 1) n s' (by omega) (by omega) h1
      exact ⟨s2, h3, h2.trans h4⟩
/-- a counting loop that may leave early -/
theorem pz_lpe {σ α : Type} (L : Nat → σ → Int32 → Option α) (k : σ → Option α) (N : Nat) (I : Nat → σ → Prop) (X : Option α → Prop)
    (hx : ∀ n s, I N s → L (n + 1) s (nI N) = k s)
    (hs : ∀ n i s, i < N → I i s → (∃ s', I (i + 1) s' ∧ L (n + 1) s (nI i) = L n s' (nI (i + 1))) ∨ X (L (n + 1) s (nI i))) :
    ∀ m i n s, i + m = N → m < n → I i s → (∃ s', I N s' ∧ L n s (nI i) = k s') ∨ X (L n s (nI i)) := by
  intro m
  induction m with
  | zero =>
    intro i n s hi hn hI
    cases n with
    | zero => omega
    | succ n =>
      have : i = N := by omega
      subst this
      exact Or.inl ⟨s, hI, hx n s hI⟩
  | succ m ih =>
    intro i n s hi hn hI
    cases n with
    | zero => omega
    | succ n =>
      rcases hs n i s (by omega) hI with ⟨s', h1, h2⟩ | h
      · rcases ih (i + 1) n s' (by omega) (by omega) h1 with ⟨s2, h3, h4⟩ | h
        · exact Or.inl ⟨s2, h3, h2.trans h4⟩
        · right; rw [h2]; exact h
      · exact Or.inr h
/-- a counting loop whose state is known at each count -/
theorem pz_lpf {σ α : Type} (L : Nat → σ → Int32 → Option α) (r : Option α) (N : Nat) (F : Nat → σ)
    (hx : ∀ n, L (n + 1) (F N) (nI N) = r)
    (hs : ∀ n i, i < N → L (n + 1) (F i) (nI i) = L n (F (i + 1)) (nI (i + 1))) :
    ∀ m i n, i + m = N → m < n → L n (F i) (nI i) = r := by
  intro m
  induction m with
  | zero =>
    intro i n hi hn
    cases n with
    | zero => omega
    | succ n =>
      have : i = N := by omega
      subst this
      exact hx n
  | succ m ih =>
    intro i n hi hn
    cases n with
    | zero => omega
    | succ n => rw [hs n i (by omega)]; exact ih (i + 1) n (by omega) (by omega)
/-! heap -/
theorem pz_gI {h : HP} {a ci k : Nat} {fs : List Value} {x : Int32} (ha : a < NC) (e : h a = .inl (ci, fs)) (hk : fs[k]? = some (.int x)) : gI ci h a k = some x := by
  simp [gI, gf, ha, e, hk]
theorem pz_gR {h : HP} {a ci k b : Nat} {fs : List Value} (ha : a < NC) (e : h a = .inl (ci, fs)) (hk : fs[k]? = some (.ref b)) : gR ci h a k = some b := by
  simp [gR, gf, ha, e, hk]
theorem pz_pV {h : HP} {a ci k : Nat} {fs : List Value} (v : Value) (ha : a < NC) (e : h a = .inl (ci, fs)) (hk : k < fs.length) : pV ci h a k v = some (va_up h a (.inl (ci, fs.set k v))) := by
  simp [pV, ha, e, hk]
theorem pz_iO {h : HP} {a ci : Nat} {fs : List Value} (ha : a < NC) (e : h a = .inl (ci, fs)) : iO ci h a = true := by
  simp [iO, ha, e]
theorem pz_ck {α : Type} {h : HP} {a ci : Nat} {fs : List Value} (ha : a < NC) (e : h a = .inl (ci, fs)) (k : Option α) : ck ci h a k = k := by
  simp [ck, pz_iO ha e]
theorem pz_in {i n : Nat} (hi : i < n) (hn : n < 2 ^ 31) : ¬ (nI i < 0 ∨ n ≤ (nI i).toNatClampNeg) := nI_in hi hn
theorem pz_aI {h : HP} {a n i : Nat} {f : Nat → Int32} (ha : a < NC) (e : h a = .inr (n, .inl f)) (hi : i < n) (hn : n < 2 ^ 31) : aI h a (nI i) = some (f i) := by
  have c := nI_clamp (n := i) (by omega)
  have q := pz_in hi hn
  rw [c] at q
  simp only [aI, if_pos ha, e, if_neg q, c]
theorem pz_aJ {h : HP} {a n i : Nat} {f : Nat → Int64} (ha : a < NC) (e : h a = .inr (n, .inr (.inl f))) (hi : i < n) (hn : n < 2 ^ 31) : aJ h a (nI i) = some (f i) := by
  have c := nI_clamp (n := i) (by omega)
  have q := pz_in hi hn
  rw [c] at q
  simp only [aJ, if_pos ha, e, if_neg q, c]
theorem pz_aZ {h : HP} {a n i : Nat} {f : Nat → Int32} (ha : a < NC) (e : h a = .inr (n, .inr (.inr (.inl f)))) (hi : i < n) (hn : n < 2 ^ 31) : aZ h a (nI i) = some (f i) := by
  have c := nI_clamp (n := i) (by omega)
  have q := pz_in hi hn
  rw [c] at q
  simp only [aZ, if_pos ha, e, if_neg q, c]
theorem pz_aG {h : HP} {a n i : Nat} {f : Nat → Option Nat} (ha : a < NC) (e : h a = .inr (n, .inr (.inr (.inr f)))) (hi : i < n) (hn : n < 2 ^ 31) : aG h a (nI i) = some (f i) := by
  have c := nI_clamp (n := i) (by omega)
  have q := pz_in hi hn
  rw [c] at q
  simp only [aG, if_pos ha, e, if_neg q, c]
theorem pz_sI {h : HP} {a n i : Nat} {f : Nat → Int32} (x : Int32) (ha : a < NC) (e : h a = .inr (n, .inl f)) (hi : i < n) (hn : n < 2 ^ 31) : sI h a (nI i) x = some (va_up h a (.inr (n, .inl (upd f i x)))) := by
  have c := nI_clamp (n := i) (by omega)
  have q := pz_in hi hn
  rw [c] at q
  simp only [sI, if_pos ha, e, if_neg q, c]
theorem pz_sJ {h : HP} {a n i : Nat} {f : Nat → Int64} (x : Int64) (ha : a < NC) (e : h a = .inr (n, .inr (.inl f))) (hi : i < n) (hn : n < 2 ^ 31) : sJ h a (nI i) x = some (va_up h a (.inr (n, .inr (.inl (vp_updL f i x))))) := by
  have c := nI_clamp (n := i) (by omega)
  have q := pz_in hi hn
  rw [c] at q
  simp only [sJ, if_pos ha, e, if_neg q, c]
theorem pz_nz0 : vp_nar .boolean 0 = 0 := by decide
theorem pz_nz1 : vp_nar .boolean 1 = 1 := by decide
theorem pz_sZ {h : HP} {a n i : Nat} {f : Nat → Int32} (x : Int32) (ha : a < NC) (e : h a = .inr (n, .inr (.inr (.inl f)))) (hi : i < n) (hn : n < 2 ^ 31) : sZ h a (nI i) x = some (va_up h a (.inr (n, .inr (.inr (.inl (upd f i (vp_nar .boolean x))))))) := by
  have c := nI_clamp (n := i) (by omega)
  have q := pz_in hi hn
  rw [c] at q
  simp only [sZ, if_pos ha, e, if_neg q, c]
theorem pz_sG {h : HP} {a n i b : Nat} {f : Nat → Option Nat} {fs : List Value} (ha : a < NC) (e : h a = .inr (n, .inr (.inr (.inr f)))) (hb : b < NC) (eb : h b = .inl (1, fs)) (hi : i < n) (hn : n < 2 ^ 31) : sG h a (nI i) b = some (va_up h a (.inr (n, .inr (.inr (.inr (va_up f i (some b))))))) := by
  have c := nI_clamp (n := i) (by omega)
  have q := pz_in hi hn
  rw [c] at q
  simp only [sG, if_pos (And.intro ha (pz_iO hb eb)), e, if_neg q, c]
/-! bits -/
theorem pz_s31 : ∀ n, n < 32 → ((nI n &&& 31).toBitVec.smod 32).toNat = n := by decide +kernel
theorem pz_shl1 : ∀ c, c < 31 → (1 : Int32) <<< (nI c &&& 31) = nI (2 ^ c) := by decide +kernel
theorem pz_and1 {m : Nat} (h : m < 2 ^ 32) : nI m &&& 1 = nI (m % 2) := pk_andN h 1 (by decide)
theorem pz_has {m i : Nat} (hm : m < 65536) (hi : i < 16) : (nI m >>> (nI i &&& 31)) &&& 1 = nI (m.testBit i).toNat := by
  have hd : m / 2 ^ i ≤ m := Nat.div_le_self _ _
  rw [pk_shrN (by omega) _ i (pz_s31 i (by omega)), pz_and1 (by omega)]
  congr 1
  rw [Nat.testBit_eq_decide_div_mod_eq]
  have : m / 2 ^ i % 2 < 2 := Nat.mod_lt _ (by decide)
  by_cases q : m / 2 ^ i % 2 = 1
  · simp [q]
  · have : m / 2 ^ i % 2 = 0 := by omega
    simp [this]
theorem pz_nI0 : ∀ b : Bool, (nI b.toNat = 0) ↔ b = false := by decide
theorem pz_or (a b : Nat) : nI a ||| nI b = nI (a ||| b) := by
  unfold nI
  apply Int32.toBitVec_inj.mp
  simp
theorem pz_and (a b : Nat) : nI a &&& nI b = nI (a &&& b) := by
  unfold nI
  apply Int32.toBitVec_inj.mp
  simp
theorem pz_xor (a b : Nat) : nI a ^^^ nI b = nI (a ^^^ b) := by
  unfold nI
  apply Int32.toBitVec_inj.mp
  simp
theorem pz_m1 : (-1 : Int32) = nI 4294967295 := by decide
def cnt (p : Nat → Bool) : Nat → Nat
  | 0 => 0
  | n + 1 => cnt p n + (if p n then 1 else 0)
theorem cnt_le (p : Nat → Bool) (n : Nat) : cnt p n ≤ n := by
  induction n with
  | zero => exact Nat.le_refl _
  | succ n ih => simp only [cnt]; split <;> omega
theorem cnt_congr {p q : Nat → Bool} {n : Nat} (h : ∀ i, i < n → p i = q i) : cnt p n = cnt q n := by
  induction n with
  | zero => rfl
  | succ n ih => simp only [cnt]; rw [ih (fun i hi => h i (by omega)), h n (by omega)]
def pop16 (m : Nat) : Nat := cnt (fun i => m.testBit i) 16
