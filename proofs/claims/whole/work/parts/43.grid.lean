/-! tables as pictures of the class's grids: k r c (kept), v r c (value) -/
def rowOK (m : Int32) (k : Nat → Bool) : Prop := ∃ n, m = nI n ∧ n < 65536 ∧ ∀ c, c < 16 → n.testBit c = k c
def GC (kA : Nat → Int32) (vA : Nat → Int64) (k : Nat → Nat → Bool) (v : Nat → Nat → Int64) : Prop := (∀ r, r < 16 → rowOK (kA r) (k r)) ∧ ∀ r c, r < 16 → c < 16 → vA (16 * r + c) = v r c
theorem GC.congr {kA : Nat → Int32} {vA : Nat → Int64} {k k' : Nat → Nat → Bool} {v v' : Nat → Nat → Int64} (h : GC kA vA k v) (hk : ∀ r c, r < 16 → c < 16 → k' r c = k r c) (hv : ∀ r c, r < 16 → c < 16 → v' r c = v r c) : GC kA vA k' v' := by
  refine ⟨fun r hr => ?_, fun r c hr hc => ?_⟩
  · obtain ⟨n, h1, h2, h3⟩ := h.1 r hr
    exact ⟨n, h1, h2, fun c hc => by rw [h3 c hc, hk r c hr hc]⟩
  · rw [h.2 r c hr hc, hv r c hr hc]
def k2 (k : Nat → Nat → Bool) (r c : Nat) (b : Bool) : Nat → Nat → Bool := fun r' c' => if r' = r ∧ c' = c then b else k r' c'
def v2 (v : Nat → Nat → Int64) (r c : Nat) (x : Int64) : Nat → Nat → Int64 := fun r' c' => if r' = r ∧ c' = c then x else v r' c'
def bI (b : Bool) : Int32 := if b then 1 else 0
theorem bI_0 {b : Bool} : bI b = 0 ↔ b = false := by cases b <;> decide
theorem ge16 {i : Nat} (h : i < 16) : ¬ (16 : Int32) ≤ nI i := pz_ge (L := 16) (N := 16) rfl (by decide) h
theorem ex16 : (16 : Int32) ≤ nI 16 := by decide
theorem ge256 {i : Nat} (h : i < 256) : ¬ (256 : Int32) ≤ nI i := pz_ge (L := 256) (N := 256) rfl (by decide) h
theorem ex256 : (256 : Int32) ≤ nI 256 := by decide
theorem upeta {α : Type} (f : Nat → α) (a : Nat) : va_up f a (f a) = f := by
  funext j
  by_cases e : j = a
  · subst e; rw [va_up_self]
  · rw [va_up_ne _ _ e]
theorem pz_line {i : Nat} (h : i < 16) : f_X5_isLine (nI i) = some 1 := by
  unfold f_X5_isLine
  rw [if_neg (nI_pos (by omega)), if_neg (ge16 h)]
theorem pz_lineNo {x : Int32} (h : x < 0 ∨ 16 ≤ x) : f_X5_isLine x = some 0 := by
  unfold f_X5_isLine
  by_cases q : x < 0
  · rw [if_pos q]
  · rw [if_neg q, if_pos (by rcases h with h | h; exact absurd h q; exact h)]
theorem pz_hasBit {m i : Nat} (hm : m < 65536) (hi : i < 16) : f_X5_hasBit (nI m) (nI i) = some (bI (m.testBit i)) := by
  unfold f_X5_hasBit
  rw [pz_has hm hi]
  cases m.testBit i <;> decide
theorem pz_16 {r c : Nat} : (nI r * 16) + nI c = nI (16 * r + c) := by
  rw [show (16 : Int32) = nI 16 from rfl, pk_mul, nI_add, Nat.mul_comm]
theorem one_ne : ¬ ((1 : Int32) = 0) := by decide
theorem g_keeps {G : TG} {S : TS} {N : TN} {T : TT} {R : TR} {B : TB} {U : TU} {L : TL} {C : TC} {H : TH} {a r c : Nat} {k : Nat → Nat → Bool} {v : Nat → Nat → Int64} (ha : isG a = true) (hg : GC (G.2.2.1 a) (G.2.2.2 a) k v) (hr : r < 16) (hc : c < 16) : f_X2_keeps (E G S N T R B U L C H) a (nI r) (nI c) = some (bI (k r c)) := by
  obtain ⟨n, h1, h2, h3⟩ := hg.1 r hr
  unfold f_X2_keeps
  simp only [pz_line hr, pz_line hc, Option.bind_some, if_neg one_ne, e_gRkc ha, e_aK ha hr, h1, pz_hasBit h2 hc, h3 c hc]
  cases k r c <;> decide
theorem g_value {G : TG} {S : TS} {N : TN} {T : TT} {R : TR} {B : TB} {U : TU} {L : TL} {C : TC} {H : TH} {a r c : Nat} {k : Nat → Nat → Bool} {v : Nat → Nat → Int64} (ha : isG a = true) (hg : GC (G.2.2.1 a) (G.2.2.2 a) k v) (hr : r < 16) (hc : c < 16) : f_X2_value (E G S N T R B U L C H) a (nI r) (nI c) = some (v r c) := by
  unfold f_X2_value
  simp only [pz_line hr, pz_line hc, Option.bind_some, if_neg one_ne, e_gRvs ha, pz_16]
  rw [e_aV ha (by omega), Option.bind_some, hg.2 r c hr hc]
theorem GC.put {kA : Nat → Int32} {vA : Nat → Int64} {k : Nat → Nat → Bool} {v : Nat → Nat → Int64} (h : GC kA vA k v) {r c : Nat} (hr : r < 16) (hc : c < 16) (x : Int64) : GC (upd kA r (kA r ||| (1 <<< (nI c &&& 31)))) (vp_updL vA (16 * r + c) x) (k2 k r c true) (v2 v r c x) := by
  refine ⟨fun r' hr' => ?_, fun r' c' hr' hc' => ?_⟩
  · by_cases e : r' = r
    · subst e
      obtain ⟨n, h1, h2, h3⟩ := h.1 r' hr'
      refine ⟨n ||| 2 ^ c, ?_, ?_, fun c' hc' => ?_⟩
      · rw [pk_us, h1, pz_shl1 c (by omega), pz_or]
      · exact Nat.or_lt_two_pow (n := 16) h2 (Nat.pow_lt_pow_right (by decide) hc)
      · rw [Nat.testBit_or, h3 c' hc', Nat.testBit_two_pow]
        by_cases q : c' = c
        · subst q; simp [k2]
        · have : ¬ c = c' := fun z => q z.symm
          simp [k2, q, this]
    · obtain ⟨n, h1, h2, h3⟩ := h.1 r' hr'
      exact ⟨n, by rw [pk_un e]; exact h1, h2, fun c' hc' => by rw [h3 c' hc']; simp [k2, e]⟩
  · by_cases e : r' = r ∧ c' = c
    · obtain ⟨rfl, rfl⟩ := e
      rw [pk_uLs]; simp [v2]
    · have : 16 * r' + c' ≠ 16 * r + c := fun z => e ⟨by omega, by omega⟩
      rw [pk_uLn this, h.2 r' c' hr' hc']; simp [v2, e]
theorem g_put {rc : Nat → Int32} {cc : Nat → Int32} {kc : Nat → Nat → Int32} {vs : Nat → Nat → Int64} {S : TS} {N : TN} {T : TT} {R : TR} {B : TB} {U : TU} {L : TL} {C : TC} {H : TH} {a r c : Nat} {kA : Nat → Int32} {vA : Nat → Int64} (ha : isG a = true) (hr : r < 16) (hc : c < 16) (x : Int64) : f_X2_put (E (rc, cc, va_up kc a kA, va_up vs a vA) S N T R B U L C H) a (nI r) (nI c) x = some (E (rc, cc, va_up kc a (upd kA r (kA r ||| (1 <<< (nI c &&& 31)))), va_up vs a (vp_updL vA (16 * r + c) x)) S N T R B U L C H) := by
  unfold f_X2_put
  simp only [pz_line hr, pz_line hc, Option.bind_some, if_neg one_ne, e_gRkc ha, e_aK ha hr, e_sK ha hr, va_up_self, bx_uu, e_gRvs ha, pz_16]
  rw [e_sV ha (by omega), Option.bind_some, va_up_self, bx_uu]
theorem g_putSum {rc : Nat → Int32} {cc : Nat → Int32} {kc : Nat → Nat → Int32} {vs : Nat → Nat → Int64} {S : TS} {N : TN} {T : TT} {R : TR} {B : TB} {U : TU} {L : TL} {C : TC} {H : TH} {a r c : Nat} {kA : Nat → Int32} {vA : Nat → Int64} {k : Nat → Nat → Bool} {v : Nat → Nat → Int64} (ha : isG a = true) (hg : GC kA vA k v) (hr : r < 16) (hc : c < 16) (x : Int64) : f_X2_putSum (E (rc, cc, va_up kc a kA, va_up vs a vA) S N T R B U L C H) a (nI r) (nI c) x = some (E (rc, cc, va_up kc a (upd kA r (kA r ||| (1 <<< (nI c &&& 31)))), va_up vs a (vp_updL vA (16 * r + c) (v r c + x))) S N T R B U L C H) := by
  unfold f_X2_putSum
  rw [e_ckG ha, g_value (k := k) (v := v) ha (by simpa only [va_up_self] using hg) hr hc, Option.bind_some, e_ckG ha, g_put ha hr hc, Option.bind_some]
/-! sums over 0 .. n-1 -/
def sumJ (f : Nat → Int64) : Nat → Int64
  | 0 => 0
  | n + 1 => sumJ f n + f n
theorem sumJ_congr {f g : Nat → Int64} {n : Nat} (h : ∀ i, i < n → f i = g i) : sumJ f n = sumJ g n := by
  induction n with
  | zero => rfl
  | succ n ih => simp only [sumJ]; rw [ih (fun i hi => h i (by omega)), h n (by omega)]
theorem sumJ_more {f : Nat → Int64} {m n : Nat} (hmn : m ≤ n) (h : ∀ i, m ≤ i → i < n → f i = 0) : sumJ f n = sumJ f m := by
  induction n with
  | zero => rw [show m = 0 by omega]
  | succ n ih =>
    by_cases e : m = n + 1
    · rw [e]
    · simp only [sumJ]; rw [ih (by omega) (fun i h1 h2 => h i h1 (by omega)), h n (by omega) (by omega)]; exact Int64.add_zero _
/-! a double loop that settles one place at each step: place p is settled at time tm p -/
def mixK (K k0 : Nat → Nat → Bool) (tm : Nat → Nat → Nat) (q : Nat) : Nat → Nat → Bool := fun r c => if tm r c < q then K r c else k0 r c
def mixV (V v0 : Nat → Nat → Int64) (tm : Nat → Nat → Nat) (q : Nat) : Nat → Nat → Int64 := fun r c => if tm r c < q then V r c else v0 r c
theorem dbl {α : Type} (Lo : Nat → HP → Int32 → Option α) (Li : Int32 → Nat → (HP → Option α) → HP → Int32 → Option α) (kk : HP → Option α) (St : (Nat → Int32) → (Nat → Int64) → HP) (K k0 : Nat → Nat → Bool) (V v0 : Nat → Nat → Int64) (tm : Nat → Nat → Nat)
    (hox : ∀ n h, Lo (n + 1) h (nI 16) = kk h)
    (hos : ∀ n h r, r < 16 → Lo (n + 1) h (nI r) = Li (nI r) FU (fun h' => Lo n h' (nI (r + 1))) h (nI 0))
    (hix : ∀ r n k' h, Li (nI r) (n + 1) k' h (nI 16) = k' h)
    (hlt : ∀ r c, r < 16 → c < 16 → tm r c < 256)
    (hst : ∀ r c n k' kA vA, r < 16 → c < 16 → GC kA vA (mixK K k0 tm (16 * r + c)) (mixV V v0 tm (16 * r + c)) →
      ∃ kA' vA', GC kA' vA' (mixK K k0 tm (16 * r + c + 1)) (mixV V v0 tm (16 * r + c + 1)) ∧ Li (nI r) (n + 1) k' (St kA vA) (nI c) = Li (nI r) n k' (St kA' vA') (nI (c + 1)))
    (kA : Nat → Int32) (vA : Nat → Int64) (h0 : GC kA vA k0 v0) : ∃ kA' vA', GC kA' vA' K V ∧ Lo FU (St kA vA) (nI 0) = kk (St kA' vA') := by
  have inner : ∀ r, r < 16 → ∀ k' kA vA, GC kA vA (mixK K k0 tm (16 * r)) (mixV V v0 tm (16 * r)) → ∃ kA' vA', GC kA' vA' (mixK K k0 tm (16 * (r + 1))) (mixV V v0 tm (16 * (r + 1))) ∧ Li (nI r) FU k' (St kA vA) (nI 0) = k' (St kA' vA') := by
    intro r hr k' kA vA hg
    obtain ⟨s', ⟨kA', vA', e, hg'⟩, e2⟩ := pz_lp (fun n h c => Li (nI r) n k' h c) k' 16 (fun c h => ∃ kA vA, h = St kA vA ∧ GC kA vA (mixK K k0 tm (16 * r + c)) (mixV V v0 tm (16 * r + c)))
      (fun n s _ => hix r n k' s)
      (fun n c s hc hI => by
        obtain ⟨kA, vA, rfl, hg⟩ := hI
        obtain ⟨kA', vA', h1, h2⟩ := hst r c n k' kA vA hr hc hg
        exact ⟨_, ⟨kA', vA', rfl, h1⟩, h2⟩) 16 0 FU (St kA vA) rfl (pz_FU (by decide)) ⟨kA, vA, rfl, hg⟩
    subst e
    exact ⟨kA', vA', by rw [show 16 * (r + 1) = 16 * r + 16 by omega]; exact hg', e2⟩
  obtain ⟨s', ⟨kA', vA', e, hg'⟩, e2⟩ := pz_lp Lo kk 16 (fun r h => ∃ kA vA, h = St kA vA ∧ GC kA vA (mixK K k0 tm (16 * r)) (mixV V v0 tm (16 * r)))
    (fun n s _ => hox n s)
    (fun n r s hr hI => by
      obtain ⟨kA, vA, rfl, hg⟩ := hI
      obtain ⟨kA', vA', h1, h2⟩ := inner r hr (fun h' => Lo n h' (nI (r + 1))) kA vA hg
      exact ⟨_, ⟨kA', vA', rfl, h1⟩, by rw [hos n _ r hr, h2]⟩) 16 0 FU (St kA vA) rfl (pz_FU (by decide)) ⟨kA, vA, rfl, h0.congr (fun r c _ _ => by simp [mixK]) (fun r c _ _ => by simp [mixV])⟩
  subst e
  exact ⟨kA', vA', hg'.congr (fun r c hr hc => by simp [mixK, hlt r c hr hc]) (fun r c hr hc => by simp [mixV, hlt r c hr hc]), e2⟩
/-- one step of it: the place is put -/
theorem dbl_put {kA : Nat → Int32} {vA : Nat → Int64} {K k0 : Nat → Nat → Bool} {V v0 : Nat → Nat → Int64} {tm : Nat → Nat → Nat} {q r c : Nat} (h : GC kA vA (mixK K k0 tm q) (mixV V v0 tm q)) (hr : r < 16) (hc : c < 16) (ht : tm r c = q) (hu : ∀ r' c', r' < 16 → c' < 16 → tm r' c' = q → r' = r ∧ c' = c) (hK : K r c = true) : GC (upd kA r (kA r ||| (1 <<< (nI c &&& 31)))) (vp_updL vA (16 * r + c) (V r c)) (mixK K k0 tm (q + 1)) (mixV V v0 tm (q + 1)) := by
  refine (h.put hr hc (V r c)).congr (fun r' c' hr' hc' => ?_) (fun r' c' hr' hc' => ?_)
  · by_cases e : r' = r ∧ c' = c
    · obtain ⟨rfl, rfl⟩ := e; simp [mixK, k2, ht, hK]
    · have : tm r' c' ≠ q := fun z => e (hu r' c' hr' hc' z)
      have e2 : (tm r' c' < q + 1) ↔ tm r' c' < q := by omega
      simp only [mixK, k2, if_neg e, e2]
  · by_cases e : r' = r ∧ c' = c
    · obtain ⟨rfl, rfl⟩ := e; simp [mixV, v2, ht]
    · have : tm r' c' ≠ q := fun z => e (hu r' c' hr' hc' z)
      have e2 : (tm r' c' < q + 1) ↔ tm r' c' < q := by omega
      simp only [mixV, v2, if_neg e, e2]
/-- ... or stays as it is -/
theorem dbl_skip {kA : Nat → Int32} {vA : Nat → Int64} {K k0 : Nat → Nat → Bool} {V v0 : Nat → Nat → Int64} {tm : Nat → Nat → Nat} {q r c : Nat} (h : GC kA vA (mixK K k0 tm q) (mixV V v0 tm q)) (hu : ∀ r' c', r' < 16 → c' < 16 → tm r' c' = q → r' = r ∧ c' = c) (hK : K r c = k0 r c) (hV : V r c = v0 r c) : GC kA vA (mixK K k0 tm (q + 1)) (mixV V v0 tm (q + 1)) := by
  refine h.congr (fun r' c' hr' hc' => ?_) (fun r' c' hr' hc' => ?_)
  · by_cases e : tm r' c' = q
    · obtain ⟨rfl, rfl⟩ := hu r' c' hr' hc' e; simp [mixK, e, hK]
    · have e2 : (tm r' c' < q + 1) ↔ tm r' c' < q := by omega
      simp only [mixK, e2]
  · by_cases e : tm r' c' = q
    · obtain ⟨rfl, rfl⟩ := hu r' c' hr' hc' e; simp [mixV, e, hV]
    · have e2 : (tm r' c' < q + 1) ↔ tm r' c' < q := by omega
      simp only [mixV, e2]
