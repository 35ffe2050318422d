/-! sets of nodes, a bit each -/
theorem rowOK.congr {m : Int32} {s t : Nat → Bool} (h : rowOK m s) (e : ∀ c, c < 16 → t c = s c) : rowOK m t := by
  obtain ⟨n, h1, h2, h3⟩ := h
  exact ⟨n, h1, h2, fun c hc => by rw [h3 c hc, e c hc]⟩
theorem rowOK.hasBit {m : Int32} {s : Nat → Bool} (h : rowOK m s) {i : Nat} (hi : i < 16) : f_X5_hasBit m (nI i) = some (bI (s i)) := by
  obtain ⟨n, rfl, h2, h3⟩ := h
  rw [pz_hasBit h2 hi, h3 i hi]
theorem rowOK.sh {m : Int32} {s : Nat → Bool} (h : rowOK m s) {i : Nat} (hi : i < 16) : (m >>> (nI i &&& 31)) &&& 1 = bI (s i) := by
  obtain ⟨n, rfl, h2, h3⟩ := h
  rw [pz_has h2 hi, h3 i hi]
  cases s i <;> decide
theorem rowOK.zero : rowOK 0 (fun _ => false) := ⟨0, rfl, by decide, fun c _ => Nat.zero_testBit c⟩
theorem rowOK.one {i : Nat} (hi : i < 16) : rowOK (1 <<< (nI i &&& 31)) (fun c => decide (c = i)) := by
  refine ⟨2 ^ i, pz_shl1 i (by omega), Nat.pow_lt_pow_right (by decide) hi, fun c hc => ?_⟩
  rw [Nat.testBit_two_pow]
  by_cases e : c = i
  · subst e; simp
  · have : ¬ i = c := fun z => e z.symm
    simp [e, this]
theorem rowOK.or {a b : Int32} {s t : Nat → Bool} (h : rowOK a s) (h' : rowOK b t) : rowOK (a ||| b) (fun c => s c || t c) := by
  obtain ⟨n, rfl, h2, h3⟩ := h
  obtain ⟨m, rfl, g2, g3⟩ := h'
  refine ⟨n ||| m, pz_or n m, Nat.or_lt_two_pow (n := 16) h2 g2, fun c hc => ?_⟩
  rw [Nat.testBit_or, h3 c hc, g3 c hc]
theorem rowOK.and {a b : Int32} {s t : Nat → Bool} (h : rowOK a s) (h' : rowOK b t) : rowOK (a &&& b) (fun c => s c && t c) := by
  obtain ⟨n, rfl, h2, h3⟩ := h
  obtain ⟨m, rfl, g2, g3⟩ := h'
  refine ⟨n &&& m, pz_and n m, Nat.lt_of_le_of_lt Nat.and_le_left h2, fun c hc => ?_⟩
  rw [Nat.testBit_and, h3 c hc, g3 c hc]
theorem rowOK.del {a : Int32} {s : Nat → Bool} (h : rowOK a s) {i : Nat} (hi : i < 16) : rowOK (a &&& ((1 <<< (nI i &&& 31)) ^^^ (-1))) (fun c => s c && !(decide (c = i))) := by
  obtain ⟨n, rfl, h2, h3⟩ := h
  refine ⟨n &&& (2 ^ i ^^^ 4294967295), ?_, Nat.lt_of_le_of_lt Nat.and_le_left h2, fun c' hc' => ?_⟩
  · rw [pz_shl1 i (by omega), pz_m1, pz_xor, pz_and]
  · have e32 : (4294967295 : Nat).testBit c' = true := by
      have : ∀ i, i < 16 → (4294967295 : Nat).testBit i = true := by decide
      exact this c' hc'
    rw [Nat.testBit_and, h3 c' hc', Nat.testBit_xor, Nat.testBit_two_pow, e32]
    by_cases q : c' = i
    · subst q; simp
    · have : ¬ i = c' := fun z => q z.symm
      simp [q, this]
theorem rowOK.eq {a b : Int32} {s t : Nat → Bool} (h : rowOK a s) (h' : rowOK b t) : a = b ↔ ∀ c, c < 16 → s c = t c := by
  obtain ⟨n, rfl, h2, h3⟩ := h
  obtain ⟨m, rfl, g2, g3⟩ := h'
  rw [nI_eq (by omega) (by omega)]
  constructor
  · intro e c hc
    rw [← h3 c hc, ← g3 c hc, e]
  · intro e
    apply Nat.eq_of_testBit_eq
    intro i
    by_cases hi : i < 16
    · rw [h3 i hi, g3 i hi, e i hi]
    · have p16 : (2 : Nat) ^ 16 ≤ 2 ^ i := Nat.pow_le_pow_right (by decide) (by omega)
      rw [Nat.testBit_lt_two_pow (Nat.lt_of_lt_of_le h2 p16), Nat.testBit_lt_two_pow (Nat.lt_of_lt_of_le g2 p16)]
theorem rowOK.eq0 {a : Int32} {s : Nat → Bool} (h : rowOK a s) : a = 0 ↔ ∀ c, c < 16 → s c = false := h.eq rowOK.zero
theorem rowOK.full : ∀ n, n ≤ 16 → rowOK ((1 <<< (nI n &&& 31)) - 1) (fun c => decide (c < n)) := by
  intro n hn
  have hp1 : 1 ≤ 2 ^ n := Nat.one_le_two_pow
  have hp2 : 2 ^ n ≤ 2 ^ 16 := Nat.pow_le_pow_right (by decide) hn
  refine ⟨2 ^ n - 1, ?_, by omega, fun c hc => by rw [Nat.testBit_two_pow_sub_one]⟩
  rw [pz_shl1 n (by omega), show (1 : Int32) = nI 1 from rfl, pk_sub hp1]
/-! a table read as a graph -/
def nb (k : Nat → Nat → Bool) (r c : Nat) : Bool := (k r c || k c r) && !(decide (c = r))
def GR (R : TR) (n : Nat) (k : Nat → Nat → Bool) : Prop := R.1 = nI n ∧ (∀ r, r < 16 → rowOK (R.2.1 r) (k r)) ∧ ∀ r, r < 16 → rowOK (R.2.2.1 r) (nb k r)
theorem x_sources {G : TG} {S : TS} {N : TN} {T : TT} {R : TR} {B : TB} {U : TU} {L : TL} {C : TC} {H : TH} {k : Nat → Nat → Bool} {c : Nat} (hk : ∀ r, r < 16 → rowOK (R.2.1 r) (k r)) (hc : c < 16) : ∃ x, f_X1_sourcesOf (E G S N T R B U L C H) 6 (nI c) = some x ∧ rowOK x (fun r => k r c) := by
  obtain ⟨s', hs, e⟩ := pz_lp (fun n s i => L_X1_sourcesOf_4 (E G S N T R B U L C H) 6 (nI c) n (fun x7 => some x7) s i) (fun x7 => some x7) 16
    (fun i s => rowOK s (fun r => decide (r < i) && k r c))
    (fun n s _ => by rw [L_X1_sourcesOf_4, if_pos ex16])
    (fun n i s hi hI => by
      have e0 : L_X1_sourcesOf_4 (E G S N T R B U L C H) 6 (nI c) (n + 1) (fun x7 => some x7) s (nI i) = if k i c = true then L_X1_sourcesOf_4 (E G S N T R B U L C H) 6 (nI c) n (fun x7 => some x7) (s ||| (1 <<< (nI i &&& 31))) (nI (i + 1)) else L_X1_sourcesOf_4 (E G S N T R B U L C H) 6 (nI c) n (fun x7 => some x7) s (nI (i + 1)) := by
        rw [L_X1_sourcesOf_4, if_neg (ge16 hi), e_gR6_1, Option.bind_some, e_a7 hi, Option.bind_some, (hk i hi).hasBit hc, Option.bind_some, nI_1]
        cases q : k i c with
        | true => rw [if_neg (by decide), if_pos rfl]
        | false => rw [if_pos (by decide), if_neg (by decide)]
      by_cases q : k i c = true
      · refine ⟨_, (hI.or (rowOK.one hi)).congr (fun r hr => ?_), by rw [e0, if_pos q]⟩
        by_cases e : r = i
        · subst e; simp [q]
        · have : (r < i + 1) ↔ r < i := by omega
          simp [e, this]
      · refine ⟨_, hI.congr (fun r hr => ?_), by rw [e0, if_neg q]⟩
        by_cases e : r = i
        · subst e; simp [q]
        · have : (r < i + 1) ↔ r < i := by omega
          simp [this])
    16 0 FU 0 rfl (pz_FU (by decide)) (rowOK.zero.congr (fun r _ => by simp))
  exact ⟨s', e, hs.congr (fun r hr => by simp [hr])⟩
theorem x_read {G : TG} {S : TS} {N : TN} {T : TT} {gz : Int32} {ar : Nat → Int32} {ne : Nat → Int32} {re : Nat → Int32} {sj : Nat → Nat → Int64} {st : Nat} {nx : Nat} {B : TB} {U : TU} {L : TL} {C : TC} {H : TH} {a n : Nat} {k : Nat → Nat → Bool} {v : Nat → Nat → Int64} (ha : isG a = true) (h1 : G.1 a = nI n) (hg : GC (G.2.2.1 a) (G.2.2.2 a) k v) : ∃ ar' ne', f_X1_read (E G S N T (gz, ar, ne, re, sj, st, nx) B U L C H) 6 a = some (E G S N T (nI n, ar', ne', re, sj, st, nx) B U L C H) ∧ GR (nI n, ar', ne', re, sj, st, nx) n k := by
  obtain ⟨s', ⟨ar', e, f1⟩, e2⟩ := pz_lp (fun m h i => L_X1_read_10 6 a m (fun h9 => L_X1_read_35 6 FU (fun h18 => some h18) h9 0) h i) (fun h9 => L_X1_read_35 6 FU (fun h18 => some h18) h9 0) 16
    (fun i h => ∃ ar', h = E G S N T (nI n, ar', ne, re, sj, st, nx) B U L C H ∧ ∀ r, r < i → rowOK (ar' r) (k r))
    (fun m s _ => by rw [L_X1_read_10, if_pos ex16])
    (fun m i s hi hI => by
      obtain ⟨ar', rfl, f1⟩ := hI
      refine ⟨_, ⟨upd ar' i (G.2.2.1 a i), rfl, fun r hr => ?_⟩, ?_⟩
      · by_cases e : r = i
        · subst e; rw [pk_us]; exact hg.1 r hi
        · rw [pk_un e]; exact f1 r (by omega)
      · rw [L_X1_read_10, if_neg (ge16 hi), e_gR6_1, Option.bind_some, e_ckG ha]
        unfold f_X2_columnsOf
        rw [pz_line hi, Option.bind_some, if_neg one_ne, e_gRkc ha, Option.bind_some, e_aK ha hi, Option.bind_some, Option.bind_some, e_s7 hi, Option.bind_some, nI_1])
    16 0 FU (E G S N T (nI n, ar, ne, re, sj, st, nx) B U L C H) rfl (pz_FU (by decide)) ⟨ar, rfl, fun r hr => absurd hr (by omega)⟩
  subst e
  obtain ⟨s', ⟨ne', e, g1⟩, e3⟩ := pz_lp (fun m h i => L_X1_read_35 6 m (fun h18 => some h18) h i) (fun h18 => some h18) 16
    (fun i h => ∃ ne', h = E G S N T (nI n, ar', ne', re, sj, st, nx) B U L C H ∧ ∀ r, r < i → rowOK (ne' r) (nb k r))
    (fun m s _ => by rw [L_X1_read_35, if_pos ex16])
    (fun m i s hi hI => by
      obtain ⟨ne', rfl, g1⟩ := hI
      obtain ⟨x, ex, rx⟩ := x_sources (G := G) (S := S) (N := N) (T := T) (R := (nI n, ar', ne', re, sj, st, nx)) (B := B) (U := U) (L := L) (C := C) (H := H) (k := k) f1 hi
      refine ⟨_, ⟨upd ne' i ((ar' i ||| x) &&& ((1 <<< (nI i &&& 31)) ^^^ (-1))), rfl, fun r hr => ?_⟩, ?_⟩
      · by_cases e : r = i
        · subst e; rw [pk_us]; exact ((f1 r hi).or rx).del hi
        · rw [pk_un e]; exact g1 r (by omega)
      · rw [L_X1_read_35, if_neg (ge16 hi), e_gR6_2, Option.bind_some, e_gR6_1, Option.bind_some, e_a7 hi, Option.bind_some, e_ck6, ex, Option.bind_some, e_s8 hi, Option.bind_some, nI_1])
    16 0 FU (E G S N T (nI n, ar', ne, re, sj, st, nx) B U L C H) rfl (pz_FU (by decide)) ⟨ne, rfl, fun r hr => absurd hr (by omega)⟩
  subst e
  refine ⟨ar', ne', ?_, rfl, f1, g1⟩
  unfold f_X1_read
  rw [e_gIrc ha, Option.bind_some, h1, e_pI6_0, Option.bind_some]
  exact e2.trans e3
theorem Rst.gr {N : TN} {T : TT} {U : TU} {L : TL} {nT : Nat} {qr qc : Nat → Nat} {qv : Nat → Int64} {nL : Nat} {ql : Nat → Nat} {gz : Int32} {ar ne re : Nat → Int32} {sj : Nat → Nat → Int64} {st nx : Nat} (h : Rst N T (gz, ar, ne, re, sj, st, nx) U L nT qr qc qv nL ql) (gz' : Int32) (ar' ne' re' : Nat → Int32) (sj' : Nat → Nat → Int64) : Rst N T (gz', ar', ne', re', sj', st, nx) U L nT qr qc qv nL ql := h
theorem g_square {G : TG} {S : TS} {N : TN} {T : TT} {R : TR} {B : TB} {U : TU} {L : TL} {C : TC} {H : TH} {a R0 C0 : Nat} (ha : isG a = true) (h1 : G.1 a = nI R0) (h2 : G.2.1 a = nI C0) (hR : R0 ≤ 16) (hC : C0 ≤ 16) : f_X2_isSquare (E G S N T R B U L C H) a = some (bI (decide (R0 = C0))) := by
  unfold f_X2_isSquare
  rw [e_gIrc ha, Option.bind_some, e_gIcc ha, Option.bind_some, h1, h2]
  by_cases e : R0 = C0
  · subst e; rw [if_pos rfl]; simp [bI]
  · rw [if_neg (fun z => e ((nI_eq (by omega) (by omega)).1 z))]; simp [bI, e]
theorem md_isGraph {G : TG} {S : TS} {N : TN} {T : TT} {R : TR} {B : TB} {U : TU} {L : TL} {C : TC} {H : TH} {t R0 C0 : Nat} (ht : t ≤ 8) (h1 : B.2.1 t = nI R0) (h2 : B.2.2.1 t = nI C0) (hR : R0 ≤ 16) (hC : C0 ≤ 16) : f_X6_isGraph (E G S N T R B U L C H) 43 (nI t) = some (bI (decide (R0 = C0))) := by
  unfold f_X6_isGraph
  rw [e_gR43_1, Option.bind_some, e_a45 (by omega), Option.bind_some, e_gR43_2, Option.bind_some, e_a46 (by omega), Option.bind_some, h1, h2]
  by_cases e : R0 = C0
  · subst e; rw [if_pos rfl]; simp [bI]
  · rw [if_neg (fun z => e ((nI_eq (by omega) (by omega)).1 z))]; simp [bI, e]
/-! what is met from a node in d steps -/
def rs (k : Nat → Nat → Bool) (a : Nat) : Nat → Nat → Bool
  | 0 => fun c => decide (c = a)
  | d + 1 => fun c => rs k a d c || orJ (fun r => rs k a d r && k r c) 16
theorem x_targets {G : TG} {S : TS} {N : TN} {T : TT} {R : TR} {B : TB} {U : TU} {L : TL} {C : TC} {H : TH} {k : Nat → Nat → Bool} {x : Int32} {s : Nat → Bool} (hk : ∀ r, r < 16 → rowOK (R.2.1 r) (k r)) (hx : rowOK x s) : ∃ y, f_X1_targetsOf (E G S N T R B U L C H) 6 x = some y ∧ rowOK y (fun c => orJ (fun r => s r && k r c) 16) := by
  obtain ⟨s', hs, e⟩ := pz_lp (fun n z i => L_X1_targetsOf_4 (E G S N T R B U L C H) 6 x n (fun x7 => some x7) z i) (fun x7 => some x7) 16
    (fun i z => rowOK z (fun c => orJ (fun r => s r && k r c) i))
    (fun n z _ => by rw [L_X1_targetsOf_4, if_pos ex16])
    (fun n i z hi hI => by
      by_cases q : s i = true
      · refine ⟨_, (hI.or (hk i hi)).congr (fun c hc => ?_), ?_⟩
        · simp [orJ, q]
        · rw [L_X1_targetsOf_4, if_neg (ge16 hi), hx.hasBit hi, Option.bind_some, q, if_neg (by decide), e_gR6_1, Option.bind_some, e_a7 hi, Option.bind_some, nI_1]
      · have q' : s i = false := by simpa using q
        refine ⟨_, hI.congr (fun c hc => ?_), ?_⟩
        · simp [orJ, q']
        · rw [L_X1_targetsOf_4, if_neg (ge16 hi), hx.hasBit hi, Option.bind_some, q', if_pos (by decide), nI_1])
    16 0 FU 0 rfl (pz_FU (by decide)) (rowOK.zero.congr (fun r _ => rfl))
  exact ⟨s', e, hs⟩
theorem bI_1 {b : Bool} : bI b = 1 ↔ b = true := by cases b <;> decide
theorem md_step {G : TG} {S : TS} {N : TN} {T : TT} {R : TR} {B : TB} {U : TU} {L : TL} {C : TC} {H : TH} {t n : Nat} {k : Nat → Nat → Bool} {v : Nat → Nat → Int64} {x : Int32} {s : Nat → Bool} (hm : MC B.2.2.2.1 B.2.2.2.2 t k v) (ht : t < 8) (h1 : B.2.1 t = nI n) (hn : n ≤ 16) (hin : ∀ r c, r < 16 → c < 16 → k r c = true → r < n ∧ c < n) (hx : rowOK x s) (kk : Int32 → Option Int32) : ∃ y, rowOK y (fun c => s c || orJ (fun r => s r && k r c) 16) ∧ L_X6_reach_21 (E G S N T R B U L C H) 43 (nI t) x FU kk x 0 = kk y := by
  obtain ⟨s', hs, e⟩ := pz_lp (fun m z i => L_X6_reach_21 (E G S N T R B U L C H) 43 (nI t) x m kk z i) kk n
    (fun i z => rowOK z (fun c => s c || orJ (fun r => s r && k r c) i))
    (fun m z _ => by rw [L_X6_reach_21, e_gR43_1, Option.bind_some, e_a45 (by omega), Option.bind_some, h1, if_pos (Int32.le_refl _)])
    (fun m i z hi hI => by
      have e0 : L_X6_reach_21 (E G S N T R B U L C H) 43 (nI t) x (m + 1) kk z (nI i) = L_X6_reach_35 (E G S N T R B U L C H) 43 (nI t) x (nI i) FU (fun x13 => L_X6_reach_21 (E G S N T R B U L C H) 43 (nI t) x m kk x13 (nI (i + 1))) z (nI 0) := by
        rw [L_X6_reach_21, e_gR43_1, Option.bind_some, e_a45 (by omega), Option.bind_some, h1, if_neg (nI_ge hi (by omega)), nI_1]; rfl
      by_cases q : s i = true
      · obtain ⟨z', hz, e1⟩ := pz_lp (fun m' z j => L_X6_reach_35 (E G S N T R B U L C H) 43 (nI t) x (nI i) m' (fun x13 => L_X6_reach_21 (E G S N T R B U L C H) 43 (nI t) x m kk x13 (nI (i + 1))) z j) (fun x13 => L_X6_reach_21 (E G S N T R B U L C H) 43 (nI t) x m kk x13 (nI (i + 1))) n
          (fun j z => rowOK z (fun c => (s c || orJ (fun r => s r && k r c) i) || (decide (c < j) && k i c)))
          (fun m' z _ => by rw [L_X6_reach_35, e_gR43_1, Option.bind_some, e_a45 (by omega), Option.bind_some, h1, if_pos (Int32.le_refl _)])
          (fun m' j z hj hI => by
            have hj16 : j < 16 := by omega
            by_cases q2 : k i j = true
            · refine ⟨_, (hI.or (rowOK.one hj16)).congr (fun c hc => ?_), ?_⟩
              · by_cases e : c = j
                · subst e; simp [q2]
                · have : (c < j + 1) ↔ c < j := by omega
                  simp [e, this]
              · rw [L_X6_reach_35, e_gR43_1, Option.bind_some, e_a45 (by omega), Option.bind_some, h1, if_neg (nI_ge hj (by omega)), if_pos (by rw [hx.sh (by omega)]; exact bI_1.2 q), e_ck43, md_has hm (by omega) (by omega) hj16, Option.bind_some, q2, if_neg (by decide), nI_1]
            · have q2' : k i j = false := by simpa using q2
              refine ⟨z ||| 0, (hI.or rowOK.zero).congr (fun c hc => ?_), ?_⟩
              · by_cases e : c = j
                · subst e; simp [q2']
                · have : (c < j + 1) ↔ c < j := by omega
                  simp [this]
              · rw [L_X6_reach_35, e_gR43_1, Option.bind_some, e_a45 (by omega), Option.bind_some, h1, if_neg (nI_ge hj (by omega)), if_pos (by rw [hx.sh (by omega)]; exact bI_1.2 q), e_ck43, md_has hm (by omega) (by omega) hj16, Option.bind_some, q2', if_pos (by decide), nI_1])
          n 0 FU z (by omega) (pz_FU (by omega)) (hI.congr (fun c _ => by simp))
        refine ⟨z', hz.congr (fun c hc => ?_), e0.trans e1⟩
        by_cases q3 : k i c = true
        · have := (hin i c (by omega) hc q3).2
          simp [orJ, q, q3, this]
        · simp [orJ, q3]
      · have q' : s i = false := by simpa using q
        refine ⟨z, hI.congr (fun c hc => by simp [orJ, q']), e0.trans ?_⟩
        rw [show FU = 5999 + 1 from FU_eq, L_X6_reach_35, e_gR43_1, Option.bind_some, e_a45 (by omega), Option.bind_some, h1, if_neg (nI_ge (by omega) (by omega)), if_neg (by rw [hx.sh (by omega), q']; decide)])
    n 0 FU x (by omega) (pz_FU (by omega)) (hx.congr (fun c _ => by simp [orJ]))
  refine ⟨s', hs.congr (fun c hc => ?_), e⟩
  have : orJ (fun r => s r && k r c) 16 = orJ (fun r => s r && k r c) n := orJ_more hn (fun r h1 h2 => by
    have : k r c = false := by
      cases q : k r c
      · rfl
      · exact absurd (hin r c h2 hc q).1 (by omega)
    simp [this])
  rw [this]
theorem md_reach {G : TG} {S : TS} {N : TN} {T : TT} {R : TR} {B : TB} {U : TU} {L : TL} {C : TC} {H : TH} {t n a d : Nat} {k : Nat → Nat → Bool} {v : Nat → Nat → Int64} (hm : MC B.2.2.2.1 B.2.2.2.2 t k v) (ht : t < 8) (h1 : B.2.1 t = nI n) (hn : n ≤ 16) (hin : ∀ r c, r < 16 → c < 16 → k r c = true → r < n ∧ c < n) (ha : a < 16) (hd : d ≤ 16) : ∃ y, rowOK y (rs k a d) ∧ f_X6_reach (E G S N T R B U L C H) 43 (nI t) (nI a) (nI d) = some y := by
  obtain ⟨s', hs, e⟩ := pz_lp (fun m z i => L_X6_reach_8 (E G S N T R B U L C H) 43 (nI t) (nI d) m (fun x15 => some x15) z i) (fun x15 => some x15) d
    (fun i z => rowOK z (rs k a i))
    (fun m z _ => by rw [L_X6_reach_8, if_pos (Int32.le_refl _)])
    (fun m i z hi hI => by
      obtain ⟨y, hy, e1⟩ := md_step (G := G) (S := S) (N := N) (T := T) (R := R) (U := U) (L := L) (C := C) (H := H) hm ht h1 hn hin hI (fun x14 => L_X6_reach_8 (E G S N T R B U L C H) 43 (nI t) (nI d) m (fun x15 => some x15) x14 (nI (i + 1)))
      refine ⟨y, hy, ?_⟩
      rw [L_X6_reach_8, if_neg (nI_ge hi (by omega)), nI_1, e1])
    d 0 FU (1 <<< (nI a &&& 31)) (by omega) (pz_FU (by omega)) (rowOK.one ha)
  exact ⟨s', hs, e⟩
