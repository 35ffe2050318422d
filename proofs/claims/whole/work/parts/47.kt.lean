/-! the class's tables -/
def ix (n : Nat) (x : Int32) : Option Nat := if x < 0 ∨ nI n ≤ x then none else some x.toNatClampNeg
theorem ix_some {n j : Nat} {x : Int32} (hn : n < 2 ^ 31) (h : ix n x = some j) : j < n ∧ x = nI j := by
  unfold ix at h
  by_cases q : x < 0 ∨ nI n ≤ x
  · rw [if_pos q] at h; cases h
  · rw [if_neg q] at h
    cases h
    rcases pk_ix x hn with h1 | h1 | ⟨j, h1, rfl⟩
    · exact absurd (Or.inl h1) q
    · exact absurd (Or.inr h1) q
    · rw [nI_clamp (by omega)]; exact ⟨h1, rfl⟩
theorem ix_none {n : Nat} {x : Int32} (h : ix n x = none) : x < 0 ∨ nI n ≤ x := by
  unfold ix at h
  by_cases q : x < 0 ∨ nI n ≤ x
  · exact q
  · rw [if_neg q] at h; cases h
theorem ix_nI {n j : Nat} (hn : n < 2 ^ 31) (hj : j < n) : ix n (nI j) = some j := by
  unfold ix
  rw [if_neg (by rintro (h | h); exact nI_pos (by omega) h; exact nI_ge hj hn h), nI_clamp (by omega)]
def tix (tR : Nat → Nat) (x : Int32) : Option Nat := (ix 8 x).bind fun t => if 1 ≤ tR t then some t else none
theorem tix_some {tR : Nat → Nat} {x : Int32} {t : Nat} (h : tix tR x = some t) : t < 8 ∧ x = nI t ∧ 1 ≤ tR t := by
  unfold tix at h
  obtain ⟨t', h1, h2⟩ := bs h
  obtain ⟨a1, a2⟩ := ix_some (by decide) h1
  by_cases q : 1 ≤ tR t'
  · rw [if_pos q] at h2; cases h2; exact ⟨a1, a2, q⟩
  · rw [if_neg q] at h2; cases h2
theorem om_s {α : Type} (x : Nat) (a : Option α) (f : Nat → Option α) : om (some x) a f = f x := rfl
theorem om_n {α : Type} (a : Option α) (f : Nat → Option α) : om none a f = a := rfl
theorem bS {t : Nat} : ¬ bI (some t : Option Nat).isSome = 0 := by show ¬ (1 : Int32) = 0; decide
theorem bN : bI (none : Option Nat).isSome = 0 := rfl
theorem le8 {x : Int32} : (8 : Int32) ≤ x ↔ nI 8 ≤ x := Iff.rfl
theorem kt_slot (x : Int32) : f_X5_isSlot x = some (bI (ix 8 x).isSome) := by
  unfold f_X5_isSlot ix
  by_cases h1 : x < 0
  · rw [if_pos h1, if_pos (Or.inl h1)]; rfl
  · rw [if_neg h1]
    by_cases h2 : (8 : Int32) ≤ x
    · rw [if_pos h2, if_pos (show x < 0 ∨ nI 8 ≤ x from Or.inr h2)]; rfl
    · rw [if_neg h2, if_neg (by rintro (h | h); exact h1 h; exact h2 h)]; rfl
def KG (G : TG) (S : TS) (g : Nat → Nat) (tR tC : Nat → Nat) (tk : Nat → Nat → Nat → Bool) (tv : Nat → Nat → Nat → Int64) : Prop :=
  (∀ t, t < 8 → S.1 t = some (g t) ∧ isG (g t) = true ∧ g t ≠ S.2 ∧ G.1 (g t) = nI (tR t) ∧ (1 ≤ tR t → G.2.1 (g t) = nI (tC t) ∧ GC (G.2.2.1 (g t)) (G.2.2.2 (g t)) (tk t) (tv t))) ∧ isG S.2 = true ∧ ∀ t t', t < 8 → t' < 8 → g t = g t' → t = t'
def WFt (tR tC : Nat → Nat) (tk : Nat → Nat → Nat → Bool) (tv : Nat → Nat → Nat → Int64) : Prop :=
  ∀ t, t < 8 → tR t ≤ 16 ∧ (1 ≤ tR t → 1 ≤ tC t ∧ tC t ≤ 16 ∧ (∀ r c, r < 16 → c < 16 → tk t r c = true → r < tR t ∧ c < tC t) ∧ (∀ r c, r < 16 → c < 16 → tk t r c = false → tv t r c = 0) ∧ ahead (tk t) 16 ≤ 128)
theorem kt_gridAt {G : TG} {S : TS} {N : TN} {T : TT} {R : TR} {B : TB} {U : TU} {L : TL} {C : TC} {H : TH} {g tR tC : Nat → Nat} {tk : Nat → Nat → Nat → Bool} {tv : Nat → Nat → Nat → Int64} (hK : KG G S g tR tC tk tv) (hw : WFt tR tC tk tv) (x : Int32) : f_X5_gridAt (E G S N T R B U L C H) 0 x = some ((tix tR x).map g) := by
  unfold f_X5_gridAt
  rw [kt_slot, Option.bind_some]
  cases h : ix 8 x with
  | none => simp [bI, tix, h]
  | some t =>
    obtain ⟨ht, rfl⟩ := ix_some (by decide) h
    obtain ⟨h1, h2, h3, h4, h5⟩ := hK.1 t ht
    rw [if_neg bS, e_gR0_0, Option.bind_some, e_aG ht, Option.bind_some, h1, om_s]
    rw [e_gIrc h2, Option.bind_some, h4]
    have hR : tR t ≤ 16 := (hw t ht).1
    by_cases q : 1 ≤ tR t
    · rw [if_neg (nI_nle (by omega) (by omega))]; simp [tix, h, q]
    · rw [show tR t = 0 by omega, if_pos (by decide)]; simp [tix, h, q]
theorem KG.draft {rc cc : Nat → Int32} {kc : Nat → Nat → Int32} {vs : Nat → Nat → Int64} {sl : Nat → Option Nat} {d : Nat} {g tR tC : Nat → Nat} {tk : Nat → Nat → Nat → Bool} {tv : Nat → Nat → Nat → Int64} (hK : KG (rc, cc, kc, vs) (sl, d) g tR tC tk tv) (x y : Int32) (kA : Nat → Int32) (vA : Nat → Int64) : KG (va_up rc d x, va_up cc d y, va_up kc d kA, va_up vs d vA) (sl, d) g tR tC tk tv := by
  refine ⟨fun t ht => ?_, hK.2.1, hK.2.2⟩
  obtain ⟨h1, h2, h3, h4, h5⟩ := hK.1 t ht
  have e1 : va_up rc d x (g t) = rc (g t) := va_up_ne _ _ h3
  have e2 : va_up cc d y (g t) = cc (g t) := va_up_ne _ _ h3
  have e3 : va_up kc d kA (g t) = kc (g t) := va_up_ne _ _ h3
  have e4 : va_up vs d vA (g t) = vs (g t) := va_up_ne _ _ h3
  refine ⟨h1, h2, h3, ?_, fun q => ?_⟩
  · show va_up rc d x (g t) = _
    rw [e1]; exact h4
  · show va_up cc d y (g t) = _ ∧ GC (va_up kc d kA (g t)) (va_up vs d vA (g t)) _ _
    rw [e2, e3, e4]; exact h5 q
theorem kt_putDraft {rc : Nat → Int32} {cc : Nat → Int32} {kc : Nat → Nat → Int32} {vs : Nat → Nat → Int64} {sl : Nat → Option Nat} {d : Nat} {N : TN} {T : TT} {R : TR} {B : TB} {U : TU} {L : TL} {C : TC} {H : TH} {t R0 C0 : Nat} {kA : Nat → Int32} {vA : Nat → Int64} {k : Nat → Nat → Bool} {v : Nat → Nat → Int64} {g tR tC : Nat → Nat} {tk : Nat → Nat → Nat → Bool} {tv : Nat → Nat → Nat → Int64} (hK : KG (rc, cc, kc, vs) (sl, d) g tR tC tk tv) (hg : GC kA vA k v) (ht : t < 8) :
    ∃ S' g', f_X5_putDraft (E (va_up rc d (nI R0), va_up cc d (nI C0), va_up kc d kA, va_up vs d vA) (sl, d) N T R B U L C H) 0 (nI t) = (if ahead k 16 ≤ 128 then some (E (va_up rc d (nI R0), va_up cc d (nI C0), va_up kc d kA, va_up vs d vA) S' N T R B U L C H, nI (ahead k 16)) else some ((E (va_up rc d (nI R0), va_up cc d (nI C0), va_up kc d kA, va_up vs d vA) (sl, d) N T R B U L C H), -4)) ∧ KG (va_up rc d (nI R0), va_up cc d (nI C0), va_up kc d kA, va_up vs d vA) S' g' (va_up tR t R0) (va_up tC t C0) (va_up tk t k) (va_up tv t v) := by
  obtain ⟨h1, h2, h3, h4, h5⟩ := hK.1 t ht
  have hd := hK.2.1
  have hal : ahead k 16 ≤ 256 := ahead_le k 16
  refine ⟨(va_up sl t (some d), g t), va_up g t d, ?_, fun t' ht' => ?_, h2, fun t1 t2 ht1 ht2 e => ?_⟩
  · unfold f_X5_putDraft
    rw [kt_slot, ix_nI (by decide) ht, Option.bind_some, if_neg bS, e_gR0_0, Option.bind_some, e_aG ht, Option.bind_some, show (sl, d).1 t = some (g t) from h1, om_s, e_gR0_3, Option.bind_some, e_ckG hd, g_count (k := k) (v := v) hd (by simpa only [va_up_self] using hg), Option.bind_some]
    by_cases q : ahead k 16 ≤ 128
    · rw [if_pos (show nI (ahead k 16) ≤ 128 from nI_le q (by decide)), if_pos q]
      simp only [e_gR0_0, e_gR0_3, Option.bind_some, e_sG hd ht, e_pR0_3]
    · rw [if_neg (show ¬ nI (ahead k 16) ≤ 128 from nI_ge (a := 128) (by omega) (by omega)), if_neg q]
  · by_cases e : t' = t
    · subst e
      refine ⟨by show va_up sl t' (some d) t' = some (va_up g t' d t'); rw [va_up_self, va_up_self], by rw [va_up_self]; exact hd, by rw [va_up_self]; exact fun z => h3 z.symm, ?_, fun _ => ?_⟩
      · rw [va_up_self, va_up_self]; exact va_up_self _ _ _
      · rw [va_up_self, va_up_self, va_up_self, va_up_self]
        refine ⟨va_up_self _ _ _, ?_⟩
        show GC (va_up kc d kA d) (va_up vs d vA d) k v
        rw [va_up_self, va_up_self]; exact hg
    · obtain ⟨a1, a2, a3, a4, a5⟩ := (hK.draft (nI R0) (nI C0) kA vA).1 t' ht'
      have e1 : va_up g t d t' = g t' := va_up_ne _ _ e
      have e2 : va_up tR t R0 t' = tR t' := va_up_ne _ _ e
      have e3 : va_up tC t C0 t' = tC t' := va_up_ne _ _ e
      have e4 : va_up tk t k t' = tk t' := va_up_ne _ _ e
      have e5 : va_up tv t v t' = tv t' := va_up_ne _ _ e
      rw [e1, e2, e3, e4, e5]
      refine ⟨?_, a2, fun z => e (hK.2.2 t' t ht' ht z), a4, a5⟩
      show va_up sl t (some d) t' = _
      rw [va_up_ne _ _ e]; exact a1
  · by_cases e1 : t1 = t
    · by_cases e2 : t2 = t
      · omega
      · subst e1
        rw [va_up_self, va_up_ne _ _ e2] at e
        exact absurd e.symm (hK.1 t2 ht2).2.2.1
    · by_cases e2 : t2 = t
      · subst e2
        rw [va_up_self, va_up_ne _ _ e1] at e
        exact absurd e (hK.1 t1 ht1).2.2.1
      · rw [va_up_ne _ _ e1, va_up_ne _ _ e2] at e
        exact hK.2.2 t1 t2 ht1 ht2 e
