/-! the reference's tables -/
def MC (kp : Nat → Int32) (va : Nat → Int64) (t : Nat) (k : Nat → Nat → Bool) (v : Nat → Nat → Int64) : Prop := ∀ r c, r < 16 → c < 16 → kp (256 * t + (16 * r + c)) = bI (k r c) ∧ va (256 * t + (16 * r + c)) = v r c
def MG (B : TB) (tR tC : Nat → Nat) (tk : Nat → Nat → Nat → Bool) (tv : Nat → Nat → Nat → Int64) : Prop := ∀ t, t < 8 → B.1 t = bI (decide (1 ≤ tR t)) ∧ (1 ≤ tR t → B.2.1 t = nI (tR t) ∧ B.2.2.1 t = nI (tC t) ∧ MC B.2.2.2.1 B.2.2.2.2 t (tk t) (tv t))
def MS (B : TB) (R0 C0 : Nat) (k : Nat → Nat → Bool) (v : Nat → Nat → Int64) : Prop := B.2.1 8 = nI R0 ∧ B.2.2.1 8 = nI C0 ∧ MC B.2.2.2.1 B.2.2.2.2 8 k v
theorem MS.congr {B : TB} {R0 C0 : Nat} {k k' : Nat → Nat → Bool} {v v' : Nat → Nat → Int64} (h : MS B R0 C0 k v) (hk : ∀ r c, r < 16 → c < 16 → k' r c = k r c) (hv : ∀ r c, r < 16 → c < 16 → v' r c = v r c) : MS B R0 C0 k' v' :=
  ⟨h.1, h.2.1, fun r c hr hc => by rw [hk r c hr hc, hv r c hr hc]; exact h.2.2 r c hr hc⟩
theorem md_cell {t r c : Nat} : f_X6_cellOf (nI t) (nI r) (nI c) = some (nI (256 * t + (16 * r + c))) := by
  unfold f_X6_cellOf
  rw [show (256 : Int32) = nI 256 from rfl, show (16 : Int32) = nI 16 from rfl, pk_mul, pk_mul, nI_add, nI_add, Nat.add_assoc]
theorem cz_bI {α : Type} (b : Bool) (k : Option α) : cz (bI b) k = k := by
  unfold cz
  cases b <;> exact if_pos (by decide)
theorem bI_ne {b : Bool} : ¬ bI b = 0 ↔ b = true := by cases b <;> decide
theorem md_isNumber (x : Int32) : f_X6_isNumber x = some (bI (ix 8 x).isSome) := by
  have := kt_slot x
  unfold f_X5_isSlot at this
  unfold f_X6_isNumber
  exact this
theorem md_has {G : TG} {S : TS} {N : TN} {T : TT} {R : TR} {B : TB} {U : TU} {L : TL} {C : TC} {H : TH} {t r c : Nat} {k : Nat → Nat → Bool} {v : Nat → Nat → Int64} (hm : MC B.2.2.2.1 B.2.2.2.2 t k v) (ht : t ≤ 8) (hr : r < 16) (hc : c < 16) : f_X6_has (E G S N T R B U L C H) 43 (nI t) (nI r) (nI c) = some (bI (k r c)) := by
  unfold f_X6_has
  rw [e_gR43_3, Option.bind_some, md_cell, Option.bind_some, e_a47 (by omega), Option.bind_some, (hm r c hr hc).1, cz_bI]
theorem md_isTable {G : TG} {S : TS} {N : TN} {T : TT} {R : TR} {B : TB} {U : TU} {L : TL} {C : TC} {H : TH} {tR tC : Nat → Nat} {tk : Nat → Nat → Nat → Bool} {tv : Nat → Nat → Nat → Int64} (hM : MG B tR tC tk tv) (x : Int32) : f_X6_isTable (E G S N T R B U L C H) 43 x = some (bI (tix tR x).isSome) := by
  unfold f_X6_isTable
  rw [md_isNumber, Option.bind_some]
  cases h : ix 8 x with
  | none => simp [bI, tix, h]
  | some t =>
    obtain ⟨ht, rfl⟩ := ix_some (by decide) h
    rw [if_neg bS, e_gR43_0, Option.bind_some, e_a44 (by omega), Option.bind_some, (hM t ht).1]
    by_cases q : 1 ≤ tR t
    · simp [tix, h, q, bI]
    · simp [tix, h, q, bI]
theorem md_isIn {G : TG} {S : TS} {N : TN} {T : TT} {R : TR} {B : TB} {U : TU} {L : TL} {C : TC} {H : TH} {t R0 C0 : Nat} (ht : t ≤ 8) (h1 : B.2.1 t = nI R0) (h2 : B.2.2.1 t = nI C0) (x y : Int32) : f_X6_isIn (E G S N T R B U L C H) 43 (nI t) x y = some (bI ((ix R0 x).isSome && (ix C0 y).isSome)) := by
  unfold f_X6_isIn ix
  by_cases q1 : x < 0
  · rw [if_pos q1, if_pos (Or.inl q1)]; rfl
  · rw [if_neg q1, e_gR43_1, Option.bind_some, e_a45 (by omega), Option.bind_some, h1]
    by_cases q2 : nI R0 ≤ x
    · rw [if_pos q2, if_pos (Or.inr q2)]; rfl
    · rw [if_neg q2, if_neg (show ¬ (x < 0 ∨ nI R0 ≤ x) by rintro (h | h); exact q1 h; exact q2 h)]
      by_cases q3 : y < 0
      · rw [if_pos q3, if_pos (Or.inl q3)]; rfl
      · rw [if_neg q3, e_gR43_2, Option.bind_some, e_a46 (by omega), Option.bind_some, h2]
        by_cases q4 : nI C0 ≤ y
        · rw [if_pos q4, if_pos (Or.inr q4)]; rfl
        · rw [if_neg q4, if_neg (show ¬ (y < 0 ∨ nI C0 ≤ y) by rintro (h | h); exact q3 h; exact q4 h)]; rfl
theorem ix_in {n j : Nat} (hn : n < 2 ^ 31) (hj : j < 2 ^ 31) : (ix n (nI j)).isSome = decide (j < n) := by
  by_cases q : j < n
  · rw [ix_nI hn q]; simp [q]
  · unfold ix; rw [if_pos (Or.inr (nI_le (by omega) hj))]; simp [q]
theorem md_holds {G : TG} {S : TS} {N : TN} {T : TT} {R : TR} {B : TB} {U : TU} {L : TL} {C : TC} {H : TH} {t r c R0 C0 : Nat} {k : Nat → Nat → Bool} {v : Nat → Nat → Int64} (hm : MC B.2.2.2.1 B.2.2.2.2 t k v) (ht : t ≤ 8) (h1 : B.2.1 t = nI R0) (h2 : B.2.2.1 t = nI C0) (hR : R0 ≤ 16) (hC : C0 ≤ 16) (hin : ∀ r c, r < 16 → c < 16 → k r c = true → r < R0 ∧ c < C0) (hz : ∀ r c, r < 16 → c < 16 → k r c = false → v r c = 0) (hr : r < 16) (hc : c < 16) : f_X6_holds (E G S N T R B U L C H) 43 (nI t) (nI r) (nI c) = some (v r c) := by
  unfold f_X6_holds
  rw [e_ck43, md_isIn ht h1 h2, Option.bind_some, ix_in (by omega) (by omega), ix_in (by omega) (by omega)]
  by_cases q : (decide (r < R0) && decide (c < C0)) = true
  · rw [q, if_neg (by decide), e_ck43, md_has hm ht hr hc, Option.bind_some]
    by_cases q2 : k r c = true
    · rw [q2, if_neg (by decide), e_gR43_4, Option.bind_some, md_cell, Option.bind_some, e_a48 (by omega), Option.bind_some, (hm r c hr hc).2]
    · have q2' : k r c = false := by simpa using q2
      rw [q2', if_pos (by decide), hz r c hr hc q2']
  · have q' : (decide (r < R0) && decide (c < C0)) = false := by simpa using q
    rw [q', if_pos (by decide)]
    by_cases q2 : k r c = true
    · have := hin r c hr hc q2
      simp [this.1, this.2] at q
    · rw [hz r c hr hc (by simpa using q2)]
/-- counting loops that do not begin at 0 -/
theorem pz_lpo {σ α : Type} (L : Nat → σ → Int32 → Option α) (k : σ → Option α) (o N : Nat) (I : Nat → σ → Prop)
    (hx : ∀ n s, I N s → L (n + 1) s (nI (o + N)) = k s)
    (hs : ∀ n i s, i < N → I i s → ∃ s', I (i + 1) s' ∧ L (n + 1) s (nI (o + i)) = L n s' (nI (o + i + 1))) :
    ∀ m i n s, i + m = N → m < n → I i s → ∃ s', I N s' ∧ L n s (nI (o + i)) = k s' := by
  intro m
  induction m with
  | zero =>
    intro i n s hi hn hI
    cases n with
    | zero => omega
    | succ n =>
      have : i = N := by omega
      subst this
      exact ⟨s, hI, hx n s hI⟩
  | succ m ih =>
    intro i n s hi hn hI
    cases n with
    | zero => omega
    | succ n =>
      obtain ⟨s', h1, h2⟩ := hs n i s (by omega) hI
      obtain ⟨s2, h3, h4⟩ := ih (i + 1) n s' (by omega) (by omega) h1
      exact ⟨s2, h3, h2.trans h4⟩
theorem MG.scratch {th hi wi kp : Nat → Int32} {va : Nat → Int64} {hi' wi' kp' : Nat → Int32} {va' : Nat → Int64} {tR tC : Nat → Nat} {tk : Nat → Nat → Nat → Bool} {tv : Nat → Nat → Nat → Int64} (h : MG (th, hi, wi, kp, va) tR tC tk tv) (h1 : ∀ t, t < 8 → hi' t = hi t) (h2 : ∀ t, t < 8 → wi' t = wi t) (h3 : ∀ p, p < 2048 → kp' p = kp p) (h4 : ∀ p, p < 2048 → va' p = va p) : MG (th, hi', wi', kp', va') tR tC tk tv := by
  intro t ht
  obtain ⟨a1, a2⟩ := h t ht
  refine ⟨a1, fun q => ?_⟩
  obtain ⟨b1, b2, b3⟩ := a2 q
  refine ⟨(h1 t ht).trans b1, (h2 t ht).trans b2, fun r c hr hc => ?_⟩
  obtain ⟨d1, d2⟩ := b3 r c hr hc
  exact ⟨(h3 _ (by omega)).trans d1, (h4 _ (by omega)).trans d2⟩
theorem md_begin {G : TG} {S : TS} {N : TN} {T : TT} {R : TR} {th : Nat → Int32} {hi : Nat → Int32} {wi : Nat → Int32} {kp : Nat → Int32} {va : Nat → Int64} {U : TU} {L : TL} {C : TC} {H : TH} {tR tC : Nat → Nat} {tk : Nat → Nat → Nat → Bool} {tv : Nat → Nat → Nat → Int64} {R0 C0 : Nat} (hM : MG (th, hi, wi, kp, va) tR tC tk tv) : ∃ B', f_X6_begin (E G S N T R (th, hi, wi, kp, va) U L C H) 43 (nI R0) (nI C0) = some (E G S N T R B' U L C H) ∧ MG B' tR tC tk tv ∧ MS B' R0 C0 (fun _ _ => false) (fun _ _ => 0) := by
  obtain ⟨s', ⟨kp', va', e, f1, f2⟩, e2⟩ := pz_lpo (fun n h i => L_X6_begin_20 43 n (fun h10 => some h10) h i) (fun h10 => some h10) 2048 256
    (fun i h => ∃ kp' va', h = (E G S N T R (th, upd hi 8 (nI R0), upd wi 8 (nI C0), kp', va') U L C H) ∧ (∀ p, p < 2048 → kp' p = kp p ∧ va' p = va p) ∧ ∀ p, p < i → kp' (2048 + p) = 0 ∧ va' (2048 + p) = 0)
    (fun n s _ => by simp only [L_X6_begin_20]; rw [if_pos (by decide)])
    (fun n i s hi' hI => by
      obtain ⟨kp', va', rfl, f1, f2⟩ := hI
      refine ⟨_, ⟨upd kp' (2048 + i) 0, vp_updL va' (2048 + i) 0, rfl, fun p hp => ?_, fun p hp => ?_⟩, ?_⟩
      · rw [pk_un (by omega), pk_uLn (by omega)]; exact f1 p hp
      · by_cases e : p = i
        · subst e; exact ⟨pk_us, pk_uLs⟩
        · rw [pk_un (by omega), pk_uLn (by omega)]; exact f2 p (by omega)
      · rw [L_X6_begin_20, if_neg (show ¬ (2304 : Int32) ≤ nI (2048 + i) from pz_ge (L := 2304) (N := 2304) rfl (by decide) (by omega)), e_gR43_3, Option.bind_some, e_s47 (by omega), Option.bind_some, pz_nz0, e_gR43_4, Option.bind_some, e_s48 (by omega), Option.bind_some, nI_1]) 256 0 FU (E G S N T R (th, upd hi 8 (nI R0), upd wi 8 (nI C0), kp, va) U L C H) rfl (pz_FU (by decide)) ⟨kp, va, rfl, fun p _ => ⟨rfl, rfl⟩, fun p hp => absurd hp (by omega)⟩
  subst e
  refine ⟨_, ?_, hM.scratch (fun t ht => pk_un (by omega)) (fun t ht => pk_un (by omega)) (fun p hp => (f1 p hp).1) (fun p hp => (f1 p hp).2), pk_us, pk_us, fun r c hr hc => ?_⟩
  · unfold f_X6_begin
    rw [e_gR43_1, Option.bind_some, show (8 : Int32) = nI 8 from rfl, e_s45 (by decide), Option.bind_some, e_gR43_2, Option.bind_some, e_s46 (by decide), Option.bind_some]
    exact e2
  · have := f2 (16 * r + c) (by omega)
    exact ⟨this.1, this.2⟩
theorem md_keep {G : TG} {S : TS} {N : TN} {T : TT} {R : TR} {th : Nat → Int32} {hi : Nat → Int32} {wi : Nat → Int32} {kp : Nat → Int32} {va : Nat → Int64} {U : TU} {L : TL} {C : TC} {H : TH} {tR tC : Nat → Nat} {tk : Nat → Nat → Nat → Bool} {tv : Nat → Nat → Nat → Int64} {R0 C0 r c : Nat} {k : Nat → Nat → Bool} {v : Nat → Nat → Int64} (hM : MG (th, hi, wi, kp, va) tR tC tk tv) (hS : MS (th, hi, wi, kp, va) R0 C0 k v) (hr : r < 16) (hc : c < 16) (x : Int64) : ∃ B', f_X6_keep (E G S N T R (th, hi, wi, kp, va) U L C H) 43 (nI r) (nI c) x = some (E G S N T R B' U L C H) ∧ MG B' tR tC tk tv ∧ MS B' R0 C0 (k2 k r c true) (v2 v r c x) := by
  refine ⟨(th, hi, wi, upd kp (256 * 8 + (16 * r + c)) 1, vp_updL va (256 * 8 + (16 * r + c)) x), ?_, hM.scratch (fun t ht => rfl) (fun t ht => rfl) (fun p hp => pk_un (by omega)) (fun p hp => pk_uLn (by omega)), hS.1, hS.2.1, fun r' c' hr' hc' => ?_⟩
  · unfold f_X6_keep
    rw [e_gR43_3, Option.bind_some, show (8 : Int32) = nI 8 from rfl, md_cell, Option.bind_some, e_s47 (by omega), Option.bind_some, pz_nz1, e_gR43_4, Option.bind_some, Option.bind_some, e_s48 (by omega), Option.bind_some]
  · by_cases e : r' = r ∧ c' = c
    · obtain ⟨rfl, rfl⟩ := e
      refine ⟨?_, ?_⟩
      · show upd kp _ 1 _ = _
        rw [pk_us]; simp [k2, bI]
      · show vp_updL va _ x _ = _
        rw [pk_uLs]; simp [v2]
    · have hne : 256 * 8 + (16 * r' + c') ≠ 256 * 8 + (16 * r + c) := fun z => e ⟨by omega, by omega⟩
      refine ⟨?_, ?_⟩
      · show upd kp _ 1 _ = _
        rw [pk_un hne]; simp only [k2, if_neg e]; exact (hS.2.2 r' c' hr' hc').1
      · show vp_updL va _ x _ = _
        rw [pk_uLn hne]; simp only [v2, if_neg e]; exact (hS.2.2 r' c' hr' hc').2
