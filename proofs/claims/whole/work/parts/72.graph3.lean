/-! rings -/
theorem x_close {G : TG} {S : TS} {N : TN} {T : TT} {gz : Int32} {ar : Nat → Int32} {ne : Nat → Int32} {re : Nat → Int32} {sj : Nat → Nat → Int64} {st : Nat} {nx : Nat} {B : TB} {U : TU} {L : TL} {C : TC} {H : TH} {k : Nat → Nat → Bool} (hk : ∀ r, r < 16 → rowOK (ar r) (k r)) : ∃ re', f_X1_closeReach (E G S N T (gz, ar, ne, re, sj, st, nx) B U L C H) 6 = some (E G S N T (gz, ar, ne, re', sj, st, nx) B U L C H) ∧ ∀ r, r < 16 → rowOK (re' r) (wr k 16 r) := by
  obtain ⟨s', ⟨re1, e, f1⟩, e2⟩ := pz_lp (fun m h i => L_X1_closeReach_2 6 m (fun h6 => L_X1_closeReach_32 6 FU (fun h20 => some h20) h6 0) h i) (fun h6 => L_X1_closeReach_32 6 FU (fun h20 => some h20) h6 0) 16
    (fun i h => ∃ re1, h = E G S N T (gz, ar, ne, re1, sj, st, nx) B U L C H ∧ ∀ r, r < i → rowOK (re1 r) (wr k 0 r))
    (fun m s _ => by rw [L_X1_closeReach_2, if_pos ex16])
    (fun m i s hi hI => by
      obtain ⟨re1, rfl, f1⟩ := hI
      refine ⟨_, ⟨upd re1 i (ar i ||| (1 <<< (nI i &&& 31))), rfl, fun r hr => ?_⟩, ?_⟩
      · by_cases e : r = i
        · subst e; rw [pk_us]; exact (hk r hi).or (rowOK.one hi)
        · rw [pk_un e]; exact f1 r (by omega)
      · rw [L_X1_closeReach_2, if_neg (ge16 hi), e_gR6_3, Option.bind_some, e_gR6_1, Option.bind_some, e_a7 hi, Option.bind_some, e_s9 hi, Option.bind_some, nI_1])
    16 0 FU (E G S N T (gz, ar, ne, re, sj, st, nx) B U L C H) rfl (pz_FU (by decide)) ⟨re, rfl, fun r hr => absurd hr (by omega)⟩
  subst e
  obtain ⟨s', ⟨re', e, g1⟩, e3⟩ := pz_lp (fun m h j => L_X1_closeReach_32 6 m (fun h20 => some h20) h j) (fun h20 => some h20) 16
    (fun j h => ∃ re', h = E G S N T (gz, ar, ne, re', sj, st, nx) B U L C H ∧ ∀ r, r < 16 → rowOK (re' r) (wr k j r))
    (fun m s _ => by rw [L_X1_closeReach_32, if_pos ex16])
    (fun m j s hj hI => by
      obtain ⟨re1, rfl, f1⟩ := hI
      obtain ⟨s2, ⟨re2, e, f2⟩, e4⟩ := pz_lp (fun m' h i => L_X1_closeReach_40 6 (nI j) m' (fun h19 => L_X1_closeReach_32 6 m (fun h20 => some h20) h19 (nI (j + 1))) h i) (fun h19 => L_X1_closeReach_32 6 m (fun h20 => some h20) h19 (nI (j + 1))) 16
        (fun i h => ∃ re2, h = E G S N T (gz, ar, ne, re2, sj, st, nx) B U L C H ∧ ∀ r, r < 16 → rowOK (re2 r) (if r < i then wr k (j + 1) r else wr k j r))
        (fun m' s _ => by rw [L_X1_closeReach_40, if_pos ex16])
        (fun m' i s hi hI => by
          obtain ⟨re2, rfl, f2⟩ := hI
          have ri : rowOK (re2 i) (wr k j i) := by have := f2 i hi; rwa [if_neg (by omega)] at this
          have rj : rowOK (re2 j) (wr k j j) := by
            have := f2 j hj
            by_cases z : j < i
            · rw [if_pos z] at this
              refine this.congr (fun c hc => ?_)
              show wr k j j c = (wr k j j c || (wr k j j j && wr k j j c))
              cases wr k j j c <;> cases wr k j j j <;> rfl
            · rwa [if_neg z] at this
          have oth : ∀ r, r < 16 → r ≠ i → rowOK (re2 r) (if r < i + 1 then wr k (j + 1) r else wr k j r) := by
            intro r hr hne
            have := f2 r hr
            have e : (r < i + 1) ↔ r < i := by omega
            simp only [e]; exact this
          by_cases q : wr k j i j = true
          · refine ⟨_, ⟨upd re2 i (re2 i ||| re2 j), rfl, fun r hr => ?_⟩, ?_⟩
            · by_cases e : r = i
              · subst e
                rw [pk_us, if_pos (by omega)]
                refine (ri.or rj).congr (fun c hc => ?_)
                show (wr k j r c || (wr k j r j && wr k j j c)) = _
                rw [q]; rfl
              · rw [pk_un e]; exact oth r hr e
            · rw [L_X1_closeReach_40, if_neg (ge16 hi), e_gR6_3, Option.bind_some, e_a9 hi, Option.bind_some]
              show ((f_X5_hasBit (re2 i) (nI j)).bind _) = _
              rw [ri.hasBit hj, Option.bind_some, q, if_neg (by decide), Option.bind_some, e_a9 hi, Option.bind_some, Option.bind_some, e_a9 hj, Option.bind_some, e_s9 hi, Option.bind_some, nI_1]
          · have q' : wr k j i j = false := by simpa using q
            refine ⟨_, ⟨re2, rfl, fun r hr => ?_⟩, ?_⟩
            · by_cases e : r = i
              · subst e
                rw [if_pos (by omega)]
                refine ri.congr (fun c hc => ?_)
                show (wr k j r c || (wr k j r j && wr k j j c)) = _
                rw [q']; simp
              · exact oth r hr e
            · rw [L_X1_closeReach_40, if_neg (ge16 hi), e_gR6_3, Option.bind_some, e_a9 hi, Option.bind_some]
              show ((f_X5_hasBit (re2 i) (nI j)).bind _) = _
              rw [ri.hasBit hj, Option.bind_some, q', if_pos (by decide), nI_1])
        16 0 FU (E G S N T (gz, ar, ne, re1, sj, st, nx) B U L C H) rfl (pz_FU (by decide)) ⟨re1, rfl, fun r hr => by rw [if_neg (by omega)]; exact f1 r hr⟩
      subst e
      refine ⟨_, ⟨re2, rfl, fun r hr => by have := f2 r hr; rwa [if_pos hr] at this⟩, ?_⟩
      rw [L_X1_closeReach_32, if_neg (ge16 hj), nI_1]
      exact e4)
    16 0 FU (E G S N T (gz, ar, ne, re1, sj, st, nx) B U L C H) rfl (pz_FU (by decide)) ⟨re1, rfl, f1⟩
  subst e
  refine ⟨re', ?_, g1⟩
  unfold f_X1_closeReach
  exact e2.trans e3
def rg (k : Nat → Nat → Bool) (a b : Nat) : Bool := wr k 16 a b && wr k 16 b a
def ldr (k : Nat → Nat → Bool) (a : Nat) : Nat := lst (rg k a) a
theorem rg_self (k : Nat → Nat → Bool) (a : Nat) : rg k a a = true := by unfold rg; rw [wr_refl]; rfl
theorem rg_comm (k : Nat → Nat → Bool) (a b : Nat) : rg k a b = rg k b a := by unfold rg; exact Bool.and_comm _ _
theorem ldr_le (k : Nat → Nat → Bool) (a : Nat) : ldr k a ≤ a := lst_le _ _
theorem ldr_yes (k : Nat → Nat → Bool) (a : Nat) : rg k a (ldr k a) = true := by
  by_cases q : ldr k a < a
  · exact lst_yes _ _ q
  · have : ldr k a = a := by have := ldr_le k a; omega
    rw [this]; exact rg_self k a
theorem x_least {G : TG} {S : TS} {N : TN} {T : TT} {R : TR} {B : TB} {U : TU} {L : TL} {C : TC} {H : TH} {k : Nat → Nat → Bool} {a : Nat} (hk : ∀ r, r < 16 → rowOK (R.2.2.2.1 r) (wr k 16 r)) (ha : a < 16) : f_X1_leastOfRing (E G S N T R B U L C H) 6 (nI a) = some (nI (ldr k a)) := by
  have key := pz_srch (fun n (_ : Unit) l => L_X1_leastOfRing_11 (E G S N T R B U L C H) 6 (nI a) n (some (nI a)) l) (rg k a) a (some (nI a)) (fun d => some (nI d)) (fun _ _ => True)
    (fun n s _ => by rw [L_X1_leastOfRing_11, if_pos (Int32.le_refl _)])
    (fun n d s hd _ z => by
      have hd16 : d < 16 := by omega
      refine ⟨(), trivial, ?_⟩
      rw [L_X1_leastOfRing_11, if_neg (nI_ge hd (by omega)), e_gR6_3, Option.bind_some, e_a9 ha, Option.bind_some, (hk a ha).hasBit hd16, Option.bind_some, nI_1]
      cases q : wr k 16 a d with
      | false => rw [if_pos (by decide)]
      | true =>
        have q2 : wr k 16 d a = false := by unfold rg at z; rw [q] at z; simpa using z
        rw [if_neg (by decide), Option.bind_some, e_a9 hd16, Option.bind_some, (hk d hd16).hasBit ha, Option.bind_some, q2, if_pos (by decide)])
    (fun n d s hd _ z => by
      have hd16 : d < 16 := by omega
      unfold rg at z
      simp only [Bool.and_eq_true] at z
      rw [L_X1_leastOfRing_11, if_neg (nI_ge hd (by omega)), e_gR6_3, Option.bind_some, e_a9 ha, Option.bind_some, (hk a ha).hasBit hd16, Option.bind_some, z.1, if_neg (by decide), Option.bind_some, e_a9 hd16, Option.bind_some, (hk d hd16).hasBit ha, Option.bind_some, z.2, if_neg (by decide)])
    FU () (pz_FU (by omega)) trivial
  unfold f_X1_leastOfRing
  rw [pz_line ha, Option.bind_some, if_neg one_ne]
  refine key.trans ?_
  by_cases q : lst (rg k a) a < a
  · rw [if_pos q]; rfl
  · rw [if_neg q]
    have : ldr k a = a := by have := lst_le (rg k a) a; unfold ldr; omega
    rw [this]
theorem md_isRing {G : TG} {S : TS} {N : TN} {T : TT} {R : TR} {B : TB} {U : TU} {L : TL} {C : TC} {H : TH} {t n a b : Nat} {k : Nat → Nat → Bool} {v : Nat → Nat → Int64} (hm : MC B.2.2.2.1 B.2.2.2.2 t k v) (ht : t < 8) (h1 : B.2.1 t = nI n) (hn : n ≤ 16) (hin : ∀ r c, r < 16 → c < 16 → k r c = true → r < n ∧ c < n) (ha : a < 16) (hb : b < 16) : f_X6_isRing (E G S N T R B U L C H) 43 (nI t) (nI a) (nI b) = some (bI (rg k a b)) := by
  obtain ⟨y, hy, e5⟩ := md_reach (G := G) (S := S) (N := N) (T := T) (R := R) (U := U) (L := L) (C := C) (H := H) hm ht h1 hn hin ha (d := 16) (by omega)
  obtain ⟨z, hz, e6⟩ := md_reach (G := G) (S := S) (N := N) (T := T) (R := R) (U := U) (L := L) (C := C) (H := H) hm ht h1 hn hin hb (d := 16) (by omega)
  unfold f_X6_isRing rg
  rw [e_ck43, show (16 : Int32) = nI 16 from rfl, e5, Option.bind_some, hy.sh hb, rs_wr ha hb, e_ck43, e6, Option.bind_some, hz.sh ha, rs_wr hb ha]
  cases wr k 16 a b <;> cases wr k 16 b a <;> rfl
theorem md_leader {G : TG} {S : TS} {N : TN} {T : TT} {R : TR} {B : TB} {U : TU} {L : TL} {C : TC} {H : TH} {t n a : Nat} {k : Nat → Nat → Bool} {v : Nat → Nat → Int64} (hm : MC B.2.2.2.1 B.2.2.2.2 t k v) (ht : t < 8) (h1 : B.2.1 t = nI n) (hn : n ≤ 16) (hin : ∀ r c, r < 16 → c < 16 → k r c = true → r < n ∧ c < n) (ha : a < 16) : f_X6_leader (E G S N T R B U L C H) 43 (nI t) (nI a) = some (nI (ldr k a)) := by
  have hl := ldr_le k a
  have key := pz_lpf (fun n (_ : Unit) l => L_X6_leader_2 (E G S N T R B U L C H) 43 (nI t) (nI a) n (fun x5 => some x5) l) (some (nI (ldr k a))) (ldr k a) (fun _ => ())
    (fun m => by rw [L_X6_leader_2, e_ck43, md_isRing hm ht h1 hn hin ha (by omega), Option.bind_some, ldr_yes, if_neg (by decide)])
    (fun m i hi => by rw [L_X6_leader_2, e_ck43, md_isRing hm ht h1 hn hin ha (by omega), Option.bind_some, show rg k a i = false from lst_no _ _ i hi, if_pos (by decide), nI_1])
    (ldr k a) 0 FU (by omega) (pz_FU (by omega))
  exact key
def nr (k : Nat → Nat → Bool) (m : Nat) : Nat := cnt (fun x => decide (ldr k x = x)) m
theorem nr_step {k : Nat → Nat → Bool} {m : Nat} : nr k (m + 1) = nr k m + (if ldr k m = m then 1 else 0) := by
  show cnt _ m + _ = _
  by_cases e : ldr k m = m
  · simp [e, nr]
  · simp [e, nr]
theorem x_rings {G : TG} {S : TS} {N : TN} {T : TT} {R : TR} {B : TB} {U : TU} {L : TL} {C : TC} {H : TH} {k : Nat → Nat → Bool} {m : Nat} (hk : ∀ r, r < 16 → rowOK (R.2.2.2.1 r) (wr k 16 r)) (hm : m ≤ 16) : f_X1_ringsBelow (E G S N T R B U L C H) 6 (nI m) = some (nI (nr k m)) := by
  have key := pz_lpf (fun n s l => L_X1_ringsBelow_4 (E G S N T R B U L C H) 6 (nI m) n (fun x7 => some x7) s l) (some (nI (nr k m))) m (fun i => nI (nr k i))
    (fun n => by
      rw [L_X1_ringsBelow_4]
      by_cases q : m < 16
      · rw [if_neg (ge16 q), if_pos (Int32.le_refl _)]
      · rw [if_pos (by rw [show m = 16 by omega]; decide)])
    (fun n i hi => by
      have hl := ldr_le k i
      rw [L_X1_ringsBelow_4, if_neg (ge16 (by omega)), if_neg (nI_ge hi (by omega)), e_ck6, x_least hk (by omega), Option.bind_some, nI_1, nI_1, nr_step]
      by_cases e : ldr k i = i
      · rw [if_pos (by rw [e]), if_pos e]
      · rw [if_neg (fun z => e ((nI_eq (by omega) (by omega)).1 z)), if_neg e]; rfl)
    m 0 FU (by omega) (pz_FU (by omega))
  exact key
theorem md_rings {G : TG} {S : TS} {N : TN} {T : TT} {R : TR} {B : TB} {U : TU} {L : TL} {C : TC} {H : TH} {t n m : Nat} {k : Nat → Nat → Bool} {v : Nat → Nat → Int64} (hmc : MC B.2.2.2.1 B.2.2.2.2 t k v) (ht : t < 8) (h1 : B.2.1 t = nI n) (hn : n ≤ 16) (hin : ∀ r c, r < 16 → c < 16 → k r c = true → r < n ∧ c < n) (hm : m ≤ 16) : L_X6_ring_65 (E G S N T R B U L C H) 43 (nI t) (nI m) FU (fun x22 => some x22) 0 0 = some (nI (nr k m)) := by
  have key := pz_lpf (fun n s l => L_X6_ring_65 (E G S N T R B U L C H) 43 (nI t) (nI m) n (fun x22 => some x22) s l) (some (nI (nr k m))) m (fun i => nI (nr k i))
    (fun n => by rw [L_X6_ring_65, if_pos (Int32.le_refl _)])
    (fun n i hi => by
      have hl := ldr_le k i
      rw [L_X6_ring_65, if_neg (nI_ge hi (by omega)), e_ck43, md_leader hmc ht h1 hn hin (by omega), Option.bind_some, nI_1, nI_1, Int32.add_zero, nr_step]
      by_cases e : ldr k i = i
      · rw [if_pos (by rw [e]), if_pos e]
      · rw [if_neg (fun z => e ((nI_eq (by omega) (by omega)).1 z)), if_neg e]; rfl)
    m 0 FU (by omega) (pz_FU (by omega))
  exact key
theorem lt_m1 {x : Int32} (h : x < 0) (h1 : ¬ x = -1) : x < -1 := by
  rw [Int32.lt_iff_toInt_lt] at h ⊢
  have h2 : x.toInt ≠ -1 := fun z => h1 (Int32.toInt_inj.mp (by rw [z]; decide))
  have e1 : (0 : Int32).toInt = 0 := by decide
  have e2 : (-1 : Int32).toInt = -1 := by decide
  rw [e1] at h
  rw [e2]
  omega
theorem nlt_m1 {j : Nat} (h : j < 2 ^ 31) : ¬ nI j < -1 := fun z => nI_pos h (Int32.lt_trans z (by decide))
theorem m1_lt {j : Nat} (h : j < 2 ^ 31) : (-1 : Int32) < nI j := by
  have h1 : (0 : Int32) ≤ nI j := nI_pos' h
  exact Int32.lt_of_lt_of_le (by decide) h1
theorem ne_m1 {j : Nat} (h : j < 2 ^ 31) : ¬ nI j = -1 := fun z => by
  have := nI_pos h
  rw [z] at this
  exact this (by decide)
theorem cmd_ring {h : HP} (o : OK h) (x1 x2 : Int32) : SW h (fun h => f_X5_ring h 0 x1 x2) (fun h => f_X6_ring h 43 x1 x2) := by
  have oo := o
  obtain ⟨G, S, N, T, ⟨gz, ar, ne, re, sj, st, nx⟩, B, U, L, C, H, g, tR, tC, tk, tv, nT, qr, qc, qv, nL, ql, rfl, hK, hw, hM, hr⟩ := o
  cases h1 : tix tR x1 with
  | none =>
    refine SW.same (r := -1) oo ?_ ?_
    · show f_X5_ring _ 0 x1 x2 = _
      unfold f_X5_ring
      rw [e_ck0, kt_gridAt hK hw, h1, Option.bind_some]; rfl
    · show f_X6_ring _ 43 x1 x2 = _
      unfold f_X6_ring
      rw [e_ck43, md_isTable hM, h1, Option.bind_some, if_pos bN]
  | some a =>
    obtain ⟨ha, rfl, hRa⟩ := tix_some h1
    obtain ⟨w1, w2⟩ := hw a ha
    obtain ⟨w3, w4, w5, w6, w7⟩ := w2 hRa
    obtain ⟨s1, s2, s3, s4, s5⟩ := hK.1 a ha
    obtain ⟨s6, s7⟩ := s5 hRa
    obtain ⟨b1, b2, b3⟩ := (hM a ha).2 hRa
    have hin : tR a = tC a → ∀ r c, r < 16 → c < 16 → tk a r c = true → r < tR a ∧ c < tR a := fun q r c hr hc z => by have := w5 r c hr hc z; omega
    obtain ⟨ar', ne', e4, g1, g2, g3⟩ := x_read (G := G) (S := S) (N := N) (T := T) (B := B) (U := U) (L := L) (C := C) (H := H) (gz := gz) (ar := ar) (ne := ne) (re := re) (sj := sj) (st := st) (nx := nx) s2 s4 s7
    obtain ⟨re', e5, g4⟩ := x_close (G := G) (S := S) (N := N) (T := T) (B := B) (U := U) (L := L) (C := C) (H := H) (gz := nI (tR a)) (ar := ar') (ne := ne') (re := re) (sj := sj) (st := st) (nx := nx) g2
    have xr := fun m hm => x_rings (G := G) (S := S) (N := N) (T := T) (R := (nI (tR a), ar', ne', re', sj, st, nx)) (B := B) (U := U) (L := L) (C := C) (H := H) (k := tk a) (m := m) g4 hm
    have em0 : ∀ R', f_X6_ring (E G S N T R' B U L C H) 43 (nI a) x2 = if x2 < -1 then some (-2) else if x2 < nI (tR a) then (if bI (decide (tR a = tC a)) = 0 then some (-3) else if 0 ≤ x2 then (f_X6_leader (E G S N T R' B U L C H) 43 (nI a) x2).bind fun v15 => L_X6_ring_65 (E G S N T R' B U L C H) 43 (nI a) v15 FU (fun x22 => some x22) 0 0 else L_X6_ring_65 (E G S N T R' B U L C H) 43 (nI a) (nI (tR a)) FU (fun x25 => some x25) 0 0) else some (-2) := by
      intro R'
      unfold f_X6_ring
      rw [e_ck43, md_isTable hM, h1, Option.bind_some, if_neg bS, e_gR43_1, Option.bind_some, e_a45 (by omega), Option.bind_some, b1, e_ck43, md_isGraph (by omega) b1 b2 w1 w4, Option.bind_some, e_ck43, Option.bind_some, e_a45 (by omega), Option.bind_some, b1]
    by_cases q1 : x2 = -1
    · subst q1
      by_cases q : tR a = tC a
      · refine ⟨(E G S N T (nI (tR a), ar', ne', re', sj, st, nx) B U L C H), nI (nr (tk a) (tR a)), ?_, OK.mk hK hw hM (hr.gr _ _ _ _ _), ?_⟩
        · show f_X5_ring _ 0 (nI a) (-1) = _
          unfold f_X5_ring
          rw [e_ck0, kt_gridAt hK hw, h1, Option.bind_some, Option.map_some, om_s, if_pos rfl, e_ckG s2, g_square s2 s4 s6 w1 w4, Option.bind_some, if_neg (by simp [q, bI]), e_gR0_2, Option.bind_some, e_ck6, e4, Option.bind_some, e_gR0_2, Option.bind_some, e_ck6, e5, Option.bind_some, e_gR0_2, Option.bind_some, if_pos rfl, e_gIrc s2, Option.bind_some, e_ck6, s4, xr _ w1, Option.bind_some]
        · show f_X6_ring _ 43 (nI a) (-1) = _
          rw [em0, if_neg (by decide), if_pos (m1_lt (by omega)), if_neg (by simp [q, bI]), if_neg (by decide), md_rings b3 ha b1 w1 (hin q) w1]
      · refine SW.same (r := -3) oo ?_ ?_
        · show f_X5_ring _ 0 (nI a) (-1) = _
          unfold f_X5_ring
          rw [e_ck0, kt_gridAt hK hw, h1, Option.bind_some, Option.map_some, om_s, if_pos rfl, e_ckG s2, g_square s2 s4 s6 w1 w4, Option.bind_some, if_pos (by simp [q, bI])]
        · show f_X6_ring _ 43 (nI a) (-1) = _
          rw [em0, if_neg (by decide), if_pos (m1_lt (by omega)), if_pos (by simp [q, bI])]
    · have ex : f_X5_ring (E G S N T (gz, ar, ne, re, sj, st, nx) B U L C H) 0 (nI a) x2 = if bI (ix (tR a) x2).isSome = 0 then some (E G S N T (gz, ar, ne, re, sj, st, nx) B U L C H, -2) else if bI (decide (tR a = tC a)) = 0 then some (E G S N T (gz, ar, ne, re, sj, st, nx) B U L C H, -3) else (f_X1_leastOfRing (E G S N T (nI (tR a), ar', ne', re', sj, st, nx) B U L C H) 6 x2).bind fun v55 => (f_X1_ringsBelow (E G S N T (nI (tR a), ar', ne', re', sj, st, nx) B U L C H) 6 v55).bind fun v58 => some (E G S N T (nI (tR a), ar', ne', re', sj, st, nx) B U L C H, v58) := by
        unfold f_X5_ring
        rw [e_ck0, kt_gridAt hK hw, h1, Option.bind_some, Option.map_some, om_s, if_neg q1, e_ckG s2, g_hasRow s2 s4, Option.bind_some, e_ckG s2, g_square s2 s4 s6 w1 w4, Option.bind_some, e_gR0_2, Option.bind_some, e_ck6, e4, Option.bind_some, e_gR0_2, Option.bind_some, e_ck6, e5, Option.bind_some, e_gR0_2, Option.bind_some, if_neg q1, Option.bind_some, e_ck6]
        simp only [e_ck6]
      cases e2 : ix (tR a) x2 with
      | none =>
        refine SW.same (r := -2) oo (ex.trans (by rw [e2]; rfl)) ((em0 _).trans ?_)
        rcases ix_none e2 with z | z
        · rw [if_pos (lt_m1 z q1)]
        · rw [if_neg (show ¬ x2 < nI (tR a) from Int32.not_lt.mpr z)]; split <;> rfl
      | some i =>
        obtain ⟨hi', rfl⟩ := ix_some (by omega) e2
        have hl := ldr_le (tk a) i
        rw [e2, if_neg bS] at ex
        by_cases q : tR a = tC a
        · refine ⟨(E G S N T (nI (tR a), ar', ne', re', sj, st, nx) B U L C H), nI (nr (tk a) (ldr (tk a) i)), ex.trans ?_, OK.mk hK hw hM (hr.gr (nI (tR a)) ar' ne' re' sj), ?_⟩
          · rw [if_neg (by simp [q, bI]), x_least g4 (by omega), Option.bind_some, xr _ (by omega), Option.bind_some]
          · refine (em0 _).trans ?_
            rw [if_neg (nlt_m1 (by omega)), if_pos (nI_lt hi' (by omega)), if_neg (by simp [q, bI]), if_pos (nI_pos' (by omega)), md_leader b3 ha b1 w1 (hin q) (by omega), Option.bind_some, md_rings b3 ha b1 w1 (hin q) (by omega)]
        · refine SW.same (r := -3) oo (ex.trans (by rw [if_pos (by simp [q, bI])])) ((em0 _).trans ?_)
          rw [if_neg (nlt_m1 (by omega)), if_pos (nI_lt hi' (by omega)), if_pos (by simp [q, bI])]
