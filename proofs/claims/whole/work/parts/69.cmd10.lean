/-! rows -/
theorem n_item {G : TG} {S : TS} {N : TN} {T : TT} {R : TR} {B : TB} {U : TU} {L : TL} {C : TC} {H : TH} {a i n : Nat} {x : Int32} (ha : a = 15 ∨ a = 17) (hi : i < 16) (h : N.2.2.2 a i = x) : f_X3_item (E G S N T R B U L C H) a (nI i) = some x := by
  unfold f_X3_item
  rw [pz_line hi, Option.bind_some, if_neg one_ne, e_gRN ha, Option.bind_some, e_aN ha hi, Option.bind_some, h]
theorem n_bel {G : TG} {S : TS} {N : TN} {T : TT} {R : TR} {B : TB} {U : TU} {L : TL} {C : TC} {H : TH} {a R0 nL i : Nat} {ql : Nat → Nat} (ha : a = 15 ∨ a = 17) (l1 : nL ≤ 16) (l3 : N.2.2.1 a = nI nL) (l5 : ∀ i, i < nL → ql i < 16 ∧ N.2.2.2 a i = nI (ql i)) (hR : R0 ≤ 16) (hi : i < nL) (n : Nat) (k : Option Int32) : L_X3_areBelow_2 (E G S N T R B U L C H) a (nI R0) (n + 1) k (nI i) = if ql i < R0 then L_X3_areBelow_2 (E G S N T R B U L C H) a (nI R0) n k (nI (i + 1)) else some 0 := by
  obtain ⟨a1, a2⟩ := l5 i hi
  rw [L_X3_areBelow_2, if_neg (ge16 (by omega)), e_gIN ha, Option.bind_some, l3, if_neg (nI_ge hi (by omega)), e_gRN ha, Option.bind_some, e_aN ha (by omega), Option.bind_some, a2, nI_1]
  by_cases q : ql i < R0
  · rw [if_pos q, if_pos (nI_lt q (by omega))]
  · rw [if_neg q, if_neg (nI_nlt (by omega) (by omega))]
theorem n_below {G : TG} {S : TS} {N : TN} {T : TT} {R : TR} {B : TB} {U : TU} {L : TL} {C : TC} {H : TH} {a R0 nL : Nat} {ql : Nat → Nat} (ha : a = 15 ∨ a = 17) (l1 : nL ≤ 16) (l3 : N.2.2.1 a = nI nL) (l5 : ∀ i, i < nL → ql i < 16 ∧ N.2.2.2 a i = nI (ql i)) (hR : R0 ≤ 16) : (f_X3_areBelow (E G S N T R B U L C H) a (nI R0) = some 1 ∧ ∀ i, i < nL → ql i < R0) ∨ (f_X3_areBelow (E G S N T R B U L C H) a (nI R0) = some 0 ∧ ∃ p, p < nL ∧ ¬ ql p < R0 ∧ ∀ i, i < p → ql i < R0) := by
  by_cases hq : ∃ p, p < nL ∧ ¬ ql p < R0
  · right
    obtain ⟨p, ⟨p1, p2⟩, p3⟩ := pk_least _ hq
    have p4 : ∀ i, i < p → ql i < R0 := by
      intro i hi
      by_cases q : ql i < R0
      · exact q
      · exact absurd ⟨by omega, q⟩ (p3 i hi)
    refine ⟨?_, p, p1, p2, p4⟩
    have key := pz_lpf (fun n (_ : Unit) i => L_X3_areBelow_2 (E G S N T R B U L C H) a (nI R0) n (some 1) i) (some 0) p (fun _ => ())
      (fun n => by rw [n_bel ha l1 l3 l5 hR p1, if_neg p2])
      (fun n i hi => by rw [n_bel ha l1 l3 l5 hR (by omega), if_pos (p4 i hi)]) p 0 FU (by omega) (pz_FU (by omega))
    exact key
  · left
    have p4 : ∀ i, i < nL → ql i < R0 := by
      intro i hi
      by_cases q : ql i < R0
      · exact q
      · exact absurd ⟨i, hi, q⟩ hq
    refine ⟨?_, p4⟩
    have key := pz_lpf (fun n (_ : Unit) i => L_X3_areBelow_2 (E G S N T R B U L C H) a (nI R0) n (some 1) i) (some 1) nL (fun _ => ())
      (fun n => by
        rw [L_X3_areBelow_2]
        by_cases q : nL < 16
        · rw [if_neg (ge16 q), e_gIN ha, Option.bind_some, l3, if_pos (Int32.le_refl _)]
        · rw [show nL = 16 by omega, if_pos (by decide)])
      (fun n i hi => by rw [n_bel ha l1 l3 l5 hR hi, if_pos (p4 i hi)]) nL 0 FU (by omega) (pz_FU (by omega))
    exact key
theorem g_rows {rc : Nat → Int32} {cc : Nat → Int32} {kc : Nat → Nat → Int32} {vs : Nat → Nat → Int64} {S : TS} {N : TN} {T : TT} {R : TR} {B : TB} {U : TU} {L : TL} {C : TC} {H : TH} {a b m nL : Nat} {ql : Nat → Nat} {kb : Nat → Nat → Bool} {vb : Nat → Nat → Int64} (ha : isG a = true) (hb : isG b = true) (hba : b ≠ a) (gb : GC (kc b) (vs b) kb vb) (hm : m = 15 ∨ m = 17) (l1 : nL ≤ 16) (l3 : N.2.2.1 m = nI nL) (l5 : ∀ i, i < nL → ql i < 16 ∧ N.2.2.2 m i = nI (ql i)) : ∃ kA vA, f_X2_becomeRows (E (rc, cc, kc, vs) S N T R B U L C H) a b m = some (E (va_up rc a (nI nL), va_up cc a (cc b), va_up kc a kA, va_up vs a vA) S N T R B U L C H) ∧ GC kA vA (fun r c => decide (r < nL) && kb (ql r) c) (fun r c => if (decide (r < nL) && kb (ql r) c) = true then vb (ql r) c else 0) := by
  obtain ⟨kA0, vA0, e0, g0⟩ := g_begin (a := a) (rc := rc) (cc := cc) (kc := kc) (vs := vs) (S := S) (N := N) (T := T) (R := R) (B := B) (U := U) (L := L) (C := C) (H := H) ha (nI nL) (cc b)
  obtain ⟨s', ⟨kA', vA', e, hg⟩, e2⟩ := pz_lp (fun n h i => L_X2_becomeRows_14 a b m n (fun h15 => some h15) h i) (fun h15 => some h15) nL
    (fun i h => ∃ kA vA, h = (E (va_up rc a (nI nL), va_up cc a (cc b), va_up kc a kA, va_up vs a vA) S N T R B U L C H) ∧ GC kA vA (fun r c => decide (r < i) && kb (ql r) c) (fun r c => if (decide (r < i) && kb (ql r) c) = true then vb (ql r) c else 0))
    (fun n s hI => by
      obtain ⟨kA, vA, rfl, hg⟩ := hI
      rw [L_X2_becomeRows_14]
      by_cases q : nL < 16
      · rw [if_neg (ge16 q), e_gIN hm, Option.bind_some, l3, if_pos (Int32.le_refl _)]
      · rw [show nL = 16 by omega, if_pos (by decide)])
    (fun n i s hi hI => by
      obtain ⟨kA, vA, rfl, hg⟩ := hI
      obtain ⟨a1, a2⟩ := l5 i hi
      obtain ⟨kA1, vA1, e1, g1⟩ := g_addRow (rc := rc) (cc := cc) (kc := kc) (vs := vs) (S := S) (N := N) (T := T) (R := R) (B := B) (U := U) (L := L) (C := C) (H := H) (x := 1) (x0 := nI nL) (y0 := cc b) ha hb hba hg gb (r := i) (j := ql i) (by omega) a1
      refine ⟨_, ⟨kA1, vA1, rfl, g1.congr (fun r c hr hc => ?_) (fun r c hr hc => ?_)⟩, ?_⟩
      · by_cases e : r = i
        · subst e; simp
        · have : (r < i + 1) ↔ r < i := by omega
          simp [e, this]
      · by_cases e : r = i
        · subst e
          by_cases z : kb (ql r) c = true
          · simp [z]
          · simp [z]
        · have : (r < i + 1) ↔ r < i := by omega
          simp [e, this]
      · rw [L_X2_becomeRows_14, if_neg (ge16 (by omega)), e_gIN hm, Option.bind_some, l3, if_neg (nI_ge hi (by omega)), e_ckN hm, n_item (n := 0) hm (by omega) a2, Option.bind_some, e_ckG ha, e1, Option.bind_some, nI_1])
    nL 0 FU (E (va_up rc a (nI nL), va_up cc a (cc b), va_up kc a kA0, va_up vs a vA0) S N T R B U L C H) (by omega) (pz_FU (by omega)) ⟨kA0, vA0, rfl, g0.congr (fun r c _ _ => by simp) (fun r c _ _ => by simp)⟩
  subst e
  refine ⟨kA', vA', ?_, hg⟩
  unfold f_X2_becomeRows
  rw [e_gIN hm, Option.bind_some, l3, e_gIcc hb, Option.bind_some, e_ckG ha]
  show (f_X2_begin _ a (nI nL) (cc b)).bind _ = _
  rw [e0, Option.bind_some]
  exact e2
/-- the reference's loop over the list, up to the p-th -/
theorem md_rows {G : TG} {S : TS} {N : TN} {T : TT} {R : TR} {th : Nat → Int32} {hi : Nat → Int32} {wi : Nat → Int32} {kp : Nat → Int32} {va : Nat → Int64} {U : TU} {L : TL} {C : TC} {H : TH} {tR tC : Nat → Nat} {tk : Nat → Nat → Nat → Bool} {tv : Nat → Nat → Nat → Int64} {a nL p : Nat} {ql : Nat → Nat} (kk0 kk : HP → Option (HP × Int32)) (hM : MG (th, hi, wi, kp, va) tR tC tk tv) (ha : a < 8) (hRa : 1 ≤ tR a) (hw : WFt tR tC tk tv) (hS : MS (th, hi, wi, kp, va) nL (tC a) (fun _ _ => false) (fun _ _ => 0)) (hp : p ≤ nL) (l1 : nL ≤ 16)
    (l5 : ∀ i, i < nL → ql i < 16 ∧ L.2 i = nI (ql i)) (hq : ∀ i, i < p → ql i < tR a)
    (hx : ∀ n B, MG B tR tC tk tv → L_X6_rows_48 43 (nI a) (nI nL) (n + 1) kk0 (E G S N T R B U L C H) (nI p) = kk (E G S N T R B U L C H)) : ∃ B', MG B' tR tC tk tv ∧ MS B' nL (tC a) (fun r c => decide (r < p) && tk a (ql r) c) (fun r c => if (decide (r < p) && tk a (ql r) c) = true then tv a (ql r) c else 0) ∧ L_X6_rows_48 43 (nI a) (nI nL) FU kk0 (E G S N T R (th, hi, wi, kp, va) U L C H) 0 = kk (E G S N T R B' U L C H) := by
  obtain ⟨w1, w2⟩ := hw a ha
  obtain ⟨w3, w4, w5, w6, w7⟩ := w2 hRa
  have hK : ∀ r c, r < p → c < 16 → tk a (ql r) c = true → c < tC a := fun r c hr hc z => (w5 (ql r) c (l5 r (by omega)).1 hc z).2
  obtain ⟨B', ⟨m1, m2⟩, e2⟩ := mdbl (fun n h i => L_X6_rows_48 43 (nI a) (nI nL) n kk0 h i) (fun x n k' h y => L_X6_rows_76 43 (nI a) x n k' h y) kk (fun B => (E G S N T R B U L C H)) p (tC a) (by omega) w4
    (fun r0 c0 B => MG B tR tC tk tv ∧ MS B nL (tC a) (fun r c => decide (r < p ∧ bf r0 c0 r c) && tk a (ql r) c) (fun r c => if (decide (r < p ∧ bf r0 c0 r c) && tk a (ql r) c) = true then tv a (ql r) c else 0))
    (fun n B hI => hx n B hI.1)
    (fun n B r hr hI => by
      obtain ⟨c1, c2, c3⟩ := (hI.1 a ha).2 hRa
      rw [L_X6_rows_48, if_neg (nI_ge (by omega) (by omega)), e_gR43_9, Option.bind_some, e_a51 (by omega), Option.bind_some, (l5 r (by omega)).2, e_gR43_1, Option.bind_some, e_a45 (by omega), Option.bind_some, c1, if_pos (nI_lt (hq r hr) (by omega)), nI_1]; rfl)
    (fun r n k' B hr hI => by
      obtain ⟨c1, c2, c3⟩ := (hI.1 a ha).2 hRa
      rw [L_X6_rows_76, e_gR43_2, Option.bind_some, e_a46 (by omega), Option.bind_some, c2, if_pos (Int32.le_refl _)])
    (fun r0 B hr hI => by
      have key : ∀ r c, r < 16 → c < 16 → (decide (r < p ∧ bf (r0 + 1) 0 r c) && tk a (ql r) c) = (decide (r < p ∧ bf r0 (tC a) r c) && tk a (ql r) c) := by
        intro r c hr1 hc1
        by_cases z : r < p ∧ tk a (ql r) c = true
        · have := hK r c z.1 hc1 z.2
          have : (r < p ∧ bf (r0 + 1) 0 r c) ↔ (r < p ∧ bf r0 (tC a) r c) := by unfold bf; omega
          simp only [this]
        · by_cases z1 : r < p
          · have : tk a (ql r) c = false := by
              cases q : tk a (ql r) c
              · rfl
              · exact absurd ⟨z1, q⟩ z
            simp [this]
          · simp [z1]
      exact ⟨hI.1, hI.2.congr (fun r c hr hc => key r c hr hc) (fun r c hr hc => by simp only [key r c hr hc])⟩)
    (fun r0 c0 n k' B hr hc hI => by
      obtain ⟨c1, c2, c3⟩ := (hI.1 a ha).2 hRa
      have a1 := (l5 r0 (by omega)).1
      have a2 := (l5 r0 (by omega)).2
      have e0 : L_X6_rows_76 43 (nI a) (nI r0) (n + 1) k' (E G S N T R B U L C H) (nI c0) = if tk a (ql r0) c0 = true then (f_X6_keep (E G S N T R B U L C H) 43 (nI r0) (nI c0) (tv a (ql r0) c0)).bind fun h37 => L_X6_rows_76 43 (nI a) (nI r0) n k' h37 (nI (c0 + 1)) else L_X6_rows_76 43 (nI a) (nI r0) n k' (E G S N T R B U L C H) (nI (c0 + 1)) := by
        rw [L_X6_rows_76, e_gR43_2, Option.bind_some, e_a46 (by omega), Option.bind_some, c2, if_neg (nI_ge hc (by omega)), e_gR43_9, Option.bind_some, e_a51 (by omega), Option.bind_some, a2, e_ck43, md_has c3 (by omega) a1 (by omega), Option.bind_some, nI_1]
        by_cases q : tk a (ql r0) c0 = true
        · rw [if_neg (by rw [q]; decide), if_pos q, Option.bind_some, e_a51 (by omega), Option.bind_some, a2, e_ck43, md_holds c3 (by omega) c1 c2 w1 w4 w5 w6 a1 (by omega), Option.bind_some, e_ck43]
        · rw [if_pos (by rw [show tk a (ql r0) c0 = false by simpa using q]; rfl), if_neg q]
      have es : ∀ r c, ¬ (r = r0 ∧ c = c0) → ((r < p ∧ bf r0 (c0 + 1) r c) ↔ (r < p ∧ bf r0 c0 r c)) := by
        intro r c e; unfold bf; omega
      have ep : r0 < p ∧ bf r0 (c0 + 1) r0 c0 := by unfold bf; omega
      by_cases q : tk a (ql r0) c0 = true
      · obtain ⟨th, hi, wi, kp, va⟩ := B
        obtain ⟨B', f1, f2, f3⟩ := md_keep (G := G) (S := S) (N := N) (T := T) (R := R) (U := U) (L := L) (C := C) (H := H) hI.1 hI.2 (r := r0) (c := c0) (by omega) (by omega) (tv a (ql r0) c0)
        refine ⟨B', ⟨f2, f3.congr (fun r c _ _ => ?_) (fun r c _ _ => ?_)⟩, ?_⟩
        · by_cases e : r = r0 ∧ c = c0
          · obtain ⟨rfl, rfl⟩ := e; simp [k2, ep, q]
          · simp only [k2, if_neg e, es r c e]
        · by_cases e : r = r0 ∧ c = c0
          · obtain ⟨rfl, rfl⟩ := e; simp [v2, ep, q]
          · simp only [v2, if_neg e, es r c e]
        · rw [e0, if_pos q, f1, Option.bind_some]
      · have q' : tk a (ql r0) c0 = false := by simpa using q
        refine ⟨B, ⟨hI.1, hI.2.congr (fun r c _ _ => ?_) (fun r c _ _ => ?_)⟩, ?_⟩
        · by_cases e : r = r0 ∧ c = c0
          · obtain ⟨rfl, rfl⟩ := e; simp [q']
          · simp only [es r c e]
        · by_cases e : r = r0 ∧ c = c0
          · obtain ⟨rfl, rfl⟩ := e; simp [q']
          · simp only [es r c e]
        · rw [e0, if_neg q])
    (th, hi, wi, kp, va) ⟨hM, hS.congr (fun r c _ _ => by simp [bf]) (fun r c _ _ => by simp [bf])⟩
  refine ⟨B', m1, m2.congr (fun r c _ _ => ?_) (fun r c _ _ => ?_), e2⟩
  · have : (r < p ∧ bf p 0 r c) ↔ r < p := by unfold bf; omega
    simp only [this]
  · have : (r < p ∧ bf p 0 r c) ↔ r < p := by unfold bf; omega
    simp only [this]
theorem cmd_rows {h : HP} (o : OK h) (x1 x2 : Int32) : S2 h (fun h => f_X5_rows h 0 x1 x2) (fun h => f_X6_rows h 43 x1 x2) := by
  have oo := o
  obtain ⟨⟨rc, cc, kc, vs⟩, ⟨sl, d⟩, ⟨nu, dn, nl, it⟩, T, R, B, U, ⟨ml, lo⟩, C, H, g, tR, tC, tk, tv, nT, qr, qc, qv, nL, ql, rfl, hK, hw, hM, hr⟩ := o
  obtain ⟨l1, l2, l3, l4, l5⟩ := hr.2.1
  have hN := nu_mem l2
  have hr0 : Rst (nu, dn, va_up nl nu 0, it) T R U (0, lo) nT qr qc qv 0 ql := hr.lst ⟨by omega, l2, va_up_self _ _ _, rfl, fun i hi => absurd hi (by omega)⟩
  cases h1 : tix tR x1 with
  | none =>
    refine S2.same (r := -1) oo ?_ ?_
    · show f_X5_rows _ 0 x1 x2 = _
      unfold f_X5_rows
      rw [e_ck0, kt_gridAt hK hw, h1, Option.bind_some]; rfl
    · show f_X6_rows _ 43 x1 x2 = _
      unfold f_X6_rows
      rw [md_isNumber, Option.bind_some, e_ck43, md_isTable hM, h1, Option.bind_some, if_pos bN]
      split <;> rfl
  | some a =>
    obtain ⟨ha, rfl, hRa⟩ := tix_some h1
    obtain ⟨w1, w2⟩ := hw a ha
    obtain ⟨w3, w4, w5, w6, w7⟩ := w2 hRa
    obtain ⟨s1, s2, s3, s4, s5⟩ := hK.1 a ha
    obtain ⟨s6, s7⟩ := s5 hRa
    obtain ⟨b1, b2, b3⟩ := (hM a ha).2 hRa
    cases h2 : ix 8 x2 with
    | none =>
      refine S2.same (r := -1) oo ?_ ?_
      · show f_X5_rows _ 0 (nI a) x2 = _
        unfold f_X5_rows
        rw [e_ck0, kt_gridAt hK hw, h1, Option.bind_some, Option.map_some, om_s, kt_slot, h2, Option.bind_some, if_pos bN]
      · show f_X6_rows _ 43 (nI a) x2 = _
        unfold f_X6_rows
        rw [md_isNumber, h2, Option.bind_some, if_pos bN]
    | some t =>
      obtain ⟨ht, rfl⟩ := ix_some (by decide) h2
      obtain ⟨th, hi, wi, kp, va⟩ := B
      have lm5 : ∀ i, i < nL → ql i < 16 ∧ lo i = nI (ql i) := fun i hi => ⟨(l5 i hi).1, (l5 i hi).2.2⟩
      have lx5 : ∀ i, i < nL → ql i < 16 ∧ it nu i = nI (ql i) := fun i hi => ⟨(l5 i hi).1, (l5 i hi).2.1⟩
      by_cases q0 : nL = 0
      · subst q0
        refine S2.mk (r := -3) (E (rc, cc, kc, vs) (sl, d) (nu, dn, va_up nl nu 0, it) T R (th, hi, wi, kp, va) U (ml, lo) C H) (E (rc, cc, kc, vs) (sl, d) (nu, dn, va_up nl nu 0, it) T R (th, hi, wi, kp, va) U (0, lo) C H) ?_ isE_E ?_ (OK.mk hK hw hM hr0)
        · show f_X5_rows _ 0 (nI a) (nI t) = _
          unfold f_X5_rows
          rw [e_ck0, kt_gridAt hK hw, h1, Option.bind_some, Option.map_some, om_s, kt_slot, h2, Option.bind_some, if_neg bS, e_gR0_4, Option.bind_some, e_gIN hN, Option.bind_some]
          show (if nl nu ≤ 0 then _ else _) = _
          rw [show nl nu = nI 0 from l3, if_pos (by decide), Option.bind_some, e_ckN hN]
          unfold f_X3_clear
          rw [e_pIN hN, Option.bind_some, Option.bind_some]
        · show f_X6_rows _ 43 (nI a) (nI t) = _
          unfold f_X6_rows
          rw [md_isNumber, h2, Option.bind_some, if_neg bS, e_ck43, md_isTable hM, h1, Option.bind_some, if_neg bS, e_gI43_8, Option.bind_some, e_pI43_8, Option.bind_some]
          show (if ml = 0 then _ else _) = _
          rw [show ml = nI 0 from l4, if_pos nI_0]
      · have emm : ∀ (G1 : TG) (S1 : TS), ∃ B1, MG B1 tR tC tk tv ∧ MS B1 nL (tC a) (fun _ _ => false) (fun _ _ => 0) ∧ f_X6_rows (E G1 S1 (nu, dn, va_up nl nu 0, it) T R (th, hi, wi, kp, va) U (ml, lo) C H) 43 (nI a) (nI t) = L_X6_rows_48 43 (nI a) (nI nL) FU (fun h40 => ck 5 h40 43 <| (f_X6_putAt h40 43 (nI t)).bind fun (h42, v43) => some (h42, v43)) (E G1 S1 (nu, dn, va_up nl nu 0, it) T R B1 U (0, lo) C H) 0 := by
          intro G1 S1
          obtain ⟨B1, e2, m1, m2⟩ := md_begin (G := G1) (S := S1) (N := (nu, dn, va_up nl nu 0, it)) (T := T) (R := R) (U := U) (L := (0, lo)) (C := C) (H := H) (R0 := nL) (C0 := tC a) hM
          refine ⟨B1, m1, m2, ?_⟩
          unfold f_X6_rows
          rw [md_isNumber, h2, Option.bind_some, if_neg bS, e_ck43, md_isTable hM, h1, Option.bind_some, if_neg bS, e_gI43_8, Option.bind_some, e_pI43_8, Option.bind_some]
          show (if ml = 0 then _ else _) = _
          rw [show ml = nI nL from l4, if_neg (nI_ne0 (by omega) (by omega)), e_gR43_2, Option.bind_some, e_a46 (by omega), Option.bind_some, e_ck43, b2, e2, Option.bind_some]
        have ex : f_X5_rows (E (rc, cc, kc, vs) (sl, d) (nu, dn, nl, it) T R (th, hi, wi, kp, va) U (ml, lo) C H) 0 (nI a) (nI t) = (f_X3_areBelow (E (rc, cc, kc, vs) (sl, d) (nu, dn, nl, it) T R (th, hi, wi, kp, va) U (ml, lo) C H) nu (nI (tR a))).bind fun v18 => if v18 = 0 then some (E (rc, cc, kc, vs) (sl, d) (nu, dn, va_up nl nu 0, it) T R (th, hi, wi, kp, va) U (ml, lo) C H, -3) else ((f_X2_becomeRows (E (rc, cc, kc, vs) (sl, d) (nu, dn, nl, it) T R (th, hi, wi, kp, va) U (ml, lo) C H) d (g a) nu).bind fun h28 => (gR 4 h28 0 4).bind fun v30 => ck 2 h28 v30 <| (f_X3_clear h28 v30).bind fun h32 => ck 4 h32 0 <| (f_X5_putDraft h32 0 (nI t)).bind fun (h35, v36) => some (h35, v36)) := by
          unfold f_X5_rows
          rw [e_ck0, kt_gridAt hK hw, h1, Option.bind_some, Option.map_some, om_s, kt_slot, h2, Option.bind_some, if_neg bS, e_gR0_4, Option.bind_some, e_gIN hN, Option.bind_some]
          show (if nl nu ≤ 0 then _ else _) = _
          rw [show nl nu = nI nL from l3, if_neg (nI_nle (by omega) (by omega)), Option.bind_some, e_gIrc s2, Option.bind_some, e_ckN hN, s4, Option.bind_some, e_ckN hN, e_gR0_3, Option.bind_some, Option.bind_some, e_ckG hK.2.1]
          show (f_X3_areBelow _ nu (nI (tR a))).bind _ = _
          congr 1
          funext v18
          by_cases q : v18 = 0
          · rw [if_pos q, if_pos q]
            unfold f_X3_clear
            show ((pI 2 _ nu 0 0).bind _ : Option HP).bind _ = _
            rw [e_pIN hN, Option.bind_some, Option.bind_some]
          · rw [if_neg q, if_neg q]
        rcases n_below (G := (rc, cc, kc, vs)) (S := (sl, d)) (N := (nu, dn, nl, it)) (T := T) (R := R) (B := (th, hi, wi, kp, va)) (U := U) (L := (ml, lo)) (C := C) (H := H) hN l1 l3 lx5 w1 with ⟨f1, f2⟩ | ⟨f1, p, p1, p2, p3⟩
        · rw [f1, Option.bind_some, if_neg one_ne] at ex
          obtain ⟨kA, vA, e1, gA⟩ := g_rows (a := d) (m := nu) (rc := rc) (cc := cc) (kc := kc) (vs := vs) (S := (sl, d)) (N := (nu, dn, nl, it)) (T := T) (R := R) (B := (th, hi, wi, kp, va)) (U := U) (L := (ml, lo)) (C := C) (H := H) hK.2.1 s2 s3 s7 hN l1 l3 lx5
          rw [show cc (g a) = nI (tC a) from s6] at e1
          refine tail3 (B := (th, hi, wi, kp, va)) (C := C) (H := H) (N := (nu, dn, va_up nl nu 0, it)) (T := T) (U0 := U) (U := U) (L0 := (ml, lo)) (L := (0, lo)) (R0 := nL) (C0 := tC a) (k := fun r c => decide (r < nL) && tk a (ql r) c) (v := fun r c => if (decide (r < nL) && tk a (ql r) c) = true then tv a (ql r) c else 0) hK hw hr0 ht ⟨by omega, l1⟩ ⟨w3, w4⟩ (fun r c hr hc z => ?_) (fun r c hr hc z => ?_) gA ?_ ?_
          · have z1 : r < nL := by
              by_cases e : r < nL
              · exact e
              · simp [e] at z
            have z2 : tk a (ql r) c = true := by simpa [z1] using z
            exact ⟨z1, (w5 (ql r) c (lx5 r z1).1 hc z2).2⟩
          · rw [if_neg (by rw [z]; decide)]
          · refine ex.trans ?_
            rw [e1, Option.bind_some, e_gR0_4, Option.bind_some, e_ckN hN]
            unfold f_X3_clear
            rw [e_pIN hN, Option.bind_some, Option.bind_some, e_ck0, bindp]
          · intro G1 S1
            obtain ⟨⟨th1, hi1, wi1, kp1, va1⟩, m1, m2, e3⟩ := emm G1 S1
            obtain ⟨B2, m3, m4, e4⟩ := md_rows (G := G1) (S := S1) (N := (nu, dn, va_up nl nu 0, it)) (T := T) (R := R) (U := U) (L := (0, lo)) (C := C) (H := H) (p := nL) (fun h40 => ck 5 h40 43 <| (f_X6_putAt h40 43 (nI t)).bind fun (h42, v43) => some (h42, v43)) (fun h40 => ck 5 h40 43 <| (f_X6_putAt h40 43 (nI t)).bind fun (h42, v43) => some (h42, v43)) m1 ha hRa hw m2 (Nat.le_refl _) l1 lm5 f2 (fun n B _ => by rw [L_X6_rows_48, if_pos (Int32.le_refl _)])
            refine ⟨B2, m3, m4, ?_⟩
            refine (e3.trans e4).trans ?_
            rw [e_ck43, bindp]
        · rw [f1, Option.bind_some, if_pos rfl] at ex
          obtain ⟨⟨th1, hi1, wi1, kp1, va1⟩, m1, m2, e3⟩ := emm (rc, cc, kc, vs) (sl, d)
          obtain ⟨B2, m3, m4, e4⟩ := md_rows (G := (rc, cc, kc, vs)) (S := (sl, d)) (N := (nu, dn, va_up nl nu 0, it)) (T := T) (R := R) (U := U) (L := (0, lo)) (C := C) (H := H) (p := p) (fun h40 => ck 5 h40 43 <| (f_X6_putAt h40 43 (nI t)).bind fun (h42, v43) => some (h42, v43)) (fun h => some (h, -3)) m1 ha hRa hw m2 (by omega) l1 lm5 p3 (fun n B hB => by
            obtain ⟨c1, c2, c3⟩ := (hB a ha).2 hRa
            rw [L_X6_rows_48, if_neg (nI_ge (by omega) (by omega)), e_gR43_9, Option.bind_some, e_a51 (by omega), Option.bind_some, e_gR43_1, Option.bind_some, e_a45 (by omega), Option.bind_some, c1]
            show (if lo p < nI (tR a) then _ else _) = _
            rw [(lm5 p p1).2, if_neg (nI_nlt (by omega) (by have := (lm5 p p1).1; omega))])
          exact S2.mk (r := -3) (E (rc, cc, kc, vs) (sl, d) (nu, dn, va_up nl nu 0, it) T R (th, hi, wi, kp, va) U (ml, lo) C H) (E (rc, cc, kc, vs) (sl, d) (nu, dn, va_up nl nu 0, it) T R B2 U (0, lo) C H) ex isE_E (e3.trans e4) (OK.mk hK hw m3 hr0)
