/-! what changes one table where it lies -/
theorem KG.at {rc cc : Nat → Int32} {kc : Nat → Nat → Int32} {vs : Nat → Nat → Int64} {S : TS} {g tR tC : Nat → Nat} {tk : Nat → Nat → Nat → Bool} {tv : Nat → Nat → Nat → Int64} (hK : KG (rc, cc, kc, vs) S g tR tC tk tv) {a : Nat} (ha : a < 8) {kA : Nat → Int32} {vA : Nat → Int64} {k : Nat → Nat → Bool} {v : Nat → Nat → Int64} (hg : GC kA vA k v) : KG (rc, cc, va_up kc (g a) kA, va_up vs (g a) vA) S g tR tC (va_up tk a k) (va_up tv a v) := by
  refine ⟨fun t ht => ?_, hK.2⟩
  obtain ⟨h1, h2, h3, h4, h5⟩ := hK.1 t ht
  refine ⟨h1, h2, h3, h4, fun q => ⟨(h5 q).1, ?_⟩⟩
  show GC (va_up kc (g a) kA (g t)) (va_up vs (g a) vA (g t)) _ _
  by_cases e : t = a
  · subst e
    rw [va_up_self, va_up_self, va_up_self, va_up_self]; exact hg
  · have e2 : g t ≠ g a := fun z => e (hK.2.2 t a ht ha z)
    have e4 : va_up tk a k t = tk t := va_up_ne _ _ e
    have e5 : va_up tv a v t = tv t := va_up_ne _ _ e
    rw [va_up_ne _ _ e2, va_up_ne _ _ e2, e4, e5]; exact (h5 q).2
theorem MG.at {th hi wi kp : Nat → Int32} {va : Nat → Int64} {tR tC : Nat → Nat} {tk : Nat → Nat → Nat → Bool} {tv : Nat → Nat → Nat → Int64} (hM : MG (th, hi, wi, kp, va) tR tC tk tv) {a : Nat} {kp' : Nat → Int32} {va' : Nat → Int64} {k : Nat → Nat → Bool} {v : Nat → Nat → Int64} (ha : a < 8) (h1 : ∀ p, (p < 256 * a ∨ 256 * a + 256 ≤ p) → kp' p = kp p ∧ va' p = va p) (h2 : MC kp' va' a k v) : MG (th, hi, wi, kp', va') tR tC (va_up tk a k) (va_up tv a v) := by
  intro t ht
  obtain ⟨a1, a2⟩ := hM t ht
  refine ⟨a1, fun q => ?_⟩
  obtain ⟨b1, b2, b3⟩ := a2 q
  refine ⟨b1, b2, ?_⟩
  by_cases e : t = a
  · subst e; rw [va_up_self, va_up_self]; exact h2
  · have e4 : va_up tk a k t = tk t := va_up_ne _ _ e
    have e5 : va_up tv a v t = tv t := va_up_ne _ _ e
    rw [e4, e5]
    intro r c hr hc
    obtain ⟨d1, d2⟩ := h1 (256 * t + (16 * r + c)) (by omega)
    obtain ⟨c1, c2⟩ := b3 r c hr hc
    exact ⟨d1.trans c1, d2.trans c2⟩
theorem WFt.at {tR tC : Nat → Nat} {tk : Nat → Nat → Nat → Bool} {tv : Nat → Nat → Nat → Int64} (hw : WFt tR tC tk tv) {t : Nat} {k : Nat → Nat → Bool} {v : Nat → Nat → Int64} (hk : ∀ r c, r < 16 → c < 16 → k r c = true → tk t r c = true) (hz : ∀ r c, r < 16 → c < 16 → k r c = false → v r c = 0) : WFt tR tC (va_up tk t k) (va_up tv t v) := by
  intro t' ht'
  by_cases e : t' = t
  · subst e
    rw [va_up_self, va_up_self]
    obtain ⟨w1, w2⟩ := hw t' ht'
    refine ⟨w1, fun q => ?_⟩
    obtain ⟨w3, w4, w5, w6, w7⟩ := w2 q
    refine ⟨w3, w4, fun r c hr hc z => w5 r c hr hc (hk r c hr hc z), hz, Nat.le_trans ?_ w7⟩
    rw [← ahead256, ← ahead256]
    exact cnt_imp (fun i hi z => hk (i / 16) (i % 16) (by omega) (by omega) z)
  · have e4 : va_up tk t k t' = tk t' := va_up_ne _ _ e
    have e5 : va_up tv t v t' = tv t' := va_up_ne _ _ e
    rw [e4, e5]; exact hw t' ht'
theorem cmd_set {h : HP} (o : OK h) (x1 x2 x3 : Int32) (x4 : Int64) : S2 h (fun h => f_X5_set h 0 x1 x2 x3 x4) (fun h => f_X6_set h 43 x1 x2 x3 x4) := by
  have oo := o
  obtain ⟨⟨rc, cc, kc, vs⟩, S, N, T, R, B, U, L, C, H, g, tR, tC, tk, tv, nT, qr, qc, qv, nL, ql, rfl, hK, hw, hM, hr⟩ := o
  cases h1 : tix tR x1 with
  | none =>
    refine S2.same (r := -1) oo ?_ ?_
    · show f_X5_set _ 0 x1 x2 x3 x4 = _
      unfold f_X5_set
      rw [e_ck0, kt_gridAt hK hw, h1, Option.bind_some]; rfl
    · show f_X6_set _ 43 x1 x2 x3 x4 = _
      unfold f_X6_set
      rw [e_ck43, md_isTable hM, h1, Option.bind_some, if_pos bN]
  | some a =>
    obtain ⟨ha, rfl, hRa⟩ := tix_some h1
    obtain ⟨w1, w2⟩ := hw a ha
    obtain ⟨w3, w4, w5, w6, w7⟩ := w2 hRa
    obtain ⟨s1, s2, s3, s4, s5⟩ := hK.1 a ha
    obtain ⟨s6, s7⟩ := s5 hRa
    obtain ⟨b1, b2, b3⟩ := (hM a ha).2 hRa
    have ex : f_X5_set (E (rc, cc, kc, vs) S N T R B U L C H) 0 (nI a) x2 x3 x4 = if bI ((ix (tR a) x2).isSome && (ix (tC a) x3).isSome) = 0 then some (E (rc, cc, kc, vs) S N T R B U L C H, -2) else ck 1 (E (rc, cc, kc, vs) S N T R B U L C H) (g a) <| (f_X2_keeps (E (rc, cc, kc, vs) S N T R B U L C H) (g a) x2 x3).bind fun v10 => if v10 = 0 then some (E (rc, cc, kc, vs) S N T R B U L C H, -3) else ck 1 (E (rc, cc, kc, vs) S N T R B U L C H) (g a) <| (f_X2_put (E (rc, cc, kc, vs) S N T R B U L C H) (g a) x2 x3 x4).bind fun h14 => some (h14, 1) := by
      unfold f_X5_set
      rw [e_ck0, kt_gridAt hK hw, h1, Option.bind_some, Option.map_some, om_s, e_ckG s2, g_covers s2 s4 s6, Option.bind_some]
    have em : ∀ G', f_X6_set (E G' S N T R B U L C H) 43 (nI a) x2 x3 x4 = if bI ((ix (tR a) x2).isSome && (ix (tC a) x3).isSome) = 0 then some (E G' S N T R B U L C H, -2) else ck 5 (E G' S N T R B U L C H) 43 <| (f_X6_has (E G' S N T R B U L C H) 43 (nI a) x2 x3).bind fun v10 => if v10 = 0 then some (E G' S N T R B U L C H, -3) else (gR 5 (E G' S N T R B U L C H) 43 4).bind fun v13 => (f_X6_cellOf (nI a) x2 x3).bind fun v14 => (sJ (E G' S N T R B U L C H) v13 v14 x4).bind fun h16 => some (h16, 1) := by
      intro G'
      unfold f_X6_set
      rw [e_ck43, md_isTable hM, h1, Option.bind_some, if_neg bS, e_ck43, md_isIn (by omega) b1 b2, Option.bind_some]
    cases e1 : ix (tR a) x2 with
    | none => exact S2.same (r := -2) oo (ex.trans (by rw [e1]; rfl)) ((em _).trans (by rw [e1]; rfl))
    | some r =>
      obtain ⟨hr', rfl⟩ := ix_some (by omega) e1
      cases e2 : ix (tC a) x3 with
      | none => exact S2.same (r := -2) oo (ex.trans (by rw [e1, e2]; rfl)) ((em _).trans (by rw [e1, e2]; rfl))
      | some c =>
        obtain ⟨hc', rfl⟩ := ix_some (by omega) e2
        have hr2 : r < 16 := by omega
        have hc2 : c < 16 := by omega
        have e3 : bI ((some r : Option Nat).isSome && (some c : Option Nat).isSome) = 1 := rfl
        rw [e1, e2, e3, if_neg one_ne, e_ckG s2, g_keeps s2 s7 hr2 hc2, Option.bind_some, e_ckG s2] at ex
        have em' : ∀ G', f_X6_set (E G' S N T R B U L C H) 43 (nI a) (nI r) (nI c) x4 = if bI (tk a r c) = 0 then some (E G' S N T R B U L C H, -3) else (sJ (E G' S N T R B U L C H) 48 (nI (256 * a + (16 * r + c))) x4).bind fun h16 => some (h16, 1) := by
          intro G'
          rw [em, e1, e2, e3, if_neg one_ne, e_ck43, md_has b3 (by omega) hr2 hc2, Option.bind_some, e_gR43_4, Option.bind_some, md_cell, Option.bind_some]
        cases q : tk a r c with
        | false => exact S2.same (r := -3) oo (ex.trans (by rw [q]; rfl)) ((em' _).trans (by rw [q]; rfl))
        | true =>
          obtain ⟨th, hi, wi, kp, va⟩ := B
          have e5 := g_put (rc := rc) (cc := cc) (kc := kc) (vs := vs) (S := S) (N := N) (T := T) (R := R) (B := (th, hi, wi, kp, va)) (U := U) (L := L) (C := C) (H := H) (kA := kc (g a)) (vA := vs (g a)) s2 hr2 hc2 x4
          rw [upeta, upeta] at e5
          have s7' : GC (kc (g a)) (vs (g a)) (tk a) (tv a) := s7
          have g1 := (s7'.put hr2 hc2 x4).congr (k' := tk a) (v' := v2 (tv a) r c x4) (fun r' c' _ _ => by
            by_cases e : r' = r ∧ c' = c
            · obtain ⟨rfl, rfl⟩ := e; simp [k2, q]
            · simp [k2, e]) (fun _ _ _ _ => rfl)
          have b3' : MC kp va a (tk a) (tv a) := b3
          refine S2.mk (r := 1) (E (rc, cc, va_up kc (g a) (upd (kc (g a)) r (kc (g a) r ||| (1 <<< (nI c &&& 31)))), va_up vs (g a) (vp_updL (vs (g a)) (16 * r + c) x4)) S N T R (th, hi, wi, kp, va) U L C H) (E (rc, cc, va_up kc (g a) (upd (kc (g a)) r (kc (g a) r ||| (1 <<< (nI c &&& 31)))), va_up vs (g a) (vp_updL (vs (g a)) (16 * r + c) x4)) S N T R (th, hi, wi, kp, vp_updL va (256 * a + (16 * r + c)) x4) U L C H) ?_ isE_E ?_ (OK.mk (hK.at ha g1) (hw.at (t := a) (fun _ _ _ _ z => z) (fun r' c' hr' hc' z => ?_)) (hM.at ha (fun p hp => ⟨rfl, pk_uLn (by omega)⟩) (fun r' c' hr' hc' => ⟨(b3' r' c' hr' hc').1, ?_⟩)) hr)
          · refine ex.trans ?_
            rw [q, if_neg (by decide), e5, Option.bind_some]
          · refine (em' _).trans ?_
            rw [q, if_neg (by decide), e_s48 (by omega), Option.bind_some]
          · by_cases e : r' = r ∧ c' = c
            · obtain ⟨rfl, rfl⟩ := e; rw [q] at z; cases z
            · simp only [v2, if_neg e]; exact w6 r' c' hr' hc' z
          · by_cases e : r' = r ∧ c' = c
            · obtain ⟨rfl, rfl⟩ := e
              rw [pk_uLs]; simp [v2]
            · rw [pk_uLn (fun z => e ⟨by omega, by omega⟩)]; simp only [v2, if_neg e]; exact (b3' r' c' hr' hc').2
theorem cmd_prune {h : HP} (o : OK h) (x1 : Int32) : S2 h (fun h => f_X5_prune h 0 x1) (fun h => f_X6_prune h 43 x1) := by
  have oo := o
  obtain ⟨⟨rc, cc, kc, vs⟩, S, N, T, R, B, U, L, C, H, g, tR, tC, tk, tv, nT, qr, qc, qv, nL, ql, rfl, hK, hw, hM, hr⟩ := o
  cases h1 : tix tR x1 with
  | none =>
    refine S2.same (r := -1) oo ?_ ?_
    · show f_X5_prune _ 0 x1 = _
      unfold f_X5_prune
      rw [e_ck0, kt_gridAt hK hw, h1, Option.bind_some]; rfl
    · show f_X6_prune _ 43 x1 = _
      unfold f_X6_prune
      rw [e_ck43, md_isTable hM, h1, Option.bind_some, if_pos bN]
  | some a =>
    obtain ⟨ha, rfl, hRa⟩ := tix_some h1
    obtain ⟨w1, w2⟩ := hw a ha
    obtain ⟨w3, w4, w5, w6, w7⟩ := w2 hRa
    obtain ⟨s1, s2, s3, s4, s5⟩ := hK.1 a ha
    obtain ⟨s6, s7⟩ := s5 hRa
    obtain ⟨b1, b2, b3⟩ := (hM a ha).2 hRa
    obtain ⟨kA, vA, e1, gA⟩ := g_dropZeros (rc := rc) (cc := cc) (kc := kc) (vs := vs) (S := S) (N := N) (T := T) (R := R) (B := B) (U := U) (L := L) (C := C) (H := H) s2 s7
    obtain ⟨th, hi, wi, kp, va⟩ := B
    have b3' : MC kp va a (tk a) (tv a) := b3
    obtain ⟨⟨s1', s2'⟩, ⟨kp', e, ec, f1, f2⟩, e2⟩ := pz_lpo (σ := HP × Int32) (fun n s i => L_X6_prune_18 43 (nI a) n (fun h14 x15 => some (h14, x15)) s.1 s.2 i) (fun s => some (s.1, s.2)) (256 * a) 256
      (fun i s => ∃ kp', s.1 = (E (rc, cc, va_up kc (g a) kA, va_up vs (g a) vA) S N T R (th, hi, wi, kp', va) U L C H) ∧ s.2 = nI (cnt (kf (zk (tk a) (tv a))) i) ∧ (∀ p, (p < 256 * a ∨ 256 * a + i ≤ p) → kp' p = kp p) ∧ ∀ p, p < i → kp' (256 * a + p) = bI (kf (tk a) p && !(tv a (p / 16) (p % 16) == 0)))
      (fun n s _ => by rw [L_X6_prune_18, m256b, if_pos (Int32.le_refl _)])
      (fun n i s hi' hI => by
        obtain ⟨h0, x0⟩ := s
        obtain ⟨kp', rfl, rfl, f1, f2⟩ := hI
        have ek : kp' (256 * a + i) = bI (kf (tk a) i) := (f1 _ (Or.inr (Nat.le_refl _))).trans (b3'.at hi').1
        have ev : va (256 * a + i) = tv a (i / 16) (i % 16) := (b3'.at hi').2
        have st : ∀ (kp2 : Nat → Int32) b, (∀ p, p ≠ 256 * a + i → kp2 p = kp' p) → kp2 (256 * a + i) = bI b → b = (kf (tk a) i && !(tv a (i / 16) (i % 16) == 0)) → (∀ p, (p < 256 * a ∨ 256 * a + (i + 1) ≤ p) → kp2 p = kp p) ∧ ∀ p, p < i + 1 → kp2 (256 * a + p) = bI (kf (tk a) p && !(tv a (p / 16) (p % 16) == 0)) := by
          intro kp2 b z1 z2 z3
          refine ⟨fun p hp => by rw [z1 p (by omega)]; exact f1 p (by omega), fun p hp => ?_⟩
          by_cases e : p = i
          · subst e; rw [z2, z3]
          · rw [z1 _ (by omega)]; exact f2 p (by omega)
        simp only []
        rw [L_X6_prune_18, m256b, if_neg (nI_ge (by omega) (by omega)), e_gR43_3, Option.bind_some, e_a47 (by omega), Option.bind_some]
        simp only []
        by_cases q : kf (tk a) i = true
        · rw [if_neg (show ¬ kp' (256 * a + i) = 0 by rw [ek, q]; decide), e_gR43_4, Option.bind_some, e_a48 (by omega), Option.bind_some, Option.bind_some]
          simp only []
          have q' : tk a (i / 16) (i % 16) = true := q
          by_cases z : tv a (i / 16) (i % 16) = 0
          · rw [if_pos (show lg_cmp (va (256 * a + i)) 0 = 0 by rw [ev]; exact lg_eq.2 z), e_s47 (by omega), Option.bind_some, nI_1, nI_1]
            refine ⟨(_, _), ⟨upd kp' (256 * a + i) 0, rfl, ?_, st _ false (fun p hp => pk_un hp) pk_us (by simp [z])⟩, rfl⟩
            show nI (cnt (kf (zk (tk a) (tv a))) i + 1) = _
            rw [cnt_step, if_pos (by simp [kf, zk, q', z])]
          · rw [if_neg (show ¬ lg_cmp (va (256 * a + i)) 0 = 0 by rw [ev]; exact fun z' => z (lg_eq.1 z')), nI_1]
            refine ⟨(_, _), ⟨kp', rfl, ?_, st _ true (fun p hp => rfl) (by rw [ek, q]) (by simp [q, z])⟩, rfl⟩
            show nI (cnt (kf (zk (tk a) (tv a))) i) = _
            rw [cnt_step, if_neg (by simp [kf, zk, z])]; rfl
        · have qf : kf (tk a) i = false := by simpa using q
          have q' : tk a (i / 16) (i % 16) = false := qf
          rw [if_pos (show kp' (256 * a + i) = 0 by rw [ek, qf]; rfl), nI_1]
          refine ⟨(_, _), ⟨kp', rfl, ?_, st _ false (fun p hp => rfl) (by rw [ek, qf]) (by simp [qf])⟩, rfl⟩
          show nI (cnt (kf (zk (tk a) (tv a))) i) = _
          rw [cnt_step, if_neg (by simp [kf, zk, q'])]; rfl)
      256 0 FU ((E (rc, cc, va_up kc (g a) kA, va_up vs (g a) vA) S N T R (th, hi, wi, kp, va) U L C H), 0) rfl (pz_FU (by decide)) ⟨kp, rfl, rfl, fun p _ => rfl, fun p hp => absurd hp (by omega)⟩
    simp only [] at e ec
    subst e; subst ec
    refine S2.mk (r := nI (ahead (zk (tk a) (tv a)) 16)) (E (rc, cc, va_up kc (g a) kA, va_up vs (g a) vA) S N T R (th, hi, wi, kp, va) U L C H) (E (rc, cc, va_up kc (g a) kA, va_up vs (g a) vA) S N T R (th, hi, wi, kp', va) U L C H) ?_ isE_E ?_ (OK.mk (hK.at ha gA) (hw.at (t := a) (fun r c _ _ z => by cases q : tk a r c; simp [q] at z; rfl) (fun r c hr hc z => ?_)) (hM.at ha (fun p hp => ⟨f1 p (by omega), rfl⟩) (fun r c hr hc => ⟨?_, (b3' r c hr hc).2⟩)) hr)
    · show f_X5_prune _ 0 (nI a) = _
      unfold f_X5_prune
      rw [e_ck0, kt_gridAt hK hw, h1, Option.bind_some, Option.map_some, om_s, e_ckG s2, e1]; rfl
    · show f_X6_prune _ 43 (nI a) = _
      unfold f_X6_prune
      rw [e_ck43, md_isTable hM, h1, Option.bind_some, if_neg bS, m256]
      refine e2.trans ?_
      rw [ahead256]
    · cases q : tk a r c with
      | false => exact w6 r c hr hc q
      | true => simpa [q] using z
    · rw [f2 _ (by omega), kf_at hc, show (16 * r + c) / 16 = r by omega, show (16 * r + c) % 16 = c by omega]
