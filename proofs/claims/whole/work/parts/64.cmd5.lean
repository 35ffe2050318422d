/-! the small calls: what reads alone, and what writes one place -/
def SR {ρ : Type} (h : HP) (fx fm : HP → Option ρ) : Prop := ∃ r, fx h = some r ∧ fm h = some r
def SW {ρ : Type} (h : HP) (fx : HP → Option (HP × ρ)) (fm : HP → Option ρ) : Prop := ∃ h1 r, fx h = some (h1, r) ∧ OK h1 ∧ fm h1 = some r
theorem g_hasRow {G : TG} {S : TS} {N : TN} {T : TT} {R : TR} {B : TB} {U : TU} {L : TL} {C : TC} {H : TH} {a R0 : Nat} (ha : isG a = true) (h1 : G.1 a = nI R0) (x : Int32) : f_X2_hasRow (E G S N T R B U L C H) a x = some (bI (ix R0 x).isSome) := by
  unfold f_X2_hasRow ix
  by_cases q1 : x < 0
  · rw [if_pos q1, if_pos (Or.inl q1)]; rfl
  · rw [if_neg q1, e_gIrc ha, Option.bind_some, h1]
    by_cases q2 : nI R0 ≤ x
    · rw [if_pos q2, if_pos (Or.inr q2)]; rfl
    · rw [if_neg q2, if_neg (show ¬ (x < 0 ∨ nI R0 ≤ x) by rintro (h | h); exact q1 h; exact q2 h)]; rfl
theorem g_covers {G : TG} {S : TS} {N : TN} {T : TT} {R : TR} {B : TB} {U : TU} {L : TL} {C : TC} {H : TH} {a R0 C0 : Nat} (ha : isG a = true) (h1 : G.1 a = nI R0) (h2 : G.2.1 a = nI C0) (x y : Int32) : f_X2_covers (E G S N T R B U L C H) a x y = some (bI ((ix R0 x).isSome && (ix C0 y).isSome)) := by
  unfold f_X2_covers
  rw [e_ckG ha, g_hasRow ha h1, Option.bind_some]
  cases h3 : (ix R0 x).isSome with
  | false => rfl
  | true =>
    rw [if_neg (by decide), Bool.true_and]
    unfold ix
    by_cases q1 : y < 0
    · rw [if_pos q1, if_pos (Or.inl q1)]; rfl
    · rw [if_neg q1, e_gIcc ha, Option.bind_some, h2]
      by_cases q2 : nI C0 ≤ y
      · rw [if_pos q2, if_pos (Or.inr q2)]; rfl
      · rw [if_neg q2, if_neg (show ¬ (y < 0 ∨ nI C0 ≤ y) by rintro (h | h); exact q1 h; exact q2 h)]; rfl
def vx (v : Nat → Nat → Int64) (R0 C0 : Nat) (x y : Int32) : Int64 := ((ix R0 x).bind fun r => (ix C0 y).map fun c => v r c).getD 0
theorem md_holdsx {G : TG} {S : TS} {N : TN} {T : TT} {R : TR} {B : TB} {U : TU} {L : TL} {C : TC} {H : TH} {t R0 C0 : Nat} {k : Nat → Nat → Bool} {v : Nat → Nat → Int64} (hm : MC B.2.2.2.1 B.2.2.2.2 t k v) (ht : t ≤ 8) (h1 : B.2.1 t = nI R0) (h2 : B.2.2.1 t = nI C0) (hR : R0 ≤ 16) (hC : C0 ≤ 16) (hz : ∀ r c, r < 16 → c < 16 → k r c = false → v r c = 0) (x y : Int32) : f_X6_holds (E G S N T R B U L C H) 43 (nI t) x y = some (vx v R0 C0 x y) := by
  unfold f_X6_holds vx
  rw [e_ck43, md_isIn ht h1 h2, Option.bind_some]
  cases e1 : ix R0 x with
  | none => rfl
  | some r =>
    cases e2 : ix C0 y with
    | none => rfl
    | some c =>
      obtain ⟨hr, rfl⟩ := ix_some (by omega) e1
      obtain ⟨hc, rfl⟩ := ix_some (by omega) e2
      show (if (1 : Int32) = 0 then _ else _) = some (v r c)
      rw [if_neg one_ne, e_ck43, md_has hm ht (by omega) (by omega), Option.bind_some]
      by_cases q2 : k r c = true
      · rw [q2, if_neg (by decide), e_gR43_4, Option.bind_some, md_cell, Option.bind_some, e_a48 (by omega), Option.bind_some, (hm r c (by omega) (by omega)).2]
      · have q2' : k r c = false := by simpa using q2
        rw [q2', if_pos (by decide), hz r c (by omega) (by omega) q2']
theorem g_valuex {G : TG} {S : TS} {N : TN} {T : TT} {R : TR} {B : TB} {U : TU} {L : TL} {C : TC} {H : TH} {a : Nat} {k : Nat → Nat → Bool} {v : Nat → Nat → Int64} (ha : isG a = true) (hg : GC (G.2.2.1 a) (G.2.2.2 a) k v) (x y : Int32) : f_X2_value (E G S N T R B U L C H) a x y = some (vx v 16 16 x y) := by
  unfold vx
  cases e1 : ix 16 x with
  | none =>
    unfold f_X2_value
    rw [pz_lineNo (ix_none e1), Option.bind_some, if_pos rfl]; rfl
  | some r =>
    obtain ⟨hr, rfl⟩ := ix_some (by decide) e1
    cases e2 : ix 16 y with
    | none =>
      unfold f_X2_value
      rw [pz_line hr, Option.bind_some, if_neg one_ne, pz_lineNo (ix_none e2), Option.bind_some, if_pos rfl]; rfl
    | some c =>
      obtain ⟨hc, rfl⟩ := ix_some (by decide) e2
      exact g_value ha hg hr hc
theorem cmd_at {h : HP} (o : OK h) (x1 x2 x3 : Int32) : SR h (fun h => f_X5_at h 0 x1 x2 x3) (fun h => f_X6_at h 43 x1 x2 x3) := by
  obtain ⟨G, S, N, T, R, B, U, L, C, H, g, tR, tC, tk, tv, nT, qr, qc, qv, nL, ql, rfl, hK, hw, hM, hr⟩ := o
  unfold SR f_X5_at f_X6_at
  simp only [e_ck0, e_ck43, kt_gridAt hK hw, md_isTable hM, Option.bind_some]
  cases h1 : tix tR x1 with
  | none => exact ⟨0, rfl, by rw [if_pos bN]⟩
  | some a =>
    obtain ⟨ha, rfl, hRa⟩ := tix_some h1
    obtain ⟨w1, w2⟩ := hw a ha
    obtain ⟨w3, w4, w5, w6, w7⟩ := w2 hRa
    obtain ⟨s1, s2, s3, s4, s5⟩ := hK.1 a ha
    obtain ⟨s6, s7⟩ := s5 hRa
    obtain ⟨b1, b2, b3⟩ := (hM a ha).2 hRa
    rw [if_neg bS, Option.map_some, om_s, e_ckG s2, g_covers s2 s4 s6, Option.bind_some, md_holdsx b3 (by omega) b1 b2 w1 w4 w6, Option.bind_some]
    unfold vx
    cases e1 : ix (tR a) x2 with
    | none => exact ⟨0, rfl, rfl⟩
    | some r =>
      obtain ⟨hr', rfl⟩ := ix_some (by omega) e1
      cases e2 : ix (tC a) x3 with
      | none => exact ⟨0, rfl, rfl⟩
      | some c =>
        obtain ⟨hc', rfl⟩ := ix_some (by omega) e2
        refine ⟨tv a r c, ?_, rfl⟩
        show (if (1 : Int32) = 0 then _ else _) = some (tv a r c)
        rw [if_neg one_ne, e_ckG s2, g_value s2 s7 (by omega) (by omega), Option.bind_some]
theorem cmd_kept {h : HP} (o : OK h) (x1 x2 x3 : Int32) : SR h (fun h => f_X5_kept h 0 x1 x2 x3) (fun h => f_X6_kept h 43 x1 x2 x3) := by
  obtain ⟨G, S, N, T, R, B, U, L, C, H, g, tR, tC, tk, tv, nT, qr, qc, qv, nL, ql, rfl, hK, hw, hM, hr⟩ := o
  unfold SR f_X5_kept f_X6_kept
  simp only [e_ck0, e_ck43, kt_gridAt hK hw, md_isTable hM, Option.bind_some]
  cases h1 : tix tR x1 with
  | none => exact ⟨-1, rfl, by rw [if_pos bN]⟩
  | some a =>
    obtain ⟨ha, rfl, hRa⟩ := tix_some h1
    obtain ⟨w1, w2⟩ := hw a ha
    obtain ⟨w3, w4, w5, w6, w7⟩ := w2 hRa
    obtain ⟨s1, s2, s3, s4, s5⟩ := hK.1 a ha
    obtain ⟨s6, s7⟩ := s5 hRa
    obtain ⟨b1, b2, b3⟩ := (hM a ha).2 hRa
    rw [if_neg bS, Option.map_some, om_s, e_ckG s2, g_covers s2 s4 s6, Option.bind_some, md_isIn (by omega) b1 b2, Option.bind_some]
    cases e1 : ix (tR a) x2 with
    | none => exact ⟨-2, rfl, rfl⟩
    | some r =>
      obtain ⟨hr', rfl⟩ := ix_some (by omega) e1
      cases e2 : ix (tC a) x3 with
      | none => exact ⟨-2, rfl, rfl⟩
      | some c =>
        obtain ⟨hc', rfl⟩ := ix_some (by omega) e2
        have hr2 : r < 16 := by omega
        have hc2 : c < 16 := by omega
        have e3 : bI ((some r : Option Nat).isSome && (some c : Option Nat).isSome) = 1 := rfl
        rw [e3, if_neg one_ne, if_neg one_ne, e_ckG s2, g_keeps s2 s7 hr2 hc2, Option.bind_some, md_has b3 (by omega) hr2 hc2, Option.bind_some]
        cases q : tk a r c with
        | false => exact ⟨-3, rfl, rfl⟩
        | true =>
          rw [if_neg (by decide), if_neg (by decide), e_ckG s2, g_order s2 s7 hr2 hc2, Option.bind_some]
          refine ⟨_, rfl, ?_⟩
          have key := pz_lpfo (fun n s i => L_X6_kept_46 (E G S N T R B U L C H) 43 (nI a) (nI r) (nI c) n (fun x5 => some x5) s i) (some (nI (cnt (kf (tk a)) (16 * r + c)))) (256 * a) (16 * r + c) (fun i => nI (cnt (kf (tk a)) i))
            (fun n => by rw [L_X6_kept_46, md_cell, Option.bind_some, if_pos (Int32.le_refl _)])
            (fun n i hi => by
              rw [L_X6_kept_46, md_cell, Option.bind_some, if_neg (nI_ge (by omega) (by omega)), e_gR43_3, Option.bind_some, e_a47 (by omega), Option.bind_some, (b3.at (by omega)).1, nI_1]
              by_cases q : kf (tk a) i = true
              · rw [q, if_neg (by decide), nI_1, cnt_step, if_pos q]
              · have q' : kf (tk a) i = false := by simpa using q
                rw [q', if_pos (by decide), show (0 : Int32) = nI 0 from rfl, nI_add, cnt_step, if_neg q]) FU (pz_FU (by omega))
          rw [m256]
          exact key
theorem cmd_place {h : HP} (o : OK h) (x1 x2 : Int32) : SR h (fun h => f_X5_place h 0 x1 x2) (fun h => f_X6_place h 43 x1 x2) := by
  obtain ⟨G, S, N, T, R, B, U, L, C, H, g, tR, tC, tk, tv, nT, qr, qc, qv, nL, ql, rfl, hK, hw, hM, hr⟩ := o
  unfold SR f_X5_place f_X6_place
  simp only [e_ck0, e_ck43, kt_gridAt hK hw, md_isTable hM, Option.bind_some]
  cases h1 : tix tR x1 with
  | none => exact ⟨-1, rfl, by rw [if_pos bN]⟩
  | some a =>
    obtain ⟨ha, rfl, hRa⟩ := tix_some h1
    obtain ⟨w1, w2⟩ := hw a ha
    obtain ⟨w3, w4, w5, w6, w7⟩ := w2 hRa
    obtain ⟨s1, s2, s3, s4, s5⟩ := hK.1 a ha
    obtain ⟨s6, s7⟩ := s5 hRa
    obtain ⟨b1, b2, b3⟩ := (hM a ha).2 hRa
    rw [if_neg bS, Option.map_some, om_s]
    by_cases q0 : x2 < 0
    · refine ⟨-2, by rw [if_pos q0], ?_⟩
      have : FU = 5999 + 1 := FU_eq
      rw [this, L_X6_place_15, if_neg (by decide), if_pos q0]
    · obtain ⟨K, hK1, rfl⟩ := nI_of q0
      rw [if_neg q0, e_ckG s2, g_count s2 s7, Option.bind_some]
      have hal := ahead_le (tk a) 16
      have stp : ∀ n i, i < 256 → cnt (kf (tk a)) (i + 1) ≤ K → L_X6_place_15 (E G S N T R B U L C H) 43 (nI a) (nI K) (n + 1) (some (-2)) (nI (K - cnt (kf (tk a)) i)) (nI i) = L_X6_place_15 (E G S N T R B U L C H) 43 (nI a) (nI K) n (some (-2)) (nI (K - cnt (kf (tk a)) (i + 1))) (nI (i + 1)) := by
        intro n i hi hc
        rw [L_X6_place_15, if_neg (ge256 hi), if_neg q0, e_gR43_3, Option.bind_some, m256, nI_add, e_a47 (by omega), Option.bind_some, (b3.at hi).1]
        by_cases q : kf (tk a) i = true
        · rw [cnt_step, if_pos q] at hc
          rw [q, if_neg (by decide), if_neg (nI_ne0 (by omega) (by omega)), cnt_step, if_pos q, nI_1, show K - cnt (kf (tk a)) i = (K - (cnt (kf (tk a)) i + 1)) + 1 by omega, pk_m1]
        · rw [show kf (tk a) i = false by simpa using q, if_pos (by decide), cnt_step, if_neg q, nI_1]; rfl
      by_cases q1 : K < ahead (tk a) 16
      · rw [if_pos (nI_lt q1 (by omega)), e_ckG s2]
        rw [← ahead256] at q1
        obtain ⟨p, p1, p2, p3⟩ := sel_ex q1
        have := g_place s2 s7 (N := N) (T := T) (R := R) (B := B) (U := U) (L := L) (C := C) (H := H) (S := S) p1 p2
        rw [p3] at this
        rw [this, Option.bind_some]
        refine ⟨_, rfl, ?_⟩
        have key := pz_lpf (fun n s i => L_X6_place_15 (E G S N T R B U L C H) 43 (nI a) (nI K) n (some (-2)) s i) (some (nI p)) p (fun i => nI (K - cnt (kf (tk a)) i))
          (fun n => by
            show L_X6_place_15 _ 43 (nI a) (nI K) (n + 1) _ (nI (K - cnt (kf (tk a)) p)) _ = _
            rw [L_X6_place_15, if_neg (ge256 p1), if_neg q0, e_gR43_3, Option.bind_some, m256, nI_add, e_a47 (by omega), Option.bind_some, (b3.at p1).1, p2, if_neg (by decide), p3, Nat.sub_self, if_pos nI_0])
          (fun n i hi => stp n i (by omega) (by rw [← p3]; exact cnt_mono _ hi)) p 0 FU (by omega) (pz_FU (by omega))
        exact key
      · rw [if_neg (nI_nlt (by omega) (by omega))]
        refine ⟨-2, rfl, ?_⟩
        have key := pz_lpf (fun n s i => L_X6_place_15 (E G S N T R B U L C H) 43 (nI a) (nI K) n (some (-2)) s i) (some (-2)) 256 (fun i => nI (K - cnt (kf (tk a)) i))
          (fun n => by rw [L_X6_place_15, if_pos ex256])
          (fun n i hi => stp n i hi (Nat.le_trans (cnt_mono (kf (tk a)) (j := 256) hi) (by rw [ahead256]; omega))) 256 0 FU (by omega) (pz_FU (by omega))
        exact key
theorem cmd_listed {h : HP} (o : OK h) (x1 : Int32) : SR h (fun h => f_X5_listed h 0 x1) (fun h => f_X6_listed h 43 x1) := by
  obtain ⟨G, S, N, T, R, B, U, L, C, H, g, tR, tC, tk, tv, nT, qr, qc, qv, nL, ql, rfl, hK, hw, hM, hr⟩ := o
  obtain ⟨-, ⟨l1, l2, l3, l4, l5⟩, -⟩ := hr
  have hN : N.1 = 15 ∨ N.1 = 17 := by rcases l2 with h | h; exact Or.inl h.1; exact Or.inr h.1
  unfold SR f_X5_listed f_X6_listed
  by_cases q0 : x1 < 0
  · exact ⟨-2, by simp only [if_pos q0], by simp only [if_pos q0]⟩
  · simp only [if_neg q0, e_gR0_4, Option.bind_some, e_gIN hN, l3, e_gI43_8, l4]
    by_cases q1 : x1 < nI nL
    · obtain ⟨j, hj0, rfl⟩ := nI_of q0
      have hj : j < nL := (nI_ltI (by omega) (by omega)).1 q1
      obtain ⟨a1, a2, a3⟩ := l5 j hj
      refine ⟨nI (ql j), ?_, ?_⟩
      · rw [if_pos q1, e_ckN hN]
        unfold f_X3_item
        rw [pz_line (by omega), Option.bind_some, if_neg one_ne, e_gRN hN, Option.bind_some, e_aN hN (by omega), Option.bind_some, a2]; rfl
      · rw [if_pos q1, e_gR43_9, Option.bind_some, e_a51 (by omega), Option.bind_some, a3]
    · exact ⟨-2, by rw [if_neg q1], by rw [if_neg q1]⟩
