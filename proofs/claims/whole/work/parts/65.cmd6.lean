theorem cnt_imp {p q : Nat → Bool} {n : Nat} (h : ∀ i, i < n → p i = true → q i = true) : cnt p n ≤ cnt q n := by
  induction n with
  | zero => exact Nat.le_refl _
  | succ n ih =>
    have := ih (fun i hi => h i (by omega))
    simp only [cnt]
    by_cases e : p n = true
    · rw [if_pos e, if_pos (h n (by omega) e)]; omega
    · rw [if_neg e]; split <;> omega
theorem cmd_count {h : HP} (o : OK h) (x1 x2 : Int32) : SR h (fun h => f_X5_count h 0 x1 x2) (fun h => f_X6_count h 43 x1 x2) := by
  obtain ⟨G, S, N, T, R, B, U, L, C, H, g, tR, tC, tk, tv, nT, qr, qc, qv, nL, ql, rfl, hK, hw, hM, hr⟩ := o
  obtain ⟨⟨t1, t2, t3, -⟩, ⟨l1, l2, l3, l4, l5⟩, -⟩ := hr
  have hN : N.1 = 15 ∨ N.1 = 17 := by rcases l2 with h | h; exact Or.inl h.1; exact Or.inr h.1
  unfold SR f_X5_count f_X6_count
  simp only [e_ck0, e_ck43, kt_gridAt hK hw, md_isTable hM, Option.bind_some]
  cases h1 : tix tR x1 with
  | none => exact ⟨-1, rfl, by rw [if_pos bN]⟩
  | some a =>
    obtain ⟨ha, rfl, hRa⟩ := tix_some h1
    obtain ⟨w1, w2⟩ := hw a ha
    obtain ⟨w3, w4, w5, w6, w7⟩ := w2 hRa
    obtain ⟨s1, s2, s3, s4, s5⟩ := hK.1 a ha
    obtain ⟨s6, s7⟩ := s5 hRa
    obtain ⟨b1, b2, b3⟩ := (hM a ha).2 hRa
    rw [if_neg bS, Option.map_some, om_s]
    by_cases q0 : x2 = 0
    · rw [if_pos q0, if_pos q0, e_gIrc s2, Option.bind_some, s4, e_gR43_1, Option.bind_some, e_a45 (by omega), Option.bind_some, b1]
      exact ⟨_, rfl, rfl⟩
    · rw [if_neg q0, if_neg q0]
      by_cases q1 : x2 = 1
      · rw [if_pos q1, if_pos q1, e_gIcc s2, Option.bind_some, s6, e_gR43_2, Option.bind_some, e_a46 (by omega), Option.bind_some, b2]
        exact ⟨_, rfl, rfl⟩
      · rw [if_neg q1, if_neg q1]
        by_cases q2 : x2 = 2
        · rw [if_pos q2, if_pos q2, e_ckG s2, g_count s2 s7, Option.bind_some, md_many b3 (by omega), Option.bind_some, ahead256]
          exact ⟨_, rfl, rfl⟩
        · rw [if_neg q2, if_neg q2]
          by_cases q3 : x2 = 3
          · rw [if_pos q3, if_pos q3, e_ckG s2, g_zeros s2 s7, Option.bind_some]
            refine ⟨_, rfl, ?_⟩
            have key := pz_lpfo (fun n s i => L_X6_count_77 (E G S N T R B U L C H) 43 (nI a) n (fun x5 => some x5) s i) (some (nI (cnt (kf (zk (tk a) (tv a))) 256))) (256 * a) 256 (fun i => nI (cnt (kf (zk (tk a) (tv a))) i))
              (fun n => by rw [L_X6_count_77, m256b, if_pos (Int32.le_refl _)])
              (fun n i hi => by
                rw [L_X6_count_77, m256b, if_neg (nI_ge (by omega) (by omega)), e_gR43_3, Option.bind_some, e_a47 (by omega), Option.bind_some, (b3.at hi).1, nI_1, Int32.add_zero, nI_1]
                by_cases q : kf (tk a) i = true
                · rw [q, if_neg (by decide), e_gR43_4, Option.bind_some, e_a48 (by omega), Option.bind_some, (b3.at hi).2]
                  by_cases z : tv a (i / 16) (i % 16) = 0
                  · rw [if_pos (lg_eq.2 z), cnt_step, if_pos (by have q' : tk a (i / 16) (i % 16) = true := q; simp [kf, zk, q', z])]
                  · rw [if_neg (fun z' => z (lg_eq.1 z')), cnt_step, if_neg (by simp [kf, zk, z])]; rfl
                · have q' : kf (tk a) i = false := by simpa using q
                  have q'' : tk a (i / 16) (i % 16) = false := q'
                  have q2 : ¬ kf (zk (tk a) (tv a)) i = true := by simp [kf, zk, q'']
                  rw [q', if_pos (by decide), cnt_step, if_neg q2]; rfl) FU (pz_FU (by decide))
            rw [m256, ← ahead256]
            exact key
          · rw [if_neg q3, if_neg q3]
            by_cases q4 : x2 = 4
            · rw [if_pos q4, if_pos q4, e_gR0_1, Option.bind_some, e_gI2_0, Option.bind_some, t2, e_gI43_5, Option.bind_some, t3]
              exact ⟨_, rfl, rfl⟩
            · rw [if_neg q4, if_neg q4]
              by_cases q5 : x2 = 5
              · rw [if_pos q5, if_pos q5, e_gR0_4, Option.bind_some, e_gIN hN, Option.bind_some, l3, e_gI43_8, Option.bind_some, l4]
                exact ⟨_, rfl, rfl⟩
              · rw [if_neg q5, if_neg q5]
                exact ⟨_, rfl, rfl⟩
theorem sumJ_zero {f : Nat → Int64} {n : Nat} (h : ∀ i, i < n → f i = 0) : sumJ f n = 0 := sumJ_more (m := 0) (by omega) (fun i _ hi => h i hi)
theorem md_sumL {G : TG} {S : TS} {N : TN} {T : TT} {R : TR} {B : TB} {U : TU} {L : TL} {C : TC} {H : TH} {a : Nat} {b : Bool} {x3 : Int32} {f : Nat → Int64} (ht : f_X6_isTable (E G S N T R B U L C H) 43 (nI a) = some 1) (hf : ∀ i, i < 16 → (if b = true then f_X6_holds (E G S N T R B U L C H) 43 (nI a) x3 (nI i) else f_X6_holds (E G S N T R B U L C H) 43 (nI a) (nI i) x3) = some (f i)) : f_X6_sum (E G S N T R B U L C H) 43 (nI a) (bI b) x3 = some (sumJ f 16) := by
  have key := pz_lpf (fun n s i => L_X6_sum_6 (E G S N T R B U L C H) 43 (nI a) (bI b) x3 n (fun x13 => some x13) s i) (some (sumJ f 16)) 16 (fun i => sumJ f i)
    (fun n => by rw [L_X6_sum_6, if_pos ex16])
    (fun n i hi => by
      rw [L_X6_sum_6, if_neg (ge16 hi), e_ck43, ht, Option.bind_some, if_neg one_ne]
      have := hf i hi
      cases b with
      | true => rw [if_neg (by decide), e_ck43]; rw [if_pos rfl] at this; rw [this, Option.bind_some, nI_1]; rfl
      | false => rw [if_pos (by decide), e_ck43]; rw [if_neg (by decide)] at this; rw [this, Option.bind_some, nI_1]; rfl) 16 0 FU (by omega) (pz_FU (by decide))
  exact key
theorem cmd_sum {h : HP} (o : OK h) (x1 : Int32) (b : Bool) (x3 : Int32) : SR h (fun h => f_X5_sum h 0 x1 (bI b) x3) (fun h => f_X6_sum h 43 x1 (bI b) x3) := by
  obtain ⟨G, S, N, T, R, B, U, L, C, H, g, tR, tC, tk, tv, nT, qr, qc, qv, nL, ql, rfl, hK, hw, hM, hr⟩ := o
  show ∃ r, f_X5_sum (E G S N T R B U L C H) 0 x1 (bI b) x3 = some r ∧ f_X6_sum (E G S N T R B U L C H) 43 x1 (bI b) x3 = some r
  cases h1 : tix tR x1 with
  | none =>
    refine ⟨0, ?_, ?_⟩
    · unfold f_X5_sum
      rw [e_ck0, kt_gridAt hK hw, h1, Option.bind_some]; rfl
    · unfold f_X6_sum
      rw [show FU = 5999 + 1 from FU_eq, L_X6_sum_6, if_neg (by decide), e_ck43, md_isTable hM, h1, Option.bind_some, if_pos bN]
  | some a =>
    obtain ⟨ha, rfl, hRa⟩ := tix_some h1
    obtain ⟨w1, w2⟩ := hw a ha
    obtain ⟨w3, w4, w5, w6, w7⟩ := w2 hRa
    obtain ⟨s1, s2, s3, s4, s5⟩ := hK.1 a ha
    obtain ⟨s6, s7⟩ := s5 hRa
    obtain ⟨b1, b2, b3⟩ := (hM a ha).2 hRa
    have ht : f_X6_isTable (E G S N T R B U L C H) 43 (nI a) = some 1 := by rw [md_isTable hM, h1]; rfl
    cases b with
    | true =>
      rw [md_sumL (b := true) (f := fun i => vx (tv a) (tR a) (tC a) x3 (nI i)) ht (fun i hi => by rw [if_pos rfl]; exact md_holdsx b3 (by omega) b1 b2 w1 w4 w6 _ _)]
      refine ⟨_, ?_, rfl⟩
      unfold f_X5_sum
      rw [e_ck0, kt_gridAt hK hw, h1, Option.bind_some, Option.map_some, om_s, if_neg (show ¬ bI true = 0 by decide), e_gIrc s2, Option.bind_some, s4, if_neg (show ¬ bI true = 0 by decide)]
      by_cases q0 : x3 < 0
      · rw [if_pos q0, sumJ_zero (fun i hi => by unfold vx ix; rw [if_pos (Or.inl q0)]; rfl)]
      · rw [if_neg q0]
        by_cases q1 : x3 < nI (tR a)
        · obtain ⟨j, hj0, rfl⟩ := nI_of q0
          have hj : j < tR a := (nI_ltI (by omega) (by omega)).1 q1
          rw [if_pos q1, e_ckG s2, g_rowSum s2 s7 (by omega), Option.bind_some]
          have es : sumJ (fun x => tv a j x) 16 = sumJ (fun i => vx (tv a) (tR a) (tC a) (nI j) (nI i)) 16 := by
            refine sumJ_congr (fun i hi => ?_)
            unfold vx
            rw [ix_nI (by omega) hj]
            by_cases z : i < tC a
            · rw [ix_nI (by omega) z]; rfl
            · rw [hw.v0 ha hRa (by omega) hi (by omega)]
              unfold ix
              rw [if_pos (Or.inr (nI_le (by omega) (by omega)))]; rfl
          rw [es]
        · rw [if_neg q1, sumJ_zero (fun i hi => by unfold vx ix; rw [if_pos (Or.inr (Int32.not_lt.mp q1))]; rfl)]
    | false =>
      rw [md_sumL (b := false) (f := fun i => vx (tv a) (tR a) (tC a) (nI i) x3) ht (fun i hi => by rw [if_neg (by decide)]; exact md_holdsx b3 (by omega) b1 b2 w1 w4 w6 _ _)]
      refine ⟨_, ?_, rfl⟩
      unfold f_X5_sum
      rw [e_ck0, kt_gridAt hK hw, h1, Option.bind_some, Option.map_some, om_s, if_pos (show bI false = 0 by decide), e_gIcc s2, Option.bind_some, s6, if_pos (show bI false = 0 by decide)]
      have vz : ∀ i, ix (tC a) x3 = none → vx (tv a) (tR a) (tC a) (nI i) x3 = 0 := by
        intro i z
        unfold vx
        rw [z]
        cases ix (tR a) (nI i) <;> rfl
      by_cases q0 : x3 < 0
      · rw [if_pos q0, sumJ_zero (fun i hi => vz i (by unfold ix; rw [if_pos (Or.inl q0)]))]
      · rw [if_neg q0]
        by_cases q1 : x3 < nI (tC a)
        · obtain ⟨j, hj0, rfl⟩ := nI_of q0
          have hj : j < tC a := (nI_ltI (by omega) (by omega)).1 q1
          rw [if_pos q1, e_ckG s2, g_colSum s2 s7 (by omega), Option.bind_some]
          have es : sumJ (fun x => tv a x j) 16 = sumJ (fun i => vx (tv a) (tR a) (tC a) (nI i) (nI j)) 16 := by
            refine sumJ_congr (fun i hi => ?_)
            unfold vx
            rw [ix_nI (by omega) hj]
            by_cases z : i < tR a
            · rw [ix_nI (by omega) z]; rfl
            · rw [hw.v0 ha hRa hi (by omega) (by omega)]
              unfold ix
              rw [if_pos (Or.inr (nI_le (by omega) (by omega)))]; rfl
          rw [es]
        · rw [if_neg q1, sumJ_zero (fun i hi => vz i (by unfold ix; rw [if_pos (Or.inr (Int32.not_lt.mp q1))]))]
