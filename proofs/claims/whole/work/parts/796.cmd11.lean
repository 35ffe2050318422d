/-! cost, cell, cheapest -/
theorem md_cost {G : TG} {S : TS} {N : TN} {T : TT} {R : TR} {B : TB} {U : TU} {L : TL} {C : TC} {H : TH} {g tR tC : Nat → Nat} {tk : Nat → Nat → Nat → Bool} {tv : Nat → Nat → Nat → Int64} {a m n len : Nat} {x : Int32} {W : Nat → Int64} (ha : tix tR (nI a) = some a) (hM : MG B tR tC tk tv) (hf : f_X6_isForm (nI m) x = some 1) (q : Fm a (nI m) x len W S N T R U L H g tR tC tk tv) : ∃ C', f_X6_cost (E G S N T R B U L C H) 43 (nI a) (nI m) x = some (E G S N T R B U L C' H, nI len) := by
  obtain ⟨q1, q2, q3, q4⟩ := q
  obtain ⟨C', l, e2⟩ := q4 G B C hM
  refine ⟨C', ?_⟩
  unfold f_X6_cost
  rw [e_ck43, md_isTable hM, ha, Option.bind_some, if_neg bS, hf, Option.bind_some, if_neg one_ne, e_ck43, e2, Option.bind_some, e_gI43_11, Option.bind_some, l.1]
theorem cmd_cost {h : HP} (o : OK h) (x1 x2 x3 : Int32) : S2 h (fun h => f_X5_cost h 0 x1 x2 x3) (fun h => f_X6_cost h 43 x1 x2 x3) := by
  have oo := o
  obtain ⟨G, S, N, T, R, B, U, L, C, H, g, tR, tC, tk, tv, nT, qr, qc, qv, nL, ql, rfl, hK, hw, hM, hr⟩ := o
  cases h1 : tix tR x1 with
  | none =>
    refine S2.same (r := -1) oo ?_ ?_
    · show f_X5_cost _ 0 x1 x2 x3 = _
      unfold f_X5_cost
      rw [e_ck0, kt_gridAt hK hw, h1, Option.bind_some]; rfl
    · show f_X6_cost _ 43 x1 x2 x3 = _
      unfold f_X6_cost
      rw [e_ck43, md_isTable hM, h1, Option.bind_some, if_pos bN]
  | some a =>
    obtain ⟨ha, rfl, hRa⟩ := tix_some h1
    obtain ⟨w1, w2⟩ := hw a ha
    obtain ⟨w3, w4, w5, w6, w7⟩ := w2 hRa
    obtain ⟨s1, s2, s3, s4, s5⟩ := hK.1 a ha
    obtain ⟨s6, s7⟩ := s5 hRa
    obtain ⟨b1, b2, b3⟩ := (hM a ha).2 hRa
    rcases c_isForm x2 x3 with ⟨m, n, m1, rfl, m2, m3, m4⟩ | ⟨m3, m4⟩
    · obtain ⟨len, W, q⟩ := forms (S := S) (N := N) (T := T) (R := R) (U := U) (L := L) (H := H) (g := g) ha hRa hw m1 m2
      obtain ⟨G', hK', e1⟩ := q.2.1 G B C hK
      obtain ⟨C', e2⟩ := md_cost (G := G') (C := C) (n := 0) h1 hM m4 q
      refine S2.mk (r := nI len) (E G' S N T R B U L C H) (E G' S N T R B U L C' H) ?_ isE_E e2 (OK.mk hK' hw hM hr)
      show f_X5_cost _ 0 (nI a) (nI m) x3 = _
      unfold f_X5_cost
      rw [e_ck0, kt_gridAt hK hw, h1, Option.bind_some, Option.map_some, om_s, m3, Option.bind_some, if_neg one_ne, e_gR0_3, Option.bind_some, e1, Option.bind_some]
    · refine S2.same (r := -2) oo ?_ ?_
      · show f_X5_cost _ 0 (nI a) x2 x3 = _
        unfold f_X5_cost
        rw [e_ck0, kt_gridAt hK hw, h1, Option.bind_some, Option.map_some, om_s, m3, Option.bind_some, if_pos rfl]
      · show f_X6_cost _ 43 (nI a) x2 x3 = _
        unfold f_X6_cost
        rw [e_ck43, md_isTable hM, h1, Option.bind_some, if_neg bS, m4, Option.bind_some, if_pos rfl]
theorem cmd_cell {h : HP} (o : OK h) (x1 x2 x3 x4 : Int32) : S2 h (fun h => f_X5_cell h 0 x1 x2 x3 x4) (fun h => f_X6_cell h 43 x1 x2 x3 x4) := by
  have oo := o
  obtain ⟨G, S, N, T, R, B, U, L, C, H, g, tR, tC, tk, tv, nT, qr, qc, qv, nL, ql, rfl, hK, hw, hM, hr⟩ := o
  cases h1 : tix tR x1 with
  | none =>
    refine S2.same (r := 0) oo ?_ ?_
    · show f_X5_cell _ 0 x1 x2 x3 x4 = _
      unfold f_X5_cell
      rw [e_ck0, kt_gridAt hK hw, h1, Option.bind_some]; rfl
    · show f_X6_cell _ 43 x1 x2 x3 x4 = _
      unfold f_X6_cell
      rw [e_ck43, md_isTable hM, h1, Option.bind_some, if_pos bN]
  | some a =>
    obtain ⟨ha, rfl, hRa⟩ := tix_some h1
    obtain ⟨w1, w2⟩ := hw a ha
    obtain ⟨w3, w4, w5, w6, w7⟩ := w2 hRa
    obtain ⟨s1, s2, s3, s4, s5⟩ := hK.1 a ha
    obtain ⟨s6, s7⟩ := s5 hRa
    obtain ⟨b1, b2, b3⟩ := (hM a ha).2 hRa
    rcases c_isForm x2 x3 with ⟨m, n, m1, rfl, m2, m3, m4⟩ | ⟨m3, m4⟩
    · obtain ⟨len, W, q1, q2, q3, q4⟩ := forms (S := S) (N := N) (T := T) (R := R) (U := U) (L := L) (H := H) (g := g) ha hRa hw m1 m2
      by_cases z : x4 < 0
      · obtain ⟨C', l, e2⟩ := q4 G B C hM
        refine S2.mk (r := 0) (E G S N T R B U L C H) (E G S N T R B U L C' H) ?_ isE_E ?_ (OK.mk hK hw hM hr)
        · show f_X5_cell _ 0 (nI a) (nI m) x3 x4 = _
          unfold f_X5_cell
          rw [e_ck0, kt_gridAt hK hw, h1, Option.bind_some, Option.map_some, om_s, m3, Option.bind_some, if_neg one_ne, if_pos z]
        · show f_X6_cell _ 43 (nI a) (nI m) x3 x4 = _
          unfold f_X6_cell
          rw [e_ck43, md_isTable hM, h1, Option.bind_some, if_neg bS, m4, Option.bind_some, if_neg one_ne, e_ck43, e2, Option.bind_some, if_pos z]
      · obtain ⟨j, hj, rfl⟩ := nI_of z
        obtain ⟨G', hK', e1⟩ := q2 G B C hK
        by_cases zz : j < len
        · obtain ⟨G2, hK2, e3⟩ := q3 G' B C j hK' zz
          obtain ⟨C', l, e2⟩ := q4 G2 B C hM
          refine S2.mk (r := W j) (E G2 S N T R B U L C H) (E G2 S N T R B U L C' H) ?_ isE_E ?_ (OK.mk hK2 hw hM hr)
          · show f_X5_cell _ 0 (nI a) (nI m) x3 (nI j) = _
            unfold f_X5_cell
            rw [e_ck0, kt_gridAt hK hw, h1, Option.bind_some, Option.map_some, om_s, m3, Option.bind_some, if_neg one_ne, if_neg z, e_gR0_3, Option.bind_some, e1, Option.bind_some]
            show (if nI j < nI len then _ else _) = _
            rw [if_pos (nI_lt zz (by omega)), e_gR0_3, Option.bind_some, e3, Option.bind_some]
          · show f_X6_cell _ 43 (nI a) (nI m) x3 (nI j) = _
            unfold f_X6_cell
            rw [e_ck43, md_isTable hM, h1, Option.bind_some, if_neg bS, m4, Option.bind_some, if_neg one_ne, e_ck43, e2, Option.bind_some, if_neg z, e_gI43_11, Option.bind_some, l.1, if_pos (nI_lt zz (by omega)), e_gR43_10, Option.bind_some, e_a52 (by omega), Option.bind_some, l.2 j zz]
        · obtain ⟨C', l, e2⟩ := q4 G' B C hM
          refine S2.mk (r := 0) (E G' S N T R B U L C H) (E G' S N T R B U L C' H) ?_ isE_E ?_ (OK.mk hK' hw hM hr)
          · show f_X5_cell _ 0 (nI a) (nI m) x3 (nI j) = _
            unfold f_X5_cell
            rw [e_ck0, kt_gridAt hK hw, h1, Option.bind_some, Option.map_some, om_s, m3, Option.bind_some, if_neg one_ne, if_neg z, e_gR0_3, Option.bind_some, e1, Option.bind_some]
            show (if nI j < nI len then _ else _) = _
            rw [if_neg (nI_nlt (by omega) hj)]
          · show f_X6_cell _ 43 (nI a) (nI m) x3 (nI j) = _
            unfold f_X6_cell
            rw [e_ck43, md_isTable hM, h1, Option.bind_some, if_neg bS, m4, Option.bind_some, if_neg one_ne, e_ck43, e2, Option.bind_some, if_neg z, e_gI43_11, Option.bind_some, l.1, if_neg (nI_nlt (by omega) hj)]
    · refine S2.same (r := 0) oo ?_ ?_
      · show f_X5_cell _ 0 (nI a) x2 x3 x4 = _
        unfold f_X5_cell
        rw [e_ck0, kt_gridAt hK hw, h1, Option.bind_some, Option.map_some, om_s, m3, Option.bind_some, if_pos rfl]
      · show f_X6_cell _ 43 (nI a) x2 x3 x4 = _
        unfold f_X6_cell
        rw [e_ck43, md_isTable hM, h1, Option.bind_some, if_neg bS, m4, Option.bind_some, if_pos rfl]
/-- the first form of the fewest cells among 0..j -/
def chp (ln : Nat → Nat) : Nat → Nat
  | 0 => 0
  | j + 1 => if ln (chp ln j) ≤ ln (j + 1) then chp ln j else j + 1
theorem chp_le (ln : Nat → Nat) : ∀ j, chp ln j ≤ j := by
  intro j
  induction j with
  | zero => exact Nat.le_refl _
  | succ j ih => rw [chp]; split <;> omega
theorem nle_nI {a b : Nat} (h : ¬ a ≤ b) (ha : a < 2 ^ 31) : ¬ nI a ≤ nI b := nI_ge (by omega) ha
theorem isForm_of {m n : Nat} (hm : m ≤ 5) (h1 : 1 ≤ n) (h4 : n ≤ 4) : f_X6_isForm (nI m) (nI n) = some 1 := by
  rcases (show m = 0 ∨ m = 1 ∨ m = 2 ∨ m = 3 ∨ m = 4 ∨ m = 5 by omega) with rfl | rfl | rfl | rfl | rfl | rfl <;>
  rcases (show n = 1 ∨ n = 2 ∨ n = 3 ∨ n = 4 by omega) with rfl | rfl | rfl | rfl <;> decide
theorem c_isSide (b : Int32) : (∃ n, 1 ≤ n ∧ n ≤ 4 ∧ b = nI n ∧ f_X0_isBlockSide b = some 1 ∧ f_X6_isForm 3 b = some 1) ∨ (f_X0_isBlockSide b = some 0 ∧ f_X6_isForm 3 b = some 0) := by
  unfold f_X0_isBlockSide f_X6_isForm
  rw [if_neg (show ¬ (3 : Int32) < 0 by decide), if_neg (show ¬ (5 : Int32) < 3 by decide), if_pos (show (3 : Int32) = 3 from rfl)]
  by_cases q4 : b < 1
  · right; rw [if_pos q4]; exact ⟨rfl, rfl⟩
  · rw [if_neg q4]
    by_cases q5 : 4 < b
    · right; rw [if_pos q5]; exact ⟨rfl, rfl⟩
    · left
      rw [if_neg q5]
      have h0 : ¬ b < 0 := fun z => q4 (Int32.lt_trans z (by decide))
      obtain ⟨j, hj, rfl⟩ := nI_of h0
      have h1 : ¬ j < 1 := fun z => q4 (nI_lt z (by decide))
      have h3 : ¬ 4 < j := fun z => q5 (nI_lt z hj)
      exact ⟨j, by omega, by omega, rfl, rfl, rfl⟩
theorem lt5 : ∀ i, i < 6 → ¬ (5 : Int32) < nI i := by decide
theorem cmd_cheapest {h : HP} (o : OK h) (x1 x2 : Int32) : S2 h (fun h => f_X5_cheapest h 0 x1 x2) (fun h => f_X6_cheapest h 43 x1 x2) := by
  have oo := o
  obtain ⟨G, S, N, T, R, B, U, L, C, H, g, tR, tC, tk, tv, nT, qr, qc, qv, nL, ql, rfl, hK, hw, hM, hr⟩ := o
  cases h1 : tix tR x1 with
  | none =>
    refine S2.same (r := -1) oo ?_ ?_
    · show f_X5_cheapest _ 0 x1 x2 = _
      unfold f_X5_cheapest
      rw [e_ck0, kt_gridAt hK hw, h1, Option.bind_some]; rfl
    · show f_X6_cheapest _ 43 x1 x2 = _
      unfold f_X6_cheapest
      rw [e_ck43, md_isTable hM, h1, Option.bind_some, if_pos bN]
  | some a =>
    obtain ⟨ha, rfl, hRa⟩ := tix_some h1
    obtain ⟨w1, w2⟩ := hw a ha
    obtain ⟨w3, w4, w5, w6, w7⟩ := w2 hRa
    obtain ⟨s1, s2, s3, s4, s5⟩ := hK.1 a ha
    obtain ⟨s6, s7⟩ := s5 hRa
    obtain ⟨b1, b2, b3⟩ := (hM a ha).2 hRa
    rcases c_isSide x2 with ⟨n, n1, n2, rfl, m3, m4⟩ | ⟨m3, m4⟩
    · obtain ⟨ln, hln⟩ := Classical.axiomOfChoice (r := fun (m len : Nat) => m ≤ 5 → ∃ W, Fm a (nI m) (nI n) len W S N T R U L H g tR tC tk tv) (fun m => by
        by_cases z : m ≤ 5
        · obtain ⟨len, W, q⟩ := forms (S := S) (N := N) (T := T) (R := R) (U := U) (L := L) (H := H) (g := g) ha hRa hw z (x := nI n) (fun _ => ⟨n1, n2, rfl⟩)
          exact ⟨len, fun _ => ⟨W, q⟩⟩
        · exact ⟨0, fun y => absurd y z⟩)
      have bd : ∀ m, m ≤ 5 → ln m ≤ 2000 := fun m hm => by obtain ⟨W, q⟩ := hln m hm; exact q.1
      obtain ⟨W, q⟩ := hln 0 (by omega)
      obtain ⟨G1, hK1, e1⟩ := q.2.1 G B C hK
      obtain ⟨⟨s1', s2', s3'⟩, ⟨G2, rfl, rfl, rfl, hK2⟩, e2⟩ := pz_lp (σ := HP × Int32 × Int32) (fun n' s i => L_X5_cheapest_41 0 (nI n) (g a) n' (fun h18 x19 => some (h18, x19)) s.1 s.2.1 s.2.2 i) (fun s => some (s.1, s.2.1)) 6
        (fun i s => ∃ G2, s.1 = E G2 S N T R B U L C H ∧ s.2.1 = nI (chp ln (i - 1)) ∧ s.2.2 = nI (ln (chp ln (i - 1))) ∧ KG G2 S g tR tC tk tv)
        (fun m s hI => by
          show L_X5_cheapest_41 0 (nI n) (g a) (m + 1) _ s.1 s.2.1 s.2.2 (nI 6) = _
          rw [L_X5_cheapest_41, if_pos (by decide)])
        (fun m i s hi hI => by
          obtain ⟨u1, u2, u3⟩ := s
          obtain ⟨G2, rfl, rfl, rfl, hK2⟩ := hI
          obtain ⟨W, q⟩ := hln i (by omega)
          obtain ⟨G3, hK3, e3⟩ := q.2.1 G2 B C hK2
          have c1 := chp_le ln (i - 1)
          have c2 := bd (chp ln (i - 1)) (by omega)
          have c3 := bd i (by omega)
          have e4 : L_X5_cheapest_41 0 (nI n) (g a) (m + 1) (fun h18 x19 => some (h18, x19)) (E G2 S N T R B U L C H) (nI (chp ln (i - 1))) (nI (ln (chp ln (i - 1)))) (nI i) = if ln (chp ln (i - 1)) ≤ ln i then L_X5_cheapest_41 0 (nI n) (g a) m (fun h18 x19 => some (h18, x19)) (E G3 S N T R B U L C H) (nI (chp ln (i - 1))) (nI (ln (chp ln (i - 1)))) (nI (i + 1)) else L_X5_cheapest_41 0 (nI n) (g a) m (fun h18 x19 => some (h18, x19)) (E G3 S N T R B U L C H) (nI i) (nI (ln i)) (nI (i + 1)) := by
            rw [L_X5_cheapest_41, if_neg (lt5 i hi), e_gR0_3, Option.bind_some, e3, Option.bind_some, nI_1]
            show (if nI (ln (chp ln (i - 1))) ≤ nI (ln i) then _ else _) = _
            by_cases z : ln (chp ln (i - 1)) ≤ ln i
            · rw [if_pos z, if_pos (nI_le z (by omega))]
            · rw [if_neg z, if_neg (nle_nI z (by omega))]
          refine ⟨(_, _, _), ⟨G3, rfl, rfl, rfl, hK3⟩, ?_⟩
          show L_X5_cheapest_41 0 (nI n) (g a) (m + 1) (fun h18 x19 => some (h18, x19)) (E G2 S N T R B U L C H) (nI (chp ln (i - 1))) (nI (ln (chp ln (i - 1)))) (nI i) = L_X5_cheapest_41 0 (nI n) (g a) m (fun h18 x19 => some (h18, x19)) (E G3 S N T R B U L C H) (nI (chp ln i)) (nI (ln (chp ln i))) (nI (i + 1))
          rw [e4]
          by_cases i0 : i = 0
          · subst i0
            by_cases z : ln (chp ln (0 - 1)) ≤ ln 0
            · rw [if_pos z]
            · exact absurd (Nat.le_refl _) z
          · obtain ⟨j, rfl⟩ : ∃ j, i = j + 1 := ⟨i - 1, by omega⟩
            rw [show j + 1 - 1 = j from rfl, chp]
            by_cases z : ln (chp ln j) ≤ ln (j + 1)
            · rw [if_pos z, if_pos z]
            · rw [if_neg z, if_neg z])
        5 1 FU (E G1 S N T R B U L C H, 0, nI (ln 0)) rfl (pz_FU (by decide)) ⟨G1, rfl, rfl, rfl, hK1⟩
      obtain ⟨⟨t1', t2'⟩, ⟨C2, rfl, rfl⟩, e5⟩ := pz_lp (σ := HP × Int32) (fun n' s i => L_X6_cheapest_26 43 (nI a) (nI n) n' (fun h18 x19 => some (h18, x19)) s.1 s.2 i) (fun s => some (s.1, s.2)) 6
        (fun i s => ∃ C2, s.1 = E G2 S N T R B U L C2 H ∧ s.2 = nI (chp ln (i - 1)))
        (fun m s hI => by
          show L_X6_cheapest_26 43 (nI a) (nI n) (m + 1) _ s.1 s.2 (nI 6) = _
          rw [L_X6_cheapest_26, if_pos (by decide)])
        (fun m i s hi hI => by
          obtain ⟨u1, u2⟩ := s
          obtain ⟨C2, rfl, rfl⟩ := hI
          have c1 := chp_le ln (i - 1)
          have c2 := bd (chp ln (i - 1)) (by omega)
          have c3 := bd i (by omega)
          obtain ⟨W, q⟩ := hln i (by omega)
          obtain ⟨W', q'⟩ := hln (chp ln (i - 1)) (by omega)
          obtain ⟨C3, e3⟩ := md_cost (G := G2) (C := C2) (n := 0) h1 hM (isForm_of (show i ≤ 5 by omega) n1 n2) q
          obtain ⟨C4, e4⟩ := md_cost (G := G2) (C := C3) (n := 0) h1 hM (isForm_of (show chp ln (i - 1) ≤ 5 by omega) n1 n2) q'
          have e6 : L_X6_cheapest_26 43 (nI a) (nI n) (m + 1) (fun h18 x19 => some (h18, x19)) (E G2 S N T R B U L C2 H) (nI (chp ln (i - 1))) (nI i) = if ln (chp ln (i - 1)) ≤ ln i then L_X6_cheapest_26 43 (nI a) (nI n) m (fun h18 x19 => some (h18, x19)) (E G2 S N T R B U L C4 H) (nI (chp ln (i - 1))) (nI (i + 1)) else L_X6_cheapest_26 43 (nI a) (nI n) m (fun h18 x19 => some (h18, x19)) (E G2 S N T R B U L C4 H) (nI i) (nI (i + 1)) := by
            rw [L_X6_cheapest_26, if_neg (lt5 i hi), e_ck43, e3, Option.bind_some, nI_1]
            show (ck 5 (E G2 S N T R B U L C3 H) 43 <| (f_X6_cost (E G2 S N T R B U L C3 H) 43 (nI a) (nI (chp ln (i - 1))) (nI n)).bind _) = _
            rw [e_ck43, e4, Option.bind_some]
            show (if nI (ln (chp ln (i - 1))) ≤ nI (ln i) then _ else _) = _
            by_cases z : ln (chp ln (i - 1)) ≤ ln i
            · rw [if_pos z, if_pos (nI_le z (by omega))]
            · rw [if_neg z, if_neg (nle_nI z (by omega))]
          refine ⟨(_, _), ⟨C4, rfl, rfl⟩, ?_⟩
          show L_X6_cheapest_26 43 (nI a) (nI n) (m + 1) (fun h18 x19 => some (h18, x19)) (E G2 S N T R B U L C2 H) (nI (chp ln (i - 1))) (nI i) = L_X6_cheapest_26 43 (nI a) (nI n) m (fun h18 x19 => some (h18, x19)) (E G2 S N T R B U L C4 H) (nI (chp ln i)) (nI (i + 1))
          rw [e6]
          by_cases i0 : i = 0
          · subst i0
            by_cases z : ln (chp ln (0 - 1)) ≤ ln 0
            · rw [if_pos z]
            · exact absurd (Nat.le_refl _) z
          · obtain ⟨j, rfl⟩ : ∃ j, i = j + 1 := ⟨i - 1, by omega⟩
            rw [show j + 1 - 1 = j from rfl, chp]
            by_cases z : ln (chp ln j) ≤ ln (j + 1)
            · rw [if_pos z, if_pos z]
            · rw [if_neg z, if_neg z])
        5 1 FU (E G2 S N T R B U L C H, 0) rfl (pz_FU (by decide)) ⟨C, rfl, rfl⟩
      refine S2.mk (r := nI (chp ln 5)) (E G2 S N T R B U L C H) (E G2 S N T R B U L C2 H) ?_ isE_E ?_ (OK.mk hK2 hw hM hr)
      · show f_X5_cheapest _ 0 (nI a) (nI n) = _
        unfold f_X5_cheapest
        rw [e_ck0, kt_gridAt hK hw, h1, Option.bind_some, Option.map_some, om_s, m3, Option.bind_some, if_neg one_ne, e_gR0_3, Option.bind_some, show (0 : Int32) = nI 0 from rfl, e1, Option.bind_some]
        exact e2
      · show f_X6_cheapest _ 43 (nI a) (nI n) = _
        unfold f_X6_cheapest
        rw [e_ck43, md_isTable hM, h1, Option.bind_some, if_neg bS, m4, Option.bind_some, if_neg one_ne]
        exact e5
    · refine S2.same (r := -2) oo ?_ ?_
      · show f_X5_cheapest _ 0 (nI a) x2 = _
        unfold f_X5_cheapest
        rw [e_ck0, kt_gridAt hK hw, h1, Option.bind_some, Option.map_some, om_s, m3, Option.bind_some, if_pos rfl]
      · show f_X6_cheapest _ 43 (nI a) x2 = _
        unfold f_X6_cheapest
        rw [e_ck43, md_isTable hM, h1, Option.bind_some, if_neg bS, m4, Option.bind_some, if_pos rfl]
