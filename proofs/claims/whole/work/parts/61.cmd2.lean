theorem kt_size {G : TG} {S : TS} {N : TN} {T : TT} {R : TR} {B : TB} {U : TU} {L : TL} {C : TC} {H : TH} {p q R1 C1 R2 C2 : Nat} (hp : isG p = true) (hq : isG q = true) (h1 : G.1 p = nI R1) (h2 : G.2.1 p = nI C1) (h3 : G.1 q = nI R2) (h4 : G.2.1 q = nI C2) (l1 : R1 ≤ 16) (l2 : C1 ≤ 16) (l3 : R2 ≤ 16) (l4 : C2 ≤ 16) : f_X2_hasSizeOf (E G S N T R B U L C H) p q = some (bI (decide (R1 = R2 ∧ C1 = C2))) := by
  unfold f_X2_hasSizeOf
  rw [e_gIrc hp, Option.bind_some, e_gIrc hq, Option.bind_some, h1, h3]
  by_cases q1 : R1 = R2
  · rw [if_pos (by rw [q1]), e_gIcc hp, Option.bind_some, e_gIcc hq, Option.bind_some, h2, h4]
    by_cases q2 : C1 = C2
    · rw [if_pos (by rw [q2])]; simp [q1, q2, bI]
    · rw [if_neg (fun z => q2 ((nI_eq (by omega) (by omega)).mp z))]; simp [q2, bI]
  · rw [if_neg (fun z => q1 ((nI_eq (by omega) (by omega)).mp z))]; simp [q1, bI]
theorem md_like {G : TG} {S : TS} {N : TN} {T : TT} {R : TR} {B : TB} {U : TU} {L : TL} {C : TC} {H : TH} {a b R1 C1 R2 C2 : Nat} (ha : a < 8) (hb : b < 8) (h1 : B.2.1 a = nI R1) (h2 : B.2.2.1 a = nI C1) (h3 : B.2.1 b = nI R2) (h4 : B.2.2.1 b = nI C2) (l1 : R1 ≤ 16) (l2 : C1 ≤ 16) (l3 : R2 ≤ 16) (l4 : C2 ≤ 16) : f_X6_areLike (E G S N T R B U L C H) 43 (nI a) (nI b) = some (bI (decide (R1 = R2 ∧ C1 = C2))) := by
  unfold f_X6_areLike
  rw [e_gR43_1, Option.bind_some, e_a45 (by omega), Option.bind_some, Option.bind_some, e_a45 (by omega), Option.bind_some, h1, h3]
  by_cases q1 : R1 = R2
  · rw [if_pos (by rw [q1]), e_gR43_2, Option.bind_some, e_a46 (by omega), Option.bind_some, Option.bind_some, e_a46 (by omega), Option.bind_some, h2, h4]
    by_cases q2 : C1 = C2
    · rw [if_pos (by rw [q2])]; simp [q1, q2, bI]
    · rw [if_neg (fun z => q2 ((nI_eq (by omega) (by omega)).mp z))]; simp [q2, bI]
  · rw [if_neg (fun z => q1 ((nI_eq (by omega) (by omega)).mp z))]; simp [q1, bI]
theorem bD {p : Prop} [Decidable p] (h : p) : ¬ bI (decide p) = 0 := by rw [decide_eq_true h]; decide
theorem bDn {p : Prop} [Decidable p] (h : ¬ p) : bI (decide p) = 0 := by rw [decide_eq_false h]; rfl
theorem cmd_each {h : HP} (o : OK h) (x1 x2 x3 : Int32) : S2 h (fun h => f_X5_each h 0 x1 x2 x3) (fun h => f_X6_each h 43 x1 x2 x3) := by
  have oo := o
  obtain ⟨⟨rc, cc, kc, vs⟩, ⟨sl, d⟩, N, T, R, B, U, L, C, H, g, tR, tC, tk, tv, nT, qr, qc, qv, nL, ql, rfl, hK, hw, hM, hr⟩ := o
  cases h1 : tix tR x1 with
  | none =>
    refine S2.same (r := -1) oo ?_ ?_
    · show f_X5_each _ 0 x1 x2 x3 = _
      unfold f_X5_each
      rw [e_ck0, kt_gridAt hK hw, h1, Option.bind_some, Option.map_none, om_n, e_ck0, kt_gridAt hK hw, Option.bind_some]
      cases tix tR x2 <;> rfl
    · show f_X6_each _ 43 x1 x2 x3 = _
      unfold f_X6_each
      rw [md_isNumber, Option.bind_some, e_ck43, md_isTable hM, h1, Option.bind_some, if_pos bN]
      split <;> rfl
  | some a =>
  cases h2 : tix tR x2 with
  | none =>
    refine S2.same (r := -1) oo ?_ ?_
    · show f_X5_each _ 0 x1 x2 x3 = _
      unfold f_X5_each
      rw [e_ck0, kt_gridAt hK hw, h1, Option.bind_some, Option.map_some, om_s, e_ck0, kt_gridAt hK hw, h2, Option.bind_some]
      rfl
    · show f_X6_each _ 43 x1 x2 x3 = _
      unfold f_X6_each
      rw [md_isNumber, Option.bind_some, e_ck43, md_isTable hM, h1, Option.bind_some, if_neg bS, e_ck43, md_isTable hM, h2, Option.bind_some, if_pos bN]
      split <;> rfl
  | some b =>
  obtain ⟨ha, rfl, hRa⟩ := tix_some h1
  obtain ⟨hb, rfl, hRb⟩ := tix_some h2
  cases h3 : ix 8 x3 with
  | none =>
    refine S2.same (r := -1) oo ?_ ?_
    · show f_X5_each _ 0 (nI a) (nI b) x3 = _
      unfold f_X5_each
      rw [e_ck0, kt_gridAt hK hw, h1, Option.bind_some, Option.map_some, om_s, e_ck0, kt_gridAt hK hw, h2, Option.bind_some, Option.map_some, om_s, kt_slot, h3, Option.bind_some, if_pos bN]
    · show f_X6_each _ 43 (nI a) (nI b) x3 = _
      unfold f_X6_each
      rw [md_isNumber, h3, Option.bind_some, if_pos bN]
  | some t =>
  obtain ⟨ht, rfl⟩ := ix_some (by decide) h3
  obtain ⟨w1, w2⟩ := hw a ha
  obtain ⟨w3, w4, w5, w6, w7⟩ := w2 hRa
  obtain ⟨y1, y2⟩ := hw b hb
  obtain ⟨y3, y4, y5, y6, y7⟩ := y2 hRb
  obtain ⟨s1, s2, s3, s4, s5⟩ := hK.1 a ha
  obtain ⟨s6, s7⟩ := s5 hRa
  obtain ⟨z1, z2, z3, z4, z5⟩ := hK.1 b hb
  obtain ⟨z6, z7⟩ := z5 hRb
  by_cases hs : tR a = tR b ∧ tC a = tC b
  rotate_left
  · refine S2.same (r := -3) oo ?_ ?_
    · show f_X5_each _ 0 (nI a) (nI b) (nI t) = _
      unfold f_X5_each
      rw [e_ck0, kt_gridAt hK hw, h1, Option.bind_some, Option.map_some, om_s, e_ck0, kt_gridAt hK hw, h2, Option.bind_some, Option.map_some, om_s, kt_slot, h3, Option.bind_some, if_neg bS, e_ckG s2, kt_size s2 z2 s4 s6 z4 z6 w1 w4 y1 y4, Option.bind_some, if_pos (bDn hs)]
    · show f_X6_each _ 43 (nI a) (nI b) (nI t) = _
      obtain ⟨b1, b2, b3⟩ := (hM a ha).2 hRa
      obtain ⟨d1, d2, d3⟩ := (hM b hb).2 hRb
      unfold f_X6_each
      rw [md_isNumber, h3, Option.bind_some, if_neg bS, e_ck43, md_isTable hM, h1, Option.bind_some, if_neg bS, e_ck43, md_isTable hM, h2, Option.bind_some, if_neg bS, e_ck43, md_like ha hb b1 b2 d1 d2 w1 w4 y1 y4, Option.bind_some, if_pos (bDn hs)]
  · have hin : ∀ r c, r < 16 → c < 16 → (tk a r c && tk b r c) = true → r < tR a ∧ c < tC a := by
      intro r c hr hc z
      rw [Bool.and_eq_true] at z; exact w5 r c hr hc z.1
    have hz0 : ∀ r c, r < 16 → c < 16 → (tk a r c && tk b r c) = false → (if (tk a r c && tk b r c) = true then tv a r c * tv b r c else 0) = 0 := by
      intro r c hr hc z
      rw [if_neg (by rw [z]; decide)]
    obtain ⟨kA, vA, e1, gA⟩ := g_each (a := d) (rc := rc) (cc := cc) (kc := kc) (vs := vs) (S := (sl, d)) (N := N) (T := T) (R := R) (B := B) (U := U) (L := L) (C := C) (H := H) hK.2.1 s2 z2 s3 z3 s7 z7
    rw [show cc (g a) = nI (tC a) from s6, show rc (g a) = nI (tR a) from s4] at e1
    refine tail2 (B := B) (C := C) (H := H) (R0 := tR a) (C0 := tC a) (k := fun r c => tk a r c && tk b r c) (v := fun r c => if (tk a r c && tk b r c) = true then tv a r c * tv b r c else 0) hK hw hr ht ⟨hRa, w1⟩ ⟨w3, w4⟩ hin hz0 gA ?_ ?_
    · show f_X5_each _ 0 (nI a) (nI b) (nI t) = _
      unfold f_X5_each
      rw [e_ck0, kt_gridAt hK hw, h1, Option.bind_some, Option.map_some, om_s, e_ck0, kt_gridAt hK hw, h2, Option.bind_some, Option.map_some, om_s, kt_slot, h3, Option.bind_some, if_neg bS, e_ckG s2, kt_size s2 z2 s4 s6 z4 z6 w1 w4 y1 y4, Option.bind_some, if_neg (bD hs), e_gR0_3, Option.bind_some]
      rw [e_ckG hK.2.1]
      show (f_X2_becomeEach _ d (g a) (g b)).bind _ = _
      rw [e1, Option.bind_some, e_ck0, bindp]
    · intro G1 S1
      obtain ⟨th, hi, wi, kp, va⟩ := B
      obtain ⟨b1, b2, b3⟩ := (hM a ha).2 hRa
      obtain ⟨d1, d2, d3⟩ := (hM b hb).2 hRb
      obtain ⟨B1, e2, m1, m2⟩ := md_begin (G := G1) (S := S1) (N := N) (T := T) (R := R) (U := U) (L := L) (C := C) (H := H) (R0 := tR a) (C0 := tC a) hM
      obtain ⟨B2, m3, m4, e3⟩ := mop (G := G1) (S := S1) (N := N) (T := T) (R := R) (U := U) (L := L) (C := C) (H := H) (fun n h x => L_X6_each_56 43 (nI a) (nI b) n (fun h32 => ck 5 h32 43 <| (f_X6_putAt h32 43 (nI t)).bind fun (h34, v35) => some (h34, v35)) h x) (fun x n k' h y => L_X6_each_70 43 (nI a) (nI b) x n k' h y) (fun h32 => ck 5 h32 43 <| (f_X6_putAt h32 43 (nI t)).bind fun (h34, v35) => some (h34, v35))
        (fun x n k h y => ck 5 h 43 <| (f_X6_has h 43 (nI a) x y).bind fun v30 => if v30 = 0 then L_X6_each_70 43 (nI a) (nI b) x n k h (y + 1) else ck 5 h 43 <| (f_X6_has h 43 (nI b) x y).bind fun v34 => if v34 = 0 then L_X6_each_70 43 (nI a) (nI b) x n k h (y + 1) else ck 5 h 43 <| (f_X6_holds h 43 (nI a) x y).bind fun v38 => ck 5 h 43 <| (f_X6_holds h 43 (nI b) x y).bind fun v41 => ck 5 h 43 <| (f_X6_keep h 43 x y (v38 * v41)).bind fun h44 => L_X6_each_70 43 (nI a) (nI b) x n k h44 (y + 1))
        a (tR a) (tC a) ha hRa w1 w4 (fun r c => tk a r c && tk b r c) (fun r c => tv a r c * tv b r c)
        (fun n h x => by rw [L_X6_each_56]) (fun x n k' h y => by rw [L_X6_each_70])
        (fun r c n k' B hr hc hB => by
          obtain ⟨c1, c2, c3⟩ := (hB a ha).2 hRa
          obtain ⟨f1, f2, f3⟩ := (hB b hb).2 hRb
          rw [e_ck43, md_has c3 (by omega) (by omega) (by omega), Option.bind_some]
          by_cases q : tk a r c = true
          · rw [if_neg (by rw [q]; decide), e_ck43, md_has f3 (by omega) (by omega) (by omega), Option.bind_some]
            by_cases q2 : tk b r c = true
            · rw [if_neg (by rw [q2]; decide), if_pos (by rw [q, q2]; rfl), e_ck43, md_holds c3 (by omega) c1 c2 w1 w4 w5 w6 (by omega) (by omega), Option.bind_some, e_ck43, md_holds f3 (by omega) f1 f2 y1 y4 y5 y6 (by omega) (by omega), Option.bind_some, e_ck43]
            · rw [if_pos (by rw [show tk b r c = false by simpa using q2]; rfl), if_neg (by rw [show tk b r c = false by simpa using q2, Bool.and_false]; decide)]
          · rw [if_pos (by rw [show tk a r c = false by simpa using q]; rfl), if_neg (by rw [show tk a r c = false by simpa using q, Bool.false_and]; decide)]) m1 m2
      refine ⟨B2, m3, m4.congr (fun r c hr hc => ?_) (fun r c hr hc => ?_), ?_⟩
      · by_cases q : (tk a r c && tk b r c) = true
        · have := hin r c hr hc q; simp only [q, this.1, this.2]; rfl
        · have q' : (tk a r c && tk b r c) = false := by simpa using q
          simp only [q', Bool.and_false]
      · by_cases q : (tk a r c && tk b r c) = true
        · have := hin r c hr hc q; simp only [q, this.1, this.2, and_self, decide_true, Bool.and_self, if_true]
        · have q' : (tk a r c && tk b r c) = false := by simpa using q
          have q2 := hz0 r c hr hc q'
          rw [q2]; simp only [q', Bool.and_false]; rfl
      · show f_X6_each _ 43 (nI a) (nI b) (nI t) = _
        unfold f_X6_each
        rw [md_isNumber, h3, Option.bind_some, if_neg bS, e_ck43, md_isTable hM, h1, Option.bind_some, if_neg bS, e_ck43, md_isTable hM, h2, Option.bind_some, if_neg bS, e_ck43, md_like ha hb b1 b2 d1 d2 w1 w4 y1 y4, Option.bind_some, if_neg (bD hs), e_gR43_1, Option.bind_some, e_a45 (by omega), Option.bind_some, e_gR43_2, Option.bind_some, e_a46 (by omega), Option.bind_some, e_ck43]
        show (f_X6_begin _ 43 (hi a) (wi a)).bind _ = _
        rw [show wi a = nI (tC a) from b2, show hi a = nI (tR a) from b1, e2, Option.bind_some]
        refine e3.trans ?_
        rw [e_ck43, bindp]
theorem cmd_mask {h : HP} (o : OK h) (x1 x2 x3 : Int32) (b0 : Bool) : S2 h (fun h => f_X5_mask h 0 x1 x2 x3 (bI b0)) (fun h => f_X6_mask h 43 x1 x2 x3 (bI b0)) := by
  have oo := o
  obtain ⟨⟨rc, cc, kc, vs⟩, ⟨sl, d⟩, N, T, R, B, U, L, C, H, g, tR, tC, tk, tv, nT, qr, qc, qv, nL, ql, rfl, hK, hw, hM, hr⟩ := o
  cases h1 : tix tR x1 with
  | none =>
    refine S2.same (r := -1) oo ?_ ?_
    · show f_X5_mask _ 0 x1 x2 x3 (bI b0) = _
      unfold f_X5_mask
      rw [e_ck0, kt_gridAt hK hw, h1, Option.bind_some, Option.map_none, om_n, e_ck0, kt_gridAt hK hw, Option.bind_some]
      cases tix tR x2 <;> rfl
    · show f_X6_mask _ 43 x1 x2 x3 (bI b0) = _
      unfold f_X6_mask
      rw [md_isNumber, Option.bind_some, e_ck43, md_isTable hM, h1, Option.bind_some, if_pos bN]
      split <;> rfl
  | some a =>
  cases h2 : tix tR x2 with
  | none =>
    refine S2.same (r := -1) oo ?_ ?_
    · show f_X5_mask _ 0 x1 x2 x3 (bI b0) = _
      unfold f_X5_mask
      rw [e_ck0, kt_gridAt hK hw, h1, Option.bind_some, Option.map_some, om_s, e_ck0, kt_gridAt hK hw, h2, Option.bind_some]
      rfl
    · show f_X6_mask _ 43 x1 x2 x3 (bI b0) = _
      unfold f_X6_mask
      rw [md_isNumber, Option.bind_some, e_ck43, md_isTable hM, h1, Option.bind_some, if_neg bS, e_ck43, md_isTable hM, h2, Option.bind_some, if_pos bN]
      split <;> rfl
  | some b =>
  obtain ⟨ha, rfl, hRa⟩ := tix_some h1
  obtain ⟨hb, rfl, hRb⟩ := tix_some h2
  cases h3 : ix 8 x3 with
  | none =>
    refine S2.same (r := -1) oo ?_ ?_
    · show f_X5_mask _ 0 (nI a) (nI b) x3 (bI b0) = _
      unfold f_X5_mask
      rw [e_ck0, kt_gridAt hK hw, h1, Option.bind_some, Option.map_some, om_s, e_ck0, kt_gridAt hK hw, h2, Option.bind_some, Option.map_some, om_s, kt_slot, h3, Option.bind_some, if_pos bN]
    · show f_X6_mask _ 43 (nI a) (nI b) x3 (bI b0) = _
      unfold f_X6_mask
      rw [md_isNumber, h3, Option.bind_some, if_pos bN]
  | some t =>
  obtain ⟨ht, rfl⟩ := ix_some (by decide) h3
  obtain ⟨w1, w2⟩ := hw a ha
  obtain ⟨w3, w4, w5, w6, w7⟩ := w2 hRa
  obtain ⟨y1, y2⟩ := hw b hb
  obtain ⟨y3, y4, y5, y6, y7⟩ := y2 hRb
  obtain ⟨s1, s2, s3, s4, s5⟩ := hK.1 a ha
  obtain ⟨s6, s7⟩ := s5 hRa
  obtain ⟨z1, z2, z3, z4, z5⟩ := hK.1 b hb
  obtain ⟨z6, z7⟩ := z5 hRb
  by_cases hs : tR a = tR b ∧ tC a = tC b
  rotate_left
  · refine S2.same (r := -3) oo ?_ ?_
    · show f_X5_mask _ 0 (nI a) (nI b) (nI t) (bI b0) = _
      unfold f_X5_mask
      rw [e_ck0, kt_gridAt hK hw, h1, Option.bind_some, Option.map_some, om_s, e_ck0, kt_gridAt hK hw, h2, Option.bind_some, Option.map_some, om_s, kt_slot, h3, Option.bind_some, if_neg bS, e_ckG s2, kt_size s2 z2 s4 s6 z4 z6 w1 w4 y1 y4, Option.bind_some, if_pos (bDn hs)]
    · show f_X6_mask _ 43 (nI a) (nI b) (nI t) (bI b0) = _
      obtain ⟨b1, b2, b3⟩ := (hM a ha).2 hRa
      obtain ⟨d1, d2, d3⟩ := (hM b hb).2 hRb
      unfold f_X6_mask
      rw [md_isNumber, h3, Option.bind_some, if_neg bS, e_ck43, md_isTable hM, h1, Option.bind_some, if_neg bS, e_ck43, md_isTable hM, h2, Option.bind_some, if_neg bS, e_ck43, md_like ha hb b1 b2 d1 d2 w1 w4 y1 y4, Option.bind_some, if_pos (bDn hs)]
  · have hin : ∀ r c, r < 16 → c < 16 → (tk a r c && (tk b r c == b0)) = true → r < tR a ∧ c < tC a := by
      intro r c hr hc z
      rw [Bool.and_eq_true] at z; exact w5 r c hr hc z.1
    have hz0 : ∀ r c, r < 16 → c < 16 → (tk a r c && (tk b r c == b0)) = false → (if (tk a r c && (tk b r c == b0)) = true then tv a r c else 0) = 0 := by
      intro r c hr hc z
      rw [if_neg (by rw [z]; decide)]
    obtain ⟨kA, vA, e1, gA⟩ := g_masked (b := b0) (a := d) (rc := rc) (cc := cc) (kc := kc) (vs := vs) (S := (sl, d)) (N := N) (T := T) (R := R) (B := B) (U := U) (L := L) (C := C) (H := H) hK.2.1 s2 z2 s3 z3 s7 z7
    rw [show cc (g a) = nI (tC a) from s6, show rc (g a) = nI (tR a) from s4] at e1
    refine tail2 (B := B) (C := C) (H := H) (R0 := tR a) (C0 := tC a) (k := fun r c => tk a r c && (tk b r c == b0)) (v := fun r c => if (tk a r c && (tk b r c == b0)) = true then tv a r c else 0) hK hw hr ht ⟨hRa, w1⟩ ⟨w3, w4⟩ hin hz0 gA ?_ ?_
    · show f_X5_mask _ 0 (nI a) (nI b) (nI t) (bI b0) = _
      unfold f_X5_mask
      rw [e_ck0, kt_gridAt hK hw, h1, Option.bind_some, Option.map_some, om_s, e_ck0, kt_gridAt hK hw, h2, Option.bind_some, Option.map_some, om_s, kt_slot, h3, Option.bind_some, if_neg bS, e_ckG s2, kt_size s2 z2 s4 s6 z4 z6 w1 w4 y1 y4, Option.bind_some, if_neg (bD hs), e_gR0_3, Option.bind_some]
      rw [e_ckG hK.2.1]
      show (f_X2_becomeMasked _ d (g a) (g b) (bI b0)).bind _ = _
      rw [e1, Option.bind_some, e_ck0, bindp]
    · intro G1 S1
      obtain ⟨th, hi, wi, kp, va⟩ := B
      obtain ⟨b1, b2, b3⟩ := (hM a ha).2 hRa
      obtain ⟨d1, d2, d3⟩ := (hM b hb).2 hRb
      obtain ⟨B1, e2, m1, m2⟩ := md_begin (G := G1) (S := S1) (N := N) (T := T) (R := R) (U := U) (L := L) (C := C) (H := H) (R0 := tR a) (C0 := tC a) hM
      obtain ⟨B2, m3, m4, e3⟩ := mop (G := G1) (S := S1) (N := N) (T := T) (R := R) (U := U) (L := L) (C := C) (H := H) (fun n h x => L_X6_mask_56 43 (nI a) (nI b) (bI b0) n (fun h32 => ck 5 h32 43 <| (f_X6_putAt h32 43 (nI t)).bind fun (h34, v35) => some (h34, v35)) h x) (fun x n k' h y => L_X6_mask_70 43 (nI a) (nI b) (bI b0) x n k' h y) (fun h32 => ck 5 h32 43 <| (f_X6_putAt h32 43 (nI t)).bind fun (h34, v35) => some (h34, v35))
        (fun x n k h y => ck 5 h 43 <| (f_X6_has h 43 (nI a) x y).bind fun v30 => if v30 = 0 then L_X6_mask_70 43 (nI a) (nI b) (bI b0) x n k h (y + 1) else ck 5 h 43 <| (f_X6_has h 43 (nI b) x y).bind fun v34 => if v34 = bI b0 then (ck 5 h 43 <| (f_X6_holds h 43 (nI a) x y).bind fun v38 => ck 5 h 43 <| (f_X6_keep h 43 x y v38).bind fun h44 => L_X6_mask_70 43 (nI a) (nI b) (bI b0) x n k h44 (y + 1)) else L_X6_mask_70 43 (nI a) (nI b) (bI b0) x n k h (y + 1))
        a (tR a) (tC a) ha hRa w1 w4 (fun r c => tk a r c && (tk b r c == b0)) (fun r c => tv a r c)
        (fun n h x => by rw [L_X6_mask_56]) (fun x n k' h y => by rw [L_X6_mask_70])
        (fun r c n k' B hr hc hB => by
          obtain ⟨c1, c2, c3⟩ := (hB a ha).2 hRa
          obtain ⟨f1, f2, f3⟩ := (hB b hb).2 hRb
          rw [e_ck43, md_has c3 (by omega) (by omega) (by omega), Option.bind_some]
          by_cases q : tk a r c = true
          · rw [if_neg (by rw [q]; decide), e_ck43, md_has f3 (by omega) (by omega) (by omega), Option.bind_some]
            by_cases q2 : tk b r c = b0
            · rw [if_pos (bI_eq.mpr q2), if_pos (by rw [q, q2]; simp), e_ck43, md_holds c3 (by omega) c1 c2 w1 w4 w5 w6 (by omega) (by omega), Option.bind_some, e_ck43]
            · rw [if_neg (fun z => q2 (bI_eq.mp z)), if_neg (by simp [q, q2])]
          · rw [if_pos (by rw [show tk a r c = false by simpa using q]; rfl), if_neg (by rw [show tk a r c = false by simpa using q, Bool.false_and]; decide)]) m1 m2
      refine ⟨B2, m3, m4.congr (fun r c hr hc => ?_) (fun r c hr hc => ?_), ?_⟩
      · by_cases q : (tk a r c && (tk b r c == b0)) = true
        · have := hin r c hr hc q; simp only [q, this.1, this.2]; rfl
        · have q' : (tk a r c && (tk b r c == b0)) = false := by simpa using q
          simp only [q', Bool.and_false]
      · by_cases q : (tk a r c && (tk b r c == b0)) = true
        · have := hin r c hr hc q; simp only [q, this.1, this.2, and_self, decide_true, Bool.and_self, if_true]
        · have q' : (tk a r c && (tk b r c == b0)) = false := by simpa using q
          have q2 := hz0 r c hr hc q'
          rw [q2]; simp only [q', Bool.and_false]; rfl
      · show f_X6_mask _ 43 (nI a) (nI b) (nI t) (bI b0) = _
        unfold f_X6_mask
        rw [md_isNumber, h3, Option.bind_some, if_neg bS, e_ck43, md_isTable hM, h1, Option.bind_some, if_neg bS, e_ck43, md_isTable hM, h2, Option.bind_some, if_neg bS, e_ck43, md_like ha hb b1 b2 d1 d2 w1 w4 y1 y4, Option.bind_some, if_neg (bD hs), e_gR43_1, Option.bind_some, e_a45 (by omega), Option.bind_some, e_gR43_2, Option.bind_some, e_a46 (by omega), Option.bind_some, e_ck43]
        show (f_X6_begin _ 43 (hi a) (wi a)).bind _ = _
        rw [show wi a = nI (tC a) from b2, show hi a = nI (tR a) from b1, e2, Option.bind_some]
        refine e3.trans ?_
        rw [e_ck43, bindp]
theorem cmd_add {h : HP} (o : OK h) (x1 x2 x3 : Int32) (u1 u2 : Int64) : S2 h (fun h => f_X5_add h 0 x1 x2 x3 u1 u2) (fun h => f_X6_add h 43 x1 x2 x3 u1 u2) := by
  have oo := o
  obtain ⟨⟨rc, cc, kc, vs⟩, ⟨sl, d⟩, N, T, R, B, U, L, C, H, g, tR, tC, tk, tv, nT, qr, qc, qv, nL, ql, rfl, hK, hw, hM, hr⟩ := o
  cases h1 : tix tR x1 with
  | none =>
    refine S2.same (r := -1) oo ?_ ?_
    · show f_X5_add _ 0 x1 x2 x3 u1 u2 = _
      unfold f_X5_add
      rw [e_ck0, kt_gridAt hK hw, h1, Option.bind_some, Option.map_none, om_n, e_ck0, kt_gridAt hK hw, Option.bind_some]
      cases tix tR x2 <;> rfl
    · show f_X6_add _ 43 x1 x2 x3 u1 u2 = _
      unfold f_X6_add
      rw [md_isNumber, Option.bind_some, e_ck43, md_isTable hM, h1, Option.bind_some, if_pos bN]
      split <;> rfl
  | some a =>
  cases h2 : tix tR x2 with
  | none =>
    refine S2.same (r := -1) oo ?_ ?_
    · show f_X5_add _ 0 x1 x2 x3 u1 u2 = _
      unfold f_X5_add
      rw [e_ck0, kt_gridAt hK hw, h1, Option.bind_some, Option.map_some, om_s, e_ck0, kt_gridAt hK hw, h2, Option.bind_some]
      rfl
    · show f_X6_add _ 43 x1 x2 x3 u1 u2 = _
      unfold f_X6_add
      rw [md_isNumber, Option.bind_some, e_ck43, md_isTable hM, h1, Option.bind_some, if_neg bS, e_ck43, md_isTable hM, h2, Option.bind_some, if_pos bN]
      split <;> rfl
  | some b =>
  obtain ⟨ha, rfl, hRa⟩ := tix_some h1
  obtain ⟨hb, rfl, hRb⟩ := tix_some h2
  cases h3 : ix 8 x3 with
  | none =>
    refine S2.same (r := -1) oo ?_ ?_
    · show f_X5_add _ 0 (nI a) (nI b) x3 u1 u2 = _
      unfold f_X5_add
      rw [e_ck0, kt_gridAt hK hw, h1, Option.bind_some, Option.map_some, om_s, e_ck0, kt_gridAt hK hw, h2, Option.bind_some, Option.map_some, om_s, kt_slot, h3, Option.bind_some, if_pos bN]
    · show f_X6_add _ 43 (nI a) (nI b) x3 u1 u2 = _
      unfold f_X6_add
      rw [md_isNumber, h3, Option.bind_some, if_pos bN]
  | some t =>
  obtain ⟨ht, rfl⟩ := ix_some (by decide) h3
  obtain ⟨w1, w2⟩ := hw a ha
  obtain ⟨w3, w4, w5, w6, w7⟩ := w2 hRa
  obtain ⟨y1, y2⟩ := hw b hb
  obtain ⟨y3, y4, y5, y6, y7⟩ := y2 hRb
  obtain ⟨s1, s2, s3, s4, s5⟩ := hK.1 a ha
  obtain ⟨s6, s7⟩ := s5 hRa
  obtain ⟨z1, z2, z3, z4, z5⟩ := hK.1 b hb
  obtain ⟨z6, z7⟩ := z5 hRb
  by_cases hs : tR a = tR b ∧ tC a = tC b
  rotate_left
  · refine S2.same (r := -3) oo ?_ ?_
    · show f_X5_add _ 0 (nI a) (nI b) (nI t) u1 u2 = _
      unfold f_X5_add
      rw [e_ck0, kt_gridAt hK hw, h1, Option.bind_some, Option.map_some, om_s, e_ck0, kt_gridAt hK hw, h2, Option.bind_some, Option.map_some, om_s, kt_slot, h3, Option.bind_some, if_neg bS, e_ckG s2, kt_size s2 z2 s4 s6 z4 z6 w1 w4 y1 y4, Option.bind_some, if_pos (bDn hs)]
    · show f_X6_add _ 43 (nI a) (nI b) (nI t) u1 u2 = _
      obtain ⟨b1, b2, b3⟩ := (hM a ha).2 hRa
      obtain ⟨d1, d2, d3⟩ := (hM b hb).2 hRb
      unfold f_X6_add
      rw [md_isNumber, h3, Option.bind_some, if_neg bS, e_ck43, md_isTable hM, h1, Option.bind_some, if_neg bS, e_ck43, md_isTable hM, h2, Option.bind_some, if_neg bS, e_ck43, md_like ha hb b1 b2 d1 d2 w1 w4 y1 y4, Option.bind_some, if_pos (bDn hs)]
  · have hin : ∀ r c, r < 16 → c < 16 → (tk a r c || tk b r c) = true → r < tR a ∧ c < tC a := by
      intro r c hr hc z
      rw [Bool.or_eq_true] at z
      rcases z with z | z
      · exact w5 r c hr hc z
      · have := y5 r c hr hc z; omega
    have hz0 : ∀ r c, r < 16 → c < 16 → (tk a r c || tk b r c) = false → (u1 * tv a r c + u2 * tv b r c) = 0 := by
      intro r c hr hc z
      rw [Bool.or_eq_false_iff] at z
      rw [w6 r c hr hc z.1, y6 r c hr hc z.2, Int64.mul_zero, Int64.mul_zero]; rfl
    obtain ⟨kB, vB, e0, gB⟩ := g_begin (a := d) (rc := rc) (cc := cc) (kc := kc) (vs := vs) (S := (sl, d)) (N := N) (T := T) (R := R) (B := B) (U := U) (L := L) (C := C) (H := H) hK.2.1 (rc (g a)) (cc (g a))
    obtain ⟨kD, vD, eD, gD⟩ := g_addMul (a := d) (rc := rc) (cc := cc) (S := (sl, d)) (N := N) (T := T) (R := R) (B := B) (U := U) (L := L) (C := C) (H := H) (x0 := rc (g a)) (y0 := cc (g a)) (x := u1) hK.2.1 s2 s3 gB s7
    obtain ⟨kA, vA, e1, gA'⟩ := g_addMul (a := d) (rc := rc) (cc := cc) (S := (sl, d)) (N := N) (T := T) (R := R) (B := B) (U := U) (L := L) (C := C) (H := H) (x0 := rc (g a)) (y0 := cc (g a)) (x := u2) hK.2.1 z2 z3 gD z7
    have gA : GC kA vA (fun r c => tk a r c || tk b r c) (fun r c => u1 * tv a r c + u2 * tv b r c) := gA'.congr (fun r c _ _ => by simp) (fun r c hr hc => by
      by_cases q1 : tk a r c = true
      · by_cases q2 : tk b r c = true
        · simp [q1, q2]
        · simp [q1, q2, y6 r c hr hc (by simpa using q2)]
      · by_cases q2 : tk b r c = true
        · simp [q1, q2, w6 r c hr hc (by simpa using q1)]
        · simp [q1, q2, w6 r c hr hc (by simpa using q1), y6 r c hr hc (by simpa using q2)])
    rw [show cc (g a) = nI (tC a) from s6, show rc (g a) = nI (tR a) from s4] at e1
    refine tail2 (B := B) (C := C) (H := H) (R0 := tR a) (C0 := tC a) (k := fun r c => tk a r c || tk b r c) (v := fun r c => u1 * tv a r c + u2 * tv b r c) hK hw hr ht ⟨hRa, w1⟩ ⟨w3, w4⟩ hin hz0 gA ?_ ?_
    · show f_X5_add _ 0 (nI a) (nI b) (nI t) u1 u2 = _
      unfold f_X5_add
      rw [e_ck0, kt_gridAt hK hw, h1, Option.bind_some, Option.map_some, om_s, e_ck0, kt_gridAt hK hw, h2, Option.bind_some, Option.map_some, om_s, kt_slot, h3, Option.bind_some, if_neg bS, e_ckG s2, kt_size s2 z2 s4 s6 z4 z6 w1 w4 y1 y4, Option.bind_some, if_neg (bD hs), e_gR0_3, Option.bind_some]
      rw [e_gIrc s2, Option.bind_some, e_gIcc s2, Option.bind_some, e_ckG hK.2.1]
      show (f_X2_begin _ d (rc (g a)) (cc (g a))).bind _ = _
      rw [e0, Option.bind_some, e_gR0_3, Option.bind_some, e_ckG hK.2.1]
      show (f_X2_addMultiple _ d (g a) u1).bind _ = _
      rw [eD, Option.bind_some, e_gR0_3, Option.bind_some, e_ckG hK.2.1]
      show (f_X2_addMultiple _ d (g b) u2).bind _ = _
      rw [show cc (g a) = nI (tC a) from s6, show rc (g a) = nI (tR a) from s4, e1, Option.bind_some, e_ck0, bindp]
    · intro G1 S1
      obtain ⟨th, hi, wi, kp, va⟩ := B
      obtain ⟨b1, b2, b3⟩ := (hM a ha).2 hRa
      obtain ⟨d1, d2, d3⟩ := (hM b hb).2 hRb
      obtain ⟨B1, e2, m1, m2⟩ := md_begin (G := G1) (S := S1) (N := N) (T := T) (R := R) (U := U) (L := L) (C := C) (H := H) (R0 := tR a) (C0 := tC a) hM
      obtain ⟨B2, m3, m4, e3⟩ := mop (G := G1) (S := S1) (N := N) (T := T) (R := R) (U := U) (L := L) (C := C) (H := H) (fun n h x => L_X6_add_56 43 (nI a) (nI b) u1 u2 n (fun h32 => ck 5 h32 43 <| (f_X6_putAt h32 43 (nI t)).bind fun (h34, v35) => some (h34, v35)) h x) (fun x n k' h y => L_X6_add_70 43 (nI a) (nI b) u1 u2 x n k' h y) (fun h32 => ck 5 h32 43 <| (f_X6_putAt h32 43 (nI t)).bind fun (h34, v35) => some (h34, v35))
        (fun x n k h y => ck 5 h 43 <| (f_X6_has h 43 (nI a) x y).bind fun v30 => if v30 = 0 then (ck 5 h 43 <| (f_X6_has h 43 (nI b) x y).bind fun v34 => if v34 = 0 then L_X6_add_70 43 (nI a) (nI b) u1 u2 x n k h (y + 1) else ck 5 h 43 <| (f_X6_holds h 43 (nI a) x y).bind fun v38 => ck 5 h 43 <| (f_X6_holds h 43 (nI b) x y).bind fun v41 => ck 5 h 43 <| (f_X6_keep h 43 x y ((u1 * v38) + (u2 * v41))).bind fun h44 => L_X6_add_70 43 (nI a) (nI b) u1 u2 x n k h44 (y + 1)) else ck 5 h 43 <| (f_X6_holds h 43 (nI a) x y).bind fun v47 => ck 5 h 43 <| (f_X6_holds h 43 (nI b) x y).bind fun v50 => ck 5 h 43 <| (f_X6_keep h 43 x y ((u1 * v47) + (u2 * v50))).bind fun h53 => L_X6_add_70 43 (nI a) (nI b) u1 u2 x n k h53 (y + 1))
        a (tR a) (tC a) ha hRa w1 w4 (fun r c => tk a r c || tk b r c) (fun r c => u1 * tv a r c + u2 * tv b r c)
        (fun n h x => by rw [L_X6_add_56]) (fun x n k' h y => by rw [L_X6_add_70])
        (fun r c n k' B hr hc hB => by
          obtain ⟨c1, c2, c3⟩ := (hB a ha).2 hRa
          obtain ⟨f1, f2, f3⟩ := (hB b hb).2 hRb
          rw [e_ck43, md_has c3 (by omega) (by omega) (by omega), Option.bind_some]
          by_cases q : tk a r c = true
          · rw [if_neg (by rw [q]; decide), if_pos (by rw [q]; rfl), e_ck43, md_holds c3 (by omega) c1 c2 w1 w4 w5 w6 (by omega) (by omega), Option.bind_some, e_ck43, md_holds f3 (by omega) f1 f2 y1 y4 y5 y6 (by omega) (by omega), Option.bind_some, e_ck43]
          · have q' : tk a r c = false := by simpa using q
            rw [if_pos (by rw [q']; rfl), e_ck43, md_has f3 (by omega) (by omega) (by omega), Option.bind_some]
            by_cases q2 : tk b r c = true
            · rw [if_neg (by rw [q2]; decide), if_pos (by rw [q', q2]; rfl), e_ck43, md_holds c3 (by omega) c1 c2 w1 w4 w5 w6 (by omega) (by omega), Option.bind_some, e_ck43, md_holds f3 (by omega) f1 f2 y1 y4 y5 y6 (by omega) (by omega), Option.bind_some, e_ck43]
            · rw [if_pos (by rw [show tk b r c = false by simpa using q2]; rfl), if_neg (by rw [q', show tk b r c = false by simpa using q2]; decide)]) m1 m2
      refine ⟨B2, m3, m4.congr (fun r c hr hc => ?_) (fun r c hr hc => ?_), ?_⟩
      · by_cases q : (tk a r c || tk b r c) = true
        · have := hin r c hr hc q; simp only [q, this.1, this.2]; rfl
        · have q' : (tk a r c || tk b r c) = false := by simpa using q
          simp only [q', Bool.and_false]
      · by_cases q : (tk a r c || tk b r c) = true
        · have := hin r c hr hc q; simp only [q, this.1, this.2, and_self, decide_true, Bool.and_self, if_true]
        · have q' : (tk a r c || tk b r c) = false := by simpa using q
          have q2 := hz0 r c hr hc q'
          rw [q2]; simp only [q', Bool.and_false]; rfl
      · show f_X6_add _ 43 (nI a) (nI b) (nI t) u1 u2 = _
        unfold f_X6_add
        rw [md_isNumber, h3, Option.bind_some, if_neg bS, e_ck43, md_isTable hM, h1, Option.bind_some, if_neg bS, e_ck43, md_isTable hM, h2, Option.bind_some, if_neg bS, e_ck43, md_like ha hb b1 b2 d1 d2 w1 w4 y1 y4, Option.bind_some, if_neg (bD hs), e_gR43_1, Option.bind_some, e_a45 (by omega), Option.bind_some, e_gR43_2, Option.bind_some, e_a46 (by omega), Option.bind_some, e_ck43]
        show (f_X6_begin _ 43 (hi a) (wi a)).bind _ = _
        rw [show wi a = nI (tC a) from b2, show hi a = nI (tR a) from b1, e2, Option.bind_some]
        refine e3.trans ?_
        rw [e_ck43, bindp]
