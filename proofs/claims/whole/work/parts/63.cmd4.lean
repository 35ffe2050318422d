theorem WFt.v0 {tR tC : Nat → Nat} {tk : Nat → Nat → Nat → Bool} {tv : Nat → Nat → Nat → Int64} (hw : WFt tR tC tk tv) {t r c : Nat} (ht : t < 8) (hR : 1 ≤ tR t) (hr : r < 16) (hc : c < 16) (h : ¬ (r < tR t ∧ c < tC t)) : tv t r c = 0 := by
  obtain ⟨w1, w2⟩ := hw t ht
  obtain ⟨w3, w4, w5, w6, w7⟩ := w2 hR
  by_cases q : tk t r c = true
  · exact absurd (w5 r c hr hc q) h
  · exact w6 r c hr hc (by simpa using q)
theorem md_dotR {G : TG} {S : TS} {N : TN} {T : TT} {R : TR} {B : TB} {U : TU} {L : TL} {C : TC} {H : TH} {tR tC : Nat → Nat} {tk : Nat → Nat → Nat → Bool} {tv : Nat → Nat → Nat → Int64} {b p r c : Nat} (hM : MG B tR tC tk tv) (hb : b < 8) (hp : p < 8) (hRb : 1 ≤ tR b) (hRp : 1 ≤ tR p) (hw : WFt tR tC tk tv) (hr : r < 16) (hc : c < 16) (kk : Int64 → Option (HP × Int32)) : L_X6_slopes_166 (E G S N T R B U L C H) 43 (nI b) (nI p) (nI r) (nI c) FU kk 0 0 = kk (sumJ (fun x => tv p r x * tv b c x) (tC b)) := by
  obtain ⟨c1, c2, c3⟩ := (hM b hb).2 hRb
  obtain ⟨f1, f2, f3⟩ := (hM p hp).2 hRp
  obtain ⟨w1, w2⟩ := hw b hb
  obtain ⟨w3, w4, w5, w6, w7⟩ := w2 hRb
  obtain ⟨y1, y2⟩ := hw p hp
  obtain ⟨y3, y4, y5, y6, y7⟩ := y2 hRp
  exact pz_lpf (fun n s i => L_X6_slopes_166 (E G S N T R B U L C H) 43 (nI b) (nI p) (nI r) (nI c) n kk s i) _ (tC b) (fun i => sumJ (fun x => tv p r x * tv b c x) i)
    (fun n => by rw [L_X6_slopes_166, e_gR43_2, Option.bind_some, e_a46 (by omega), Option.bind_some, c2, if_pos (Int32.le_refl _)])
    (fun n i hi => by
      have h16 : i < 16 := by omega
      rw [L_X6_slopes_166, e_gR43_2, Option.bind_some, e_a46 (by omega), Option.bind_some, c2, if_neg (nI_ge hi (by omega)), e_ck43, md_holds f3 (by omega) f1 f2 y1 y4 y5 y6 hr h16, Option.bind_some, e_ck43, md_holds c3 (by omega) c1 c2 w1 w4 w5 w6 hc h16, Option.bind_some, nI_1]
      rfl) (tC b) 0 FU (by omega) (pz_FU (by omega))
theorem md_dotC {G : TG} {S : TS} {N : TN} {T : TT} {R : TR} {B : TB} {U : TU} {L : TL} {C : TC} {H : TH} {tR tC : Nat → Nat} {tk : Nat → Nat → Nat → Bool} {tv : Nat → Nat → Nat → Int64} {a p r c : Nat} (hM : MG B tR tC tk tv) (ha : a < 8) (hp : p < 8) (hRa : 1 ≤ tR a) (hRp : 1 ≤ tR p) (hw : WFt tR tC tk tv) (hr : r < 16) (hc : c < 16) (kk : Int64 → Option (HP × Int32)) : L_X6_slopes_213 (E G S N T R B U L C H) 43 (nI a) (nI p) (nI r) (nI c) FU kk 0 0 = kk (sumJ (fun x => tv p x c * tv a x r) (tR a)) := by
  obtain ⟨c1, c2, c3⟩ := (hM a ha).2 hRa
  obtain ⟨f1, f2, f3⟩ := (hM p hp).2 hRp
  obtain ⟨w1, w2⟩ := hw a ha
  obtain ⟨w3, w4, w5, w6, w7⟩ := w2 hRa
  obtain ⟨y1, y2⟩ := hw p hp
  obtain ⟨y3, y4, y5, y6, y7⟩ := y2 hRp
  exact pz_lpf (fun n s i => L_X6_slopes_213 (E G S N T R B U L C H) 43 (nI a) (nI p) (nI r) (nI c) n kk s i) _ (tR a) (fun i => sumJ (fun x => tv p x c * tv a x r) i)
    (fun n => by rw [L_X6_slopes_213, e_gR43_1, Option.bind_some, e_a45 (by omega), Option.bind_some, c1, if_pos (Int32.le_refl _)])
    (fun n i hi => by
      have h16 : i < 16 := by omega
      rw [L_X6_slopes_213, e_gR43_1, Option.bind_some, e_a45 (by omega), Option.bind_some, c1, if_neg (nI_ge hi (by omega)), e_ck43, md_holds f3 (by omega) f1 f2 y1 y4 y5 y6 h16 hc, Option.bind_some, e_ck43, md_holds c3 (by omega) c1 c2 w1 w4 w5 w6 h16 hr, Option.bind_some, nI_1]
      rfl) (tR a) 0 FU (by omega) (pz_FU (by omega))
theorem cmd_slopes {h : HP} (o : OK h) (x1 x2 x3 x4 : Int32) (b0 : Bool) : S2 h (fun h => f_X5_slopes h 0 x1 x2 x3 x4 (bI b0)) (fun h => f_X6_slopes h 43 x1 x2 x3 x4 (bI b0)) := by
  have oo := o
  obtain ⟨⟨rc, cc, kc, vs⟩, ⟨sl, d⟩, N, T, R, B, U, L, C, H, g, tR, tC, tk, tv, nT, qr, qc, qv, nL, ql, rfl, hK, hw, hM, hr⟩ := o
  by_cases hall : ∃ a b p t, tix tR x1 = some a ∧ tix tR x2 = some b ∧ tix tR x3 = some p ∧ ix 8 x4 = some t
  rotate_left
  · refine S2.same (r := -1) oo ?_ ?_
    · show f_X5_slopes _ 0 x1 x2 x3 x4 (bI b0) = _
      unfold f_X5_slopes
      simp only [e_ck0, kt_gridAt hK hw, kt_slot, Option.bind_some]
      cases h1 : tix tR x1 with
      | none => cases tix tR x2 <;> cases tix tR x3 <;> rfl
      | some a =>
        cases h2 : tix tR x2 with
        | none => cases tix tR x3 <;> rfl
        | some b =>
          cases h3 : tix tR x3 with
          | none => rfl
          | some p =>
            cases h4 : ix 8 x4 with
            | none => rfl
            | some t => exact absurd ⟨a, b, p, t, h1, h2, h3, h4⟩ hall
    · show f_X6_slopes _ 43 x1 x2 x3 x4 (bI b0) = _
      unfold f_X6_slopes
      simp only [e_ck43, md_isNumber, md_isTable hM, Option.bind_some]
      cases h4 : ix 8 x4 with
      | none => rfl
      | some t =>
        cases h1 : tix tR x1 with
        | none => rfl
        | some a =>
          cases h2 : tix tR x2 with
          | none => rfl
          | some b =>
            cases h3 : tix tR x3 with
            | none => rfl
            | some p => exact absurd ⟨a, b, p, t, h1, h2, h3, h4⟩ hall
  · obtain ⟨a, b, p, t, h1, h2, h3, h4⟩ := hall
    obtain ⟨ha, rfl, hRa⟩ := tix_some h1
    obtain ⟨hb, rfl, hRb⟩ := tix_some h2
    obtain ⟨hp, rfl, hRp⟩ := tix_some h3
    obtain ⟨ht, rfl⟩ := ix_some (by decide) h4
    obtain ⟨w1, w2⟩ := hw a ha
    obtain ⟨w3, w4, w5, w6, w7⟩ := w2 hRa
    obtain ⟨y1, y2⟩ := hw b hb
    obtain ⟨y3, y4, y5, y6, y7⟩ := y2 hRb
    obtain ⟨l1, l2⟩ := hw p hp
    obtain ⟨l3, l4, l5, l6, l7⟩ := l2 hRp
    obtain ⟨s1, s2, s3, s4, s5⟩ := hK.1 a ha
    obtain ⟨s6, s7⟩ := s5 hRa
    obtain ⟨z1, z2, z3, z4, z5⟩ := hK.1 b hb
    obtain ⟨z6, z7⟩ := z5 hRb
    obtain ⟨u1, u2, u3, u4, u5⟩ := hK.1 p hp
    obtain ⟨u6, u7⟩ := u5 hRp
    by_cases hs : tC a = tR b ∧ tR p = tR a ∧ tC p = tC b
    rotate_left
    · refine S2.same (r := -3) oo ?_ ?_
      · show f_X5_slopes _ 0 (nI a) (nI b) (nI p) (nI t) (bI b0) = _
        unfold f_X5_slopes
        simp only [e_ck0, kt_gridAt hK hw, h1, h2, h3, Option.bind_some, Option.map_some, om_s, kt_slot, h4, if_neg bS, e_gIcc s2, e_gIrc z2, e_gIrc u2, e_gIrc s2, e_gIcc u2, e_gIcc z2]
        by_cases q1 : cc (g a) = rc (g b)
        · rw [if_pos q1]
          by_cases q2 : rc (g p) = rc (g a)
          · rw [if_pos q2]
            by_cases q3 : cc (g p) = cc (g b)
            · rw [show cc (g a) = nI (tC a) from s6, show rc (g b) = nI (tR b) from z4] at q1
              rw [show rc (g p) = nI (tR p) from u4, show rc (g a) = nI (tR a) from s4] at q2
              rw [show cc (g p) = nI (tC p) from u6, show cc (g b) = nI (tC b) from z6] at q3
              exact absurd ⟨(nI_eq (by omega) (by omega)).mp q1, (nI_eq (by omega) (by omega)).mp q2, (nI_eq (by omega) (by omega)).mp q3⟩ hs
            · rw [if_neg q3]
          · rw [if_neg q2]
        · rw [if_neg q1]
      · show f_X6_slopes _ 43 (nI a) (nI b) (nI p) (nI t) (bI b0) = _
        obtain ⟨th, hi, wi, kp, va⟩ := B
        obtain ⟨b1, b2, b3⟩ := (hM a ha).2 hRa
        obtain ⟨d1, d2, d3⟩ := (hM b hb).2 hRb
        obtain ⟨p1, p2, p3⟩ := (hM p hp).2 hRp
        unfold f_X6_slopes
        simp only [md_isNumber, h4, Option.bind_some, if_neg bS, e_ck43, md_isTable hM, h1, h2, h3, e_gR43_1, e_gR43_2, e_a45 (show a < 9 by omega), e_a46 (show a < 9 by omega), e_a45 (show b < 9 by omega), e_a46 (show b < 9 by omega), e_a45 (show p < 9 by omega), e_a46 (show p < 9 by omega)]
        by_cases q1 : wi a = hi b
        · rw [if_pos q1]
          by_cases q2 : hi p = hi a
          · rw [if_pos q2]
            by_cases q3 : wi p = wi b
            · rw [show wi a = nI (tC a) from b2, show hi b = nI (tR b) from d1] at q1
              rw [show hi p = nI (tR p) from p1, show hi a = nI (tR a) from b1] at q2
              rw [show wi p = nI (tC p) from p2, show wi b = nI (tC b) from d2] at q3
              exact absurd ⟨(nI_eq (by omega) (by omega)).mp q1, (nI_eq (by omega) (by omega)).mp q2, (nI_eq (by omega) (by omega)).mp q3⟩ hs
            · rw [if_neg q3]
          · rw [if_neg q2]
        · rw [if_neg q1]
    cases b0 with
    | true =>
      have eV : ∀ r c, r < 16 → c < 16 → (if tk a r c = true then sumJ (fun x => tv p r x * tv b c x) 16 else 0) = (if tk a r c = true then sumJ (fun x => tv p r x * tv b c x) (tC b) else 0) := by
        intro r c hr hc
        by_cases q : tk a r c = true
        · rw [if_pos q, if_pos q]
          exact sumJ_more (by omega) (fun x h1 h2 => by rw [hw.v0 hb hRb hc h2 (by omega)]; exact Int64.mul_zero)
        · rw [if_neg q, if_neg q]
      obtain ⟨kA, vA, e1, gA'⟩ := g_slopesL (a := d) (rc := rc) (cc := cc) (kc := kc) (vs := vs) (S := (sl, d)) (N := N) (T := T) (R := R) (B := B) (U := U) (L := L) (C := C) (H := H) hK.2.1 s2 z2 u2 s3 z3 u3 s7 z7 u7
      have gA : GC kA vA (tk a) (fun r c => if tk a r c = true then sumJ (fun x => tv p r x * tv b c x) (tC b) else 0) := gA'.congr (fun r c hr hc => rfl) (fun r c hr hc => (eV r c hr hc).symm)
      rw [show cc (g a) = nI (tC a) from s6, show rc (g a) = nI (tR a) from s4] at e1
      refine tail2 (B := B) (C := C) (H := H) (R0 := tR a) (C0 := tC a) (k := tk a) (v := fun r c => if tk a r c = true then sumJ (fun x => tv p r x * tv b c x) (tC b) else 0) hK hw hr ht ⟨hRa, w1⟩ ⟨w3, w4⟩ w5 (fun r c _ _ z => by rw [if_neg (by rw [z]; decide)]) gA ?_ ?_
      · show f_X5_slopes _ 0 (nI a) (nI b) (nI p) (nI t) (bI true) = _
        unfold f_X5_slopes
        simp only [e_ck0, kt_gridAt hK hw, h1, h2, h3, Option.bind_some, Option.map_some, om_s, kt_slot, h4, if_neg bS, e_gIcc s2, e_gIrc z2, e_gIrc u2, e_gIrc s2, e_gIcc u2, e_gIcc z2]
        rw [if_pos (show cc (g a) = rc (g b) by rw [show cc (g a) = nI (tC a) from s6, show rc (g b) = nI (tR b) from z4, hs.1]), if_pos (show rc (g p) = rc (g a) by rw [show rc (g p) = nI (tR p) from u4, show rc (g a) = nI (tR a) from s4, hs.2.1]), if_pos (show cc (g p) = cc (g b) by rw [show cc (g p) = nI (tC p) from u6, show cc (g b) = nI (tC b) from z6, hs.2.2]), if_neg (by decide), e_gR0_3, Option.bind_some, e_ckG hK.2.1]
        show (f_X2_becomeSlopesOfLeft _ d (g a) (g b) (g p)).bind _ = _
        rw [e1, Option.bind_some, e_ck0, bindp]
      · intro G1 S1
        obtain ⟨th, hi, wi, kp, va⟩ := B
        obtain ⟨b1, b2, b3⟩ := (hM a ha).2 hRa
        obtain ⟨d1, d2, d3⟩ := (hM b hb).2 hRb
        obtain ⟨p1, p2, p3⟩ := (hM p hp).2 hRp
        obtain ⟨B1, e2, m1, m2⟩ := md_begin (G := G1) (S := S1) (N := N) (T := T) (R := R) (U := U) (L := L) (C := C) (H := H) (R0 := tR a) (C0 := tC a) hM
        obtain ⟨B2, m3, m4, e3⟩ := mop (G := G1) (S := S1) (N := N) (T := T) (R := R) (U := U) (L := L) (C := C) (H := H) (fun n h x => L_X6_slopes_115 43 (nI a) (nI b) (nI p) (bI true) (nI a) n (fun h32 => ck 5 h32 43 <| (f_X6_putAt h32 43 (nI t)).bind fun (h34, v35) => some (h34, v35)) h x) (fun x n k' h y => L_X6_slopes_130 43 (nI a) (nI b) (nI p) (bI true) (nI a) x n k' h y) (fun h32 => ck 5 h32 43 <| (f_X6_putAt h32 43 (nI t)).bind fun (h34, v35) => some (h34, v35))
          (fun x n k h y => ck 5 h 43 <| (f_X6_has h 43 (nI a) x y).bind fun v46 => if v46 = 0 then L_X6_slopes_130 43 (nI a) (nI b) (nI p) (bI true) (nI a) x n k h (y + 1) else if bI true = 0 then L_X6_slopes_213 h 43 (nI a) (nI p) x y FU (fun x59 => ck 5 h 43 <| (f_X6_keep h 43 x y x59).bind fun h61 => L_X6_slopes_130 43 (nI a) (nI b) (nI p) (bI true) (nI a) x n k h61 (y + 1)) 0 0 else L_X6_slopes_166 h 43 (nI b) (nI p) x y FU (fun x59 => ck 5 h 43 <| (f_X6_keep h 43 x y x59).bind fun h61 => L_X6_slopes_130 43 (nI a) (nI b) (nI p) (bI true) (nI a) x n k h61 (y + 1)) 0 0)
          a (tR a) (tC a) ha hRa w1 w4 (tk a) (fun r c => sumJ (fun x => tv p r x * tv b c x) (tC b))
          (fun n h x => by rw [L_X6_slopes_115]) (fun x n k' h y => by rw [L_X6_slopes_130])
          (fun r c n k' B hr hc hB => by
            obtain ⟨c1, c2, c3⟩ := (hB a ha).2 hRa
            rw [e_ck43, md_has c3 (by omega) (by omega) (by omega), Option.bind_some]
            by_cases q : tk a r c = true
            · rw [if_neg (by rw [q]; decide), if_pos q, if_neg (by decide), md_dotR hB hb hp hRb hRp hw (by omega) (by omega), e_ck43]
            · rw [if_pos (by rw [show tk a r c = false by simpa using q]; rfl), if_neg q]) m1 m2
        refine ⟨B2, m3, m4.congr (fun r c hr hc => ?_) (fun r c hr hc => ?_), ?_⟩
        · by_cases q : tk a r c = true
          · have := w5 r c hr hc q; simp only [q, this.1, this.2]; rfl
          · have q' : tk a r c = false := by simpa using q
            simp only [q', Bool.and_false]
        · by_cases q : tk a r c = true
          · have := w5 r c hr hc q; simp only [q, this.1, this.2, and_self, decide_true, Bool.and_self, if_true]
          · have q' : tk a r c = false := by simpa using q
            simp only [q', Bool.and_false]
        · show f_X6_slopes _ 43 (nI a) (nI b) (nI p) (nI t) (bI true) = _
          unfold f_X6_slopes
          simp only [md_isNumber, h4, Option.bind_some, if_neg bS, e_ck43, md_isTable hM, h1, h2, h3, e_gR43_1, e_gR43_2, e_a45 (show a < 9 by omega), e_a46 (show a < 9 by omega), e_a45 (show b < 9 by omega), e_a46 (show b < 9 by omega), e_a45 (show p < 9 by omega), e_a46 (show p < 9 by omega)]
          rw [if_pos (show wi a = hi b by rw [show wi a = nI (tC a) from b2, show hi b = nI (tR b) from d1, hs.1]), if_pos (show hi p = hi a by rw [show hi p = nI (tR p) from p1, show hi a = nI (tR a) from b1, hs.2.1]), if_pos (show wi p = wi b by rw [show wi p = nI (tC p) from p2, show wi b = nI (tC b) from d2, hs.2.2]), if_neg (by decide)]
          rw [show wi a = nI (tC a) from b2, show hi a = nI (tR a) from b1, e2, Option.bind_some]
          refine e3.trans ?_
          rw [e_ck43, bindp]
    | false =>
      have eV : ∀ r c, r < 16 → c < 16 → (if tk b r c = true then sumJ (fun x => tv p x c * tv a x r) 16 else 0) = (if tk b r c = true then sumJ (fun x => tv p x c * tv a x r) (tR a) else 0) := by
        intro r c hr hc
        by_cases q : tk b r c = true
        · rw [if_pos q, if_pos q]
          exact sumJ_more (by omega) (fun x h1 h2 => by rw [hw.v0 ha hRa h2 hr (by omega)]; exact Int64.mul_zero)
        · rw [if_neg q, if_neg q]
      obtain ⟨kA, vA, e1, gA'⟩ := g_slopesR (a := d) (rc := rc) (cc := cc) (kc := kc) (vs := vs) (S := (sl, d)) (N := N) (T := T) (R := R) (B := B) (U := U) (L := L) (C := C) (H := H) hK.2.1 s2 z2 u2 s3 z3 u3 s7 z7 u7
      have gA : GC kA vA (tk b) (fun r c => if tk b r c = true then sumJ (fun x => tv p x c * tv a x r) (tR a) else 0) := gA'.congr (fun r c hr hc => rfl) (fun r c hr hc => (eV r c hr hc).symm)
      rw [show cc (g b) = nI (tC b) from z6, show rc (g b) = nI (tR b) from z4] at e1
      refine tail2 (B := B) (C := C) (H := H) (R0 := tR b) (C0 := tC b) (k := tk b) (v := fun r c => if tk b r c = true then sumJ (fun x => tv p x c * tv a x r) (tR a) else 0) hK hw hr ht ⟨hRb, y1⟩ ⟨y3, y4⟩ y5 (fun r c _ _ z => by rw [if_neg (by rw [z]; decide)]) gA ?_ ?_
      · show f_X5_slopes _ 0 (nI a) (nI b) (nI p) (nI t) (bI false) = _
        unfold f_X5_slopes
        simp only [e_ck0, kt_gridAt hK hw, h1, h2, h3, Option.bind_some, Option.map_some, om_s, kt_slot, h4, if_neg bS, e_gIcc s2, e_gIrc z2, e_gIrc u2, e_gIrc s2, e_gIcc u2, e_gIcc z2]
        rw [if_pos (show cc (g a) = rc (g b) by rw [show cc (g a) = nI (tC a) from s6, show rc (g b) = nI (tR b) from z4, hs.1]), if_pos (show rc (g p) = rc (g a) by rw [show rc (g p) = nI (tR p) from u4, show rc (g a) = nI (tR a) from s4, hs.2.1]), if_pos (show cc (g p) = cc (g b) by rw [show cc (g p) = nI (tC p) from u6, show cc (g b) = nI (tC b) from z6, hs.2.2]), if_pos (by decide), e_gR0_3, Option.bind_some, e_ckG hK.2.1]
        show (f_X2_becomeSlopesOfRight _ d (g a) (g b) (g p)).bind _ = _
        rw [e1, Option.bind_some, e_ck0, bindp]
      · intro G1 S1
        obtain ⟨th, hi, wi, kp, va⟩ := B
        obtain ⟨b1, b2, b3⟩ := (hM a ha).2 hRa
        obtain ⟨d1, d2, d3⟩ := (hM b hb).2 hRb
        obtain ⟨p1, p2, p3⟩ := (hM p hp).2 hRp
        obtain ⟨B1, e2, m1, m2⟩ := md_begin (G := G1) (S := S1) (N := N) (T := T) (R := R) (U := U) (L := L) (C := C) (H := H) (R0 := tR b) (C0 := tC b) hM
        obtain ⟨B2, m3, m4, e3⟩ := mop (G := G1) (S := S1) (N := N) (T := T) (R := R) (U := U) (L := L) (C := C) (H := H) (fun n h x => L_X6_slopes_115 43 (nI a) (nI b) (nI p) (bI false) (nI b) n (fun h32 => ck 5 h32 43 <| (f_X6_putAt h32 43 (nI t)).bind fun (h34, v35) => some (h34, v35)) h x) (fun x n k' h y => L_X6_slopes_130 43 (nI a) (nI b) (nI p) (bI false) (nI b) x n k' h y) (fun h32 => ck 5 h32 43 <| (f_X6_putAt h32 43 (nI t)).bind fun (h34, v35) => some (h34, v35))
          (fun x n k h y => ck 5 h 43 <| (f_X6_has h 43 (nI b) x y).bind fun v46 => if v46 = 0 then L_X6_slopes_130 43 (nI a) (nI b) (nI p) (bI false) (nI b) x n k h (y + 1) else if bI false = 0 then L_X6_slopes_213 h 43 (nI a) (nI p) x y FU (fun x59 => ck 5 h 43 <| (f_X6_keep h 43 x y x59).bind fun h61 => L_X6_slopes_130 43 (nI a) (nI b) (nI p) (bI false) (nI b) x n k h61 (y + 1)) 0 0 else L_X6_slopes_166 h 43 (nI b) (nI p) x y FU (fun x59 => ck 5 h 43 <| (f_X6_keep h 43 x y x59).bind fun h61 => L_X6_slopes_130 43 (nI a) (nI b) (nI p) (bI false) (nI b) x n k h61 (y + 1)) 0 0)
          b (tR b) (tC b) hb hRb y1 y4 (tk b) (fun r c => sumJ (fun x => tv p x c * tv a x r) (tR a))
          (fun n h x => by rw [L_X6_slopes_115]) (fun x n k' h y => by rw [L_X6_slopes_130])
          (fun r c n k' B hr hc hB => by
            obtain ⟨c1, c2, c3⟩ := (hB b hb).2 hRb
            rw [e_ck43, md_has c3 (by omega) (by omega) (by omega), Option.bind_some]
            by_cases q : tk b r c = true
            · rw [if_neg (by rw [q]; decide), if_pos q, if_pos (by decide), md_dotC hB ha hp hRa hRp hw (by omega) (by omega), e_ck43]
            · rw [if_pos (by rw [show tk b r c = false by simpa using q]; rfl), if_neg q]) m1 m2
        refine ⟨B2, m3, m4.congr (fun r c hr hc => ?_) (fun r c hr hc => ?_), ?_⟩
        · by_cases q : tk b r c = true
          · have := y5 r c hr hc q; simp only [q, this.1, this.2]; rfl
          · have q' : tk b r c = false := by simpa using q
            simp only [q', Bool.and_false]
        · by_cases q : tk b r c = true
          · have := y5 r c hr hc q; simp only [q, this.1, this.2, and_self, decide_true, Bool.and_self, if_true]
          · have q' : tk b r c = false := by simpa using q
            simp only [q', Bool.and_false]
        · show f_X6_slopes _ 43 (nI a) (nI b) (nI p) (nI t) (bI false) = _
          unfold f_X6_slopes
          simp only [md_isNumber, h4, Option.bind_some, if_neg bS, e_ck43, md_isTable hM, h1, h2, h3, e_gR43_1, e_gR43_2, e_a45 (show a < 9 by omega), e_a46 (show a < 9 by omega), e_a45 (show b < 9 by omega), e_a46 (show b < 9 by omega), e_a45 (show p < 9 by omega), e_a46 (show p < 9 by omega)]
          rw [if_pos (show wi a = hi b by rw [show wi a = nI (tC a) from b2, show hi b = nI (tR b) from d1, hs.1]), if_pos (show hi p = hi a by rw [show hi p = nI (tR p) from p1, show hi a = nI (tR a) from b1, hs.2.1]), if_pos (show wi p = wi b by rw [show wi p = nI (tC p) from p2, show wi b = nI (tC b) from d2, hs.2.2]), if_pos (by decide)]
          rw [show wi b = nI (tC b) from d2, show hi b = nI (tR b) from d1, e2, Option.bind_some]
          refine e3.trans ?_
          rw [e_ck43, bindp]

