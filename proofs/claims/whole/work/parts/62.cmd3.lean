/-- a double loop of the reference over the places of table a that keeps some of them in the new table -/
theorem mop2 {G : TG} {S : TS} {N : TN} {T : TT} {R : TR} {B : TB} {U : TU} {L : TL} {C : TC} {H : TH} {α : Type} {tR tC : Nat → Nat} {tk : Nat → Nat → Nat → Bool} {tv : Nat → Nat → Nat → Int64} (Lo : Nat → HP → Int32 → Option α) (Li : Int32 → Nat → (HP → Option α) → HP → Int32 → Option α) (kk : HP → Option α) (Bd : Int32 → Nat → (HP → Option α) → HP → Int32 → Option α) (a a2 Rz Cz : Nat) (ha : a < 8) (hR1 : 1 ≤ tR a) (ha2 : a2 < 8) (hR2 : 1 ≤ tR a2) (hR : tR a ≤ 16) (hC : tC a2 ≤ 16) (K : Nat → Nat → Bool) (V : Nat → Nat → Int64)
    (hLo : ∀ n h x, Lo (n + 1) h x = (gR 5 h 43 1).bind fun v => (aI h v (nI a)).bind fun w => if w ≤ x then kk h else Li x FU (fun h' => Lo n h' (x + 1)) h 0)
    (hLi : ∀ x n k' h y, Li x (n + 1) k' h y = (gR 5 h 43 2).bind fun v => (aI h v (nI a2)).bind fun w => if w ≤ y then k' h else Bd x n k' h y)
    (hBd : ∀ r c n k' (B : TB), r < tR a → c < tC a2 → MG B tR tC tk tv → Bd (nI r) n k' (E G S N T R B U L C H) (nI c) = if K r c = true then (f_X6_keep (E G S N T R B U L C H) 43 (nI r) (nI c) (V r c)).bind fun h44 => Li (nI r) n k' h44 (nI c + 1) else Li (nI r) n k' (E G S N T R B U L C H) (nI c + 1))
    (hM : MG B tR tC tk tv) (hS : MS B Rz Cz (fun _ _ => false) (fun _ _ => 0)) :
    ∃ B', MG B' tR tC tk tv ∧ MS B' Rz Cz (fun r c => decide (r < tR a ∧ c < tC a2) && K r c) (fun r c => if (decide (r < tR a ∧ c < tC a2) && K r c) = true then V r c else 0) ∧ Lo FU (E G S N T R B U L C H) 0 = kk (E G S N T R B' U L C H) := by
  obtain ⟨B', ⟨h1, h2⟩, h3⟩ := mdbl Lo Li kk (fun B => E G S N T R B U L C H) (tR a) (tC a2) hR hC
    (fun r0 c0 B => MG B tR tC tk tv ∧ MS B Rz Cz (fun r c => decide (bf r0 c0 r c ∧ c < tC a2) && K r c) (fun r c => if (decide (bf r0 c0 r c ∧ c < tC a2) && K r c) = true then V r c else 0))
    (fun n B hI => by
      obtain ⟨b1, b2, b3⟩ := (hI.1 a ha).2 hR1
      rw [hLo, e_gR43_1, Option.bind_some, e_a45 (by omega), Option.bind_some, b1, if_pos (Int32.le_refl _)])
    (fun n B r hr hI => by
      obtain ⟨b1, b2, b3⟩ := (hI.1 a ha).2 hR1
      rw [hLo, e_gR43_1, Option.bind_some, e_a45 (by omega), Option.bind_some, b1, if_neg (nI_ge hr (by omega)), nI_1]; rfl)
    (fun r n k' B hr hI => by
      obtain ⟨b1, b2, b3⟩ := (hI.1 a2 ha2).2 hR2
      rw [hLi, e_gR43_2, Option.bind_some, e_a46 (by omega), Option.bind_some, b2, if_pos (Int32.le_refl _)])
    (fun r0 B hr hI => ⟨hI.1, hI.2.congr (fun r c _ _ => by
        have : (bf (r0 + 1) 0 r c ∧ c < tC a2) ↔ (bf r0 (tC a2) r c ∧ c < tC a2) := by unfold bf; omega
        simp only [this]) (fun r c _ _ => by
        have : (bf (r0 + 1) 0 r c ∧ c < tC a2) ↔ (bf r0 (tC a2) r c ∧ c < tC a2) := by unfold bf; omega
        simp only [this])⟩)
    (fun r0 c0 n k' B hr hc hI => by
      obtain ⟨b1, b2, b3⟩ := (hI.1 a2 ha2).2 hR2
      have e0 : Li (nI r0) (n + 1) k' (E G S N T R B U L C H) (nI c0) = Bd (nI r0) n k' (E G S N T R B U L C H) (nI c0) := by
        rw [hLi, e_gR43_2, Option.bind_some, e_a46 (by omega), Option.bind_some, b2, if_neg (nI_ge hc (by omega))]
      have es : ∀ r c, (r = r0 ∧ c = c0) ∨ ((bf r0 (c0 + 1) r c ∧ c < tC a2) ↔ (bf r0 c0 r c ∧ c < tC a2)) := by
        intro r c
        by_cases e : r = r0 ∧ c = c0
        · exact Or.inl e
        · right; unfold bf; omega
      have en : ¬ (bf r0 c0 r0 c0 ∧ c0 < tC a2) := by unfold bf; omega
      have ep : bf r0 (c0 + 1) r0 c0 ∧ c0 < tC a2 := by unfold bf; omega
      by_cases q : K r0 c0 = true
      · obtain ⟨th, hi, wi, kp, va⟩ := B
        obtain ⟨B', f1, f2, f3⟩ := md_keep (G := G) (S := S) (N := N) (T := T) (R := R) (U := U) (L := L) (C := C) (H := H) hI.1 hI.2 (r := r0) (c := c0) (by omega) (by omega) (V r0 c0)
        refine ⟨B', ⟨f2, f3.congr (fun r c _ _ => ?_) (fun r c _ _ => ?_)⟩, ?_⟩
        · rcases es r c with ⟨rfl, rfl⟩ | h
          · simp [k2, ep, q]
          · by_cases e : r = r0 ∧ c = c0
            · obtain ⟨rfl, rfl⟩ := e; simp [k2, ep, q]
            · have e' : ¬ (r = r0 ∧ c = c0) := fun z => e ⟨by omega, by omega⟩
              simp only [k2, if_neg e', h]
        · rcases es r c with ⟨rfl, rfl⟩ | h
          · simp [v2, ep, q]
          · by_cases e : r = r0 ∧ c = c0
            · obtain ⟨rfl, rfl⟩ := e; simp [v2, ep, q]
            · have e' : ¬ (r = r0 ∧ c = c0) := fun z => e ⟨by omega, by omega⟩
              simp only [v2, if_neg e', h]
        · rw [e0, hBd r0 c0 n k' _ hr hc hI.1, if_pos q, f1, Option.bind_some, nI_1]
      · have q' : K r0 c0 = false := by simpa using q
        refine ⟨B, ⟨hI.1, hI.2.congr (fun r c _ _ => ?_) (fun r c _ _ => ?_)⟩, ?_⟩
        · rcases es r c with ⟨rfl, rfl⟩ | h
          · simp [q']
          · simp only [h]
        · rcases es r c with ⟨rfl, rfl⟩ | h
          · simp [q']
          · simp only [h]
        · rw [e0, hBd r0 c0 n k' _ hr hc hI.1, if_neg q, nI_1])
    B ⟨hM, hS.congr (fun r c _ _ => by simp [bf]) (fun r c _ _ => by simp [bf])⟩
  refine ⟨B', h1, h2.congr (fun r c _ _ => ?_) (fun r c _ _ => ?_), h3⟩
  · have : (bf (tR a) 0 r c ∧ c < tC a2) ↔ (r < tR a ∧ c < tC a2) := by unfold bf; omega
    simp only [this]
  · have : (bf (tR a) 0 r c ∧ c < tC a2) ↔ (r < tR a ∧ c < tC a2) := by unfold bf; omega
    simp only [this]

/-- the reference's inner loop of a product -/
theorem md_dot {G : TG} {S : TS} {N : TN} {T : TT} {R : TR} {B : TB} {U : TU} {L : TL} {C : TC} {H : TH} {α : Type} {tR tC : Nat → Nat} {tk : Nat → Nat → Nat → Bool} {tv : Nat → Nat → Nat → Int64} {a b r c : Nat} (hM : MG B tR tC tk tv) (ha : a < 8) (hb : b < 8) (hRa : 1 ≤ tR a) (hRb : 1 ≤ tR b) (hw : WFt tR tC tk tv) (hr : r < 16) (hc : c < 16) (kk : Int32 → Int64 → Option (HP × Int32)) : L_X6_times_96 (E G S N T R B U L C H) 43 (nI a) (nI b) (nI r) (nI c) FU kk 0 0 0 = kk (bI (orJ (fun j => tk a r j && tk b j c) (tC a))) (sumJ (fun j => tv a r j * tv b j c) (tC a)) := by
  obtain ⟨c1, c2, c3⟩ := (hM a ha).2 hRa
  obtain ⟨f1, f2, f3⟩ := (hM b hb).2 hRb
  obtain ⟨w1, w2⟩ := hw a ha
  obtain ⟨w3, w4, w5, w6, w7⟩ := w2 hRa
  obtain ⟨y1, y2⟩ := hw b hb
  obtain ⟨y3, y4, y5, y6, y7⟩ := y2 hRb
  exact pz_lpf (fun n (s : Int32 × Int64) i => L_X6_times_96 (E G S N T R B U L C H) 43 (nI a) (nI b) (nI r) (nI c) n kk s.1 s.2 i) (kk (bI (orJ (fun j => tk a r j && tk b j c) (tC a))) (sumJ (fun j => tv a r j * tv b j c) (tC a))) (tC a) (fun i => (bI (orJ (fun j => tk a r j && tk b j c) i), sumJ (fun j => tv a r j * tv b j c) i))
    (fun n => by
      show L_X6_times_96 (E G S N T R B U L C H) 43 (nI a) (nI b) (nI r) (nI c) (n + 1) kk (bI (orJ (fun j => tk a r j && tk b j c) (tC a))) (sumJ (fun j => tv a r j * tv b j c) (tC a)) (nI (tC a)) = _
      rw [L_X6_times_96, e_gR43_2, Option.bind_some, e_a46 (by omega), Option.bind_some, c2, if_pos (Int32.le_refl _)])
    (fun n i hi => by
      have h16 : i < 16 := by omega
      show L_X6_times_96 (E G S N T R B U L C H) 43 (nI a) (nI b) (nI r) (nI c) (n + 1) kk (bI (orJ (fun j => tk a r j && tk b j c) i)) (sumJ (fun j => tv a r j * tv b j c) i) (nI i) = L_X6_times_96 (E G S N T R B U L C H) 43 (nI a) (nI b) (nI r) (nI c) n kk (bI (orJ (fun j => tk a r j && tk b j c) i || (tk a r i && tk b i c))) (sumJ (fun j => tv a r j * tv b j c) i + tv a r i * tv b i c) (nI (i + 1))
      generalize orJ (fun j => tk a r j && tk b j c) i = o0
      rw [L_X6_times_96, e_gR43_2, Option.bind_some, e_a46 (by omega), Option.bind_some, c2, if_neg (nI_ge hi (by omega))]
      simp only [e_ck43, md_has c3 (show a ≤ 8 by omega) hr h16, md_has f3 (show b ≤ 8 by omega) h16 hc, md_holds c3 (show a ≤ 8 by omega) c1 c2 w1 w4 w5 w6 hr h16, md_holds f3 (show b ≤ 8 by omega) f1 f2 y1 y4 y5 y6 h16 hc, Option.bind_some, nI_1]
      cases o0 <;> cases tk a r i <;> cases tk b i c <;> rfl) (tC a) 0 FU (by omega) (pz_FU (by omega))
theorem cmd_times {h : HP} (o : OK h) (x1 x2 x3 : Int32) : S2 h (fun h => f_X5_times h 0 x1 x2 x3) (fun h => f_X6_times h 43 x1 x2 x3) := by
  have oo := o
  obtain ⟨⟨rc, cc, kc, vs⟩, ⟨sl, d⟩, N, T, R, B, U, L, C, H, g, tR, tC, tk, tv, nT, qr, qc, qv, nL, ql, rfl, hK, hw, hM, hr⟩ := o
  cases h1 : tix tR x1 with
  | none =>
    refine S2.same (r := -1) oo ?_ ?_
    · show f_X5_times _ 0 x1 x2 x3 = _
      unfold f_X5_times
      rw [e_ck0, kt_gridAt hK hw, h1, Option.bind_some, Option.map_none, om_n, e_ck0, kt_gridAt hK hw, Option.bind_some]
      cases tix tR x2 <;> rfl
    · show f_X6_times _ 43 x1 x2 x3 = _
      unfold f_X6_times
      rw [md_isNumber, Option.bind_some, e_ck43, md_isTable hM, h1, Option.bind_some, if_pos bN]
      split <;> rfl
  | some a =>
  cases h2 : tix tR x2 with
  | none =>
    refine S2.same (r := -1) oo ?_ ?_
    · show f_X5_times _ 0 x1 x2 x3 = _
      unfold f_X5_times
      rw [e_ck0, kt_gridAt hK hw, h1, Option.bind_some, Option.map_some, om_s, e_ck0, kt_gridAt hK hw, h2, Option.bind_some]
      rfl
    · show f_X6_times _ 43 x1 x2 x3 = _
      unfold f_X6_times
      rw [md_isNumber, Option.bind_some, e_ck43, md_isTable hM, h1, Option.bind_some, if_neg bS, e_ck43, md_isTable hM, h2, Option.bind_some, if_pos bN]
      split <;> rfl
  | some b =>
  obtain ⟨ha, rfl, hRa⟩ := tix_some h1
  obtain ⟨hb, rfl, hRb⟩ := tix_some h2
  cases h3 : ix 8 x3 with
  | none =>
    refine S2.same (r := -1) oo ?_ ?_
    · show f_X5_times _ 0 (nI a) (nI b) x3 = _
      unfold f_X5_times
      rw [e_ck0, kt_gridAt hK hw, h1, Option.bind_some, Option.map_some, om_s, e_ck0, kt_gridAt hK hw, h2, Option.bind_some, Option.map_some, om_s, kt_slot, h3, Option.bind_some, if_pos bN]
    · show f_X6_times _ 43 (nI a) (nI b) x3 = _
      unfold f_X6_times
      rw [md_isNumber, h3, Option.bind_some, if_pos bN]
  | some t =>
  obtain ⟨ht, rfl⟩ := ix_some (by decide) h3
  obtain ⟨w1, w2⟩ := hw a ha
  obtain ⟨w3, w4, w5, w6, w7⟩ := w2 hRa
  obtain ⟨y1, y2⟩ := hw b hb
  obtain ⟨y3, y4, y5, y6, y7⟩ := y2 hRb
  obtain ⟨s1, s2, s3, s4, s5⟩ := hK.1 a ha
  obtain ⟨s6, s7⟩ := s5 hRa
  obtain ⟨z1, z2, z3, z4, z5⟩ := hK.1 b hb
  obtain ⟨z6, z7⟩ := z5 hRb
  by_cases hs : tC a = tR b
  rotate_left
  · refine S2.same (r := -3) oo ?_ ?_
    · show f_X5_times _ 0 (nI a) (nI b) (nI t) = _
      unfold f_X5_times
      rw [e_ck0, kt_gridAt hK hw, h1, Option.bind_some, Option.map_some, om_s, e_ck0, kt_gridAt hK hw, h2, Option.bind_some, Option.map_some, om_s, kt_slot, h3, Option.bind_some, if_neg bS, e_gIcc s2, Option.bind_some, e_gIrc z2, Option.bind_some]
      show (if cc (g a) = rc (g b) then _ else _) = _
      rw [show cc (g a) = nI (tC a) from s6, show rc (g b) = nI (tR b) from z4, if_neg (fun z => hs ((nI_eq (by omega) (by omega)).mp z))]
    · show f_X6_times _ 43 (nI a) (nI b) (nI t) = _
      obtain ⟨th, hi, wi, kp, va⟩ := B
      obtain ⟨b1, b2, b3⟩ := (hM a ha).2 hRa
      obtain ⟨d1, d2, d3⟩ := (hM b hb).2 hRb
      unfold f_X6_times
      rw [md_isNumber, h3, Option.bind_some, if_neg bS, e_ck43, md_isTable hM, h1, Option.bind_some, if_neg bS, e_ck43, md_isTable hM, h2, Option.bind_some, if_neg bS, e_gR43_2, Option.bind_some, e_a46 (by omega), Option.bind_some, e_gR43_1, Option.bind_some, e_a45 (by omega), Option.bind_some]
      show (if wi a = hi b then _ else _) = _
      rw [show wi a = nI (tC a) from b2, show hi b = nI (tR b) from d1, if_neg (fun z => hs ((nI_eq (by omega) (by omega)).mp z))]
  · have eK : ∀ r c, r < 16 → c < 16 → orJ (fun j => tk a r j && tk b j c) 16 = orJ (fun j => tk a r j && tk b j c) (tC a) := by
      intro r c hr hc
      refine orJ_more w4 (fun j h1 h2 => ?_)
      by_cases q : tk a r j = true
      · have := w5 r j hr h2 q; omega
      · simp [q]
    have eV : ∀ r c, r < 16 → c < 16 → sumJ (fun j => if (tk a r j && tk b j c) = true then tv a r j * tv b j c else 0) 16 = sumJ (fun j => tv a r j * tv b j c) (tC a) := by
      intro r c hr hc
      rw [sumJ_more w4 (fun j h1 h2 => ?_)]
      · refine sumJ_congr (fun j hj => ?_)
        by_cases q : tk a r j = true
        · by_cases q2 : tk b j c = true
          · simp [q, q2]
          · simp [q2, y6 j c (by omega) hc (by simpa using q2)]
        · simp [q, w6 r j hr (by omega) (by simpa using q)]
      · by_cases q : tk a r j = true
        · have := w5 r j hr h2 q; omega
        · simp [q]
    have hin : ∀ r c, r < 16 → c < 16 → (orJ (fun j => tk a r j && tk b j c) (tC a)) = true → r < tR a ∧ c < tC b := by
      intro r c hr hc z
      obtain ⟨j, hj, hk⟩ := orJ_true.mp z
      rw [Bool.and_eq_true] at hk
      exact ⟨(w5 r j hr (by omega) hk.1).1, (y5 j c (by omega) hc hk.2).2⟩
    have hz0 : ∀ r c, r < 16 → c < 16 → (orJ (fun j => tk a r j && tk b j c) (tC a)) = false → (sumJ (fun j => tv a r j * tv b j c) (tC a)) = 0 := by
      intro r c hr hc z
      refine sumJ_more (m := 0) (by omega) (fun j _ hj => ?_)
      have hk : (tk a r j && tk b j c) = false := by
        by_cases q : (tk a r j && tk b j c) = true
        · rw [orJ_true.mpr ⟨j, hj, q⟩] at z; cases z
        · simpa using q
      rw [Bool.and_eq_false_iff] at hk
      rcases hk with hk | hk
      · rw [w6 r j hr (by omega) hk, Int64.zero_mul]
      · rw [y6 j c (by omega) hc hk, Int64.mul_zero]
    obtain ⟨kA, vA, e1, gA'⟩ := g_product (a := d) (rc := rc) (cc := cc) (kc := kc) (vs := vs) (S := (sl, d)) (N := N) (T := T) (R := R) (B := B) (U := U) (L := L) (C := C) (H := H) hK.2.1 s2 z2 s3 z3 s7 z7
    have gA : GC kA vA (fun r c => orJ (fun j => tk a r j && tk b j c) (tC a)) (fun r c => sumJ (fun j => tv a r j * tv b j c) (tC a)) := gA'.congr (fun r c hr hc => (eK r c hr hc).symm) (fun r c hr hc => (eV r c hr hc).symm)
    rw [show cc (g b) = nI (tC b) from z6, show rc (g a) = nI (tR a) from s4] at e1
    refine tail2 (B := B) (C := C) (H := H) (R0 := tR a) (C0 := tC b) (k := fun r c => orJ (fun j => tk a r j && tk b j c) (tC a)) (v := fun r c => sumJ (fun j => tv a r j * tv b j c) (tC a)) hK hw hr ht ⟨hRa, w1⟩ ⟨y3, y4⟩ hin hz0 gA ?_ ?_
    · show f_X5_times _ 0 (nI a) (nI b) (nI t) = _
      unfold f_X5_times
      rw [e_ck0, kt_gridAt hK hw, h1, Option.bind_some, Option.map_some, om_s, e_ck0, kt_gridAt hK hw, h2, Option.bind_some, Option.map_some, om_s, kt_slot, h3, Option.bind_some, if_neg bS, e_gIcc s2, Option.bind_some, e_gIrc z2, Option.bind_some]
      show (if cc (g a) = rc (g b) then _ else _) = _
      rw [show cc (g a) = nI (tC a) from s6, show rc (g b) = nI (tR b) from z4, if_pos (by rw [hs]), e_gR0_3, Option.bind_some, e_ckG hK.2.1]
      show (f_X2_becomeProduct _ d (g a) (g b)).bind _ = _
      rw [e1, Option.bind_some, e_ck0, bindp]
    · intro G1 S1
      obtain ⟨th, hi, wi, kp, va⟩ := B
      obtain ⟨b1, b2, b3⟩ := (hM a ha).2 hRa
      obtain ⟨d1, d2, d3⟩ := (hM b hb).2 hRb
      obtain ⟨B1, e2, m1, m2⟩ := md_begin (G := G1) (S := S1) (N := N) (T := T) (R := R) (U := U) (L := L) (C := C) (H := H) (R0 := tR a) (C0 := tC b) hM
      obtain ⟨B2, m3, m4, e3⟩ := mop2 (G := G1) (S := S1) (N := N) (T := T) (R := R) (U := U) (L := L) (C := C) (H := H) (fun n h x => L_X6_times_62 43 (nI a) (nI b) n (fun h32 => ck 5 h32 43 <| (f_X6_putAt h32 43 (nI t)).bind fun (h34, v35) => some (h34, v35)) h x) (fun x n k' h y => L_X6_times_76 43 (nI a) (nI b) x n k' h y) (fun h32 => ck 5 h32 43 <| (f_X6_putAt h32 43 (nI t)).bind fun (h34, v35) => some (h34, v35))
        (fun x n k h y => L_X6_times_96 h 43 (nI a) (nI b) x y FU (fun x66 x67 => if x66 = 0 then L_X6_times_76 43 (nI a) (nI b) x n k h (y + 1) else ck 5 h 43 <| (f_X6_keep h 43 x y x67).bind fun h70 => L_X6_times_76 43 (nI a) (nI b) x n k h70 (y + 1)) 0 0 0)
        a b (tR a) (tC b) ha hRa hb hRb w1 y4 (fun r c => orJ (fun j => tk a r j && tk b j c) (tC a)) (fun r c => sumJ (fun j => tv a r j * tv b j c) (tC a))
        (fun n h x => by rw [L_X6_times_62]) (fun x n k' h y => by rw [L_X6_times_76])
        (fun r c n k' B hr hc hB => by
          rw [md_dot (α := Nat) hB ha hb hRa hRb hw (by omega) (by omega)]
          by_cases q : orJ (fun j => tk a r j && tk b j c) (tC a) = true
          · rw [if_pos q, if_neg (by rw [q]; decide), e_ck43]
          · rw [if_neg q, if_pos (by rw [show orJ (fun j => tk a r j && tk b j c) (tC a) = false by simpa using q]; rfl)]) m1 m2
      refine ⟨B2, m3, m4.congr (fun r c hr hc => ?_) (fun r c hr hc => ?_), ?_⟩
      · by_cases q : orJ (fun j => tk a r j && tk b j c) (tC a) = true
        · have := hin r c hr hc q; simp only [q, this.1, this.2]; rfl
        · have q' : orJ (fun j => tk a r j && tk b j c) (tC a) = false := by simpa using q
          simp only [q', Bool.and_false]
      · by_cases q : orJ (fun j => tk a r j && tk b j c) (tC a) = true
        · have := hin r c hr hc q; simp only [q, this.1, this.2, and_self, decide_true, Bool.and_self, if_true]
        · have q' : orJ (fun j => tk a r j && tk b j c) (tC a) = false := by simpa using q
          have q2 := hz0 r c hr hc q'
          rw [q2]; simp only [q', Bool.and_false]; rfl
      · show f_X6_times _ 43 (nI a) (nI b) (nI t) = _
        unfold f_X6_times
        rw [md_isNumber, h3, Option.bind_some, if_neg bS, e_ck43, md_isTable hM, h1, Option.bind_some, if_neg bS, e_ck43, md_isTable hM, h2, Option.bind_some, if_neg bS, e_gR43_2, Option.bind_some, e_a46 (by omega), Option.bind_some, e_gR43_1, Option.bind_some, e_a45 (by omega), Option.bind_some]
        show (if wi a = hi b then _ else _) = _
        rw [show wi a = nI (tC a) from b2, show hi b = nI (tR b) from d1, if_pos (by rw [hs])]
        simp only [Option.bind_some]
        rw [e_a45 (by omega), Option.bind_some, e_a46 (by omega), Option.bind_some, e_ck43]
        show (f_X6_begin _ 43 (hi a) (wi b)).bind _ = _
        rw [show wi b = nI (tC b) from d2, show hi a = nI (tR a) from b1, e2, Option.bind_some]
        refine e3.trans ?_
        rw [e_ck43, bindp]
