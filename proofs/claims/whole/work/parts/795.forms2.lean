/-! the six forms together -/
def ahm (k : Nat → Nat → Bool) (m : Nat) : Nat → Nat
  | 0 => 0
  | n + 1 => ahm k m n + cnt (k n) m
theorem ahm_ahead {k : Nat → Nat → Bool} : ∀ n, ahm k 16 n = ahead k n := by
  intro n
  induction n with
  | zero => rfl
  | succ n ih => rw [ahm, ih, ahead]
theorem ahm_col {k : Nat → Nat → Bool} {m : Nat} : ∀ n, ahm k (m + 1) n = ahm k m n + cnt (fun r => k r m) n := by
  intro n
  induction n with
  | zero => rfl
  | succ n ih => rw [ahm, ih, ahm, cnt_step, cnt_step]; omega
theorem ahm_zero {k : Nat → Nat → Bool} : ∀ n, ahm k 0 n = 0 := by
  intro n
  induction n with
  | zero => rfl
  | succ n ih => rw [ahm, ih]; rfl
theorem ahm_turn {k : Nat → Nat → Bool} {n : Nat} : ∀ m, ahm k m n = ahm (fun r c => k c r) n m := by
  intro m
  induction m with
  | zero => rw [ahm_zero]; rfl
  | succ m ih => rw [ahm_col, ih, ahm]
theorem ahead_turn (k : Nat → Nat → Bool) : ahead (fun r c => k c r) 16 = ahead k 16 := by
  rw [← ahm_ahead, ← ahm_ahead, ahm_turn]
theorem c_isForm (f b : Int32) : (∃ m n, m ≤ 5 ∧ f = nI m ∧ (m = 3 → 1 ≤ n ∧ n ≤ 4 ∧ b = nI n) ∧ f_X0_isForm f b = some 1 ∧ f_X6_isForm f b = some 1) ∨ (f_X0_isForm f b = some 0 ∧ f_X6_isForm f b = some 0) := by
  unfold f_X0_isForm f_X6_isForm
  by_cases q1 : f < 0
  · right; rw [if_pos q1, if_pos q1]; exact ⟨rfl, rfl⟩
  · rw [if_neg q1, if_neg q1]
    by_cases q2 : 5 < f
    · right; rw [if_pos q2, if_pos q2]; exact ⟨rfl, rfl⟩
    · rw [if_neg q2, if_neg q2]
      obtain ⟨m, hm, rfl⟩ := nI_of q1
      have h2 : ¬ 5 < m := fun z => q2 (nI_lt z hm)
      by_cases q3 : nI m = 3
      · rw [if_pos q3, if_pos q3]
        unfold f_X0_isBlockSide
        by_cases q4 : b < 1
        · right; rw [if_pos q4]; exact ⟨rfl, rfl⟩
        · rw [if_neg q4]
          by_cases q5 : 4 < b
          · right; rw [if_pos q5]; exact ⟨rfl, rfl⟩
          · left
            rw [if_neg q5]
            have h0 : ¬ b < 0 := fun z => q4 (Int32.lt_trans z (by decide))
            obtain ⟨j, hj, rfl⟩ := nI_of h0
            have h1 : ¬ j < 1 := fun z => q4 (nI_lt z (by decide))
            have h3 : ¬ 4 < j := fun z => q5 (nI_lt z hj)
            exact ⟨m, j, by omega, rfl, fun _ => ⟨by omega, by omega, rfl⟩, rfl, rfl⟩
      · left
        rw [if_neg q3, if_neg q3]
        exact ⟨m, 0, by omega, rfl, fun z => absurd (by rw [z]; rfl) q3, rfl, rfl⟩
def Fm (a : Nat) (f x : Int32) (len : Nat) (W : Nat → Int64) (S : TS) (N : TN) (T : TT) (R : TR) (U : TU) (L : TL) (H : TH) (g tR tC : Nat → Nat) (tk : Nat → Nat → Nat → Bool) (tv : Nat → Nat → Nat → Int64) : Prop :=
  len ≤ 2000 ∧
  (∀ G B C, KG G S g tR tC tk tv → ∃ G', KG G' S g tR tC tk tv ∧ f_X0_cellCount (E G S N T R B U L C H) (g a) f x S.2 = some (E G' S N T R B U L C H, nI len)) ∧
  (∀ G B C i, KG G S g tR tC tk tv → i < len → ∃ G', KG G' S g tR tC tk tv ∧ f_X0_cellValue (E G S N T R B U L C H) (g a) f x (nI i) S.2 = some (E G' S N T R B U L C H, W i)) ∧
  (∀ G B C, MG B tR tC tk tv → ∃ C', Laid C' len W ∧ f_X6_layOut (E G S N T R B U L C H) 43 (nI a) f x = some (E G S N T R B U L C' H))
theorem Laid0 {ce : Nat → Int64} {W : Nat → Int64} : Laid (ce, (0 : Int32)) 0 W := ⟨rfl, fun i hi => absurd hi (by omega)⟩
theorem form0 {S : TS} {N : TN} {T : TT} {R : TR} {U : TU} {L : TL} {H : TH} {g tR tC : Nat → Nat} {tk : Nat → Nat → Nat → Bool} {tv : Nat → Nat → Nat → Int64} {a : Nat} (ha : a < 8) (hRa : 1 ≤ tR a) (hw : WFt tR tC tk tv) (x : Int32) : Fm a (nI 0) x (3 * ahead (tk a) 16) (W0 (tk a) (tv a)) S N T R U L H g tR tC tk tv := by
  obtain ⟨w1, w2⟩ := hw a ha
  obtain ⟨w3, w4, w5, w6, w7⟩ := w2 hRa
  refine ⟨by omega, fun G B C hK => ?_, fun G B C i hK hi => ?_, fun G B C hM => ?_⟩
  · obtain ⟨s1, s2, s3, s4, s5⟩ := hK.1 a ha
    obtain ⟨s6, s7⟩ := s5 hRa
    refine ⟨G, hK, ?_⟩
    unfold f_X0_cellCount
    rw [e_ckG s2, g_count s2 s7, Option.bind_some, if_pos nI_0, show (3 : Int32) = nI 3 from rfl, pk_mul]
  · obtain ⟨s1, s2, s3, s4, s5⟩ := hK.1 a ha
    obtain ⟨s6, s7⟩ := s5 hRa
    refine ⟨G, hK, ?_⟩
    unfold f_X0_cellValue
    rw [if_pos nI_0, c_triples s2 s7 hi, Option.bind_some]
  · obtain ⟨b1, b2, b3⟩ := (hM a ha).2 hRa
    obtain ⟨ce, ld⟩ := C
    obtain ⟨C', e, l⟩ := md_lay0 (G := G) (S := S) (N := N) (T := T) (R := R) (U := U) (L := L) (C := (ce, 0)) (H := H) b3 ha Laid0
    refine ⟨C', l, ?_⟩
    unfold f_X6_layOut
    rw [e_pI43_11, Option.bind_some, if_pos nI_0]
    exact e
theorem form1 {S : TS} {N : TN} {T : TT} {R : TR} {U : TU} {L : TL} {H : TH} {g tR tC : Nat → Nat} {tk : Nat → Nat → Nat → Bool} {tv : Nat → Nat → Nat → Int64} {a : Nat} (ha : a < 8) (hRa : 1 ≤ tR a) (hw : WFt tR tC tk tv) (x : Int32) : Fm a (nI 1) x (tR a + 1 + ahead (tk a) 16 + ahead (tk a) 16) (W1 (tR a) (tk a) (tv a)) S N T R U L H g tR tC tk tv := by
  obtain ⟨w1, w2⟩ := hw a ha
  obtain ⟨w3, w4, w5, w6, w7⟩ := w2 hRa
  refine ⟨by omega, fun G B C hK => ?_, fun G B C i hK hi => ?_, fun G B C hM => ?_⟩
  · obtain ⟨s1, s2, s3, s4, s5⟩ := hK.1 a ha
    obtain ⟨s6, s7⟩ := s5 hRa
    refine ⟨G, hK, ?_⟩
    unfold f_X0_cellCount
    rw [e_ckG s2, g_count s2 s7, Option.bind_some, if_neg (by decide), if_pos (by decide), e_gIrc s2, Option.bind_some, s4, nI_1, show (2 : Int32) = nI 2 from rfl, pk_mul, nI_add, show tR a + 1 + 2 * ahead (tk a) 16 = tR a + 1 + ahead (tk a) 16 + ahead (tk a) 16 by omega]
  · obtain ⟨s1, s2, s3, s4, s5⟩ := hK.1 a ha
    obtain ⟨s6, s7⟩ := s5 hRa
    refine ⟨G, hK, ?_⟩
    unfold f_X0_cellValue
    rw [if_neg (by decide), if_pos (by decide), c_byRows s2 s7 s4 w1 (by unfold hL; omega), Option.bind_some]
  · obtain ⟨b1, b2, b3⟩ := (hM a ha).2 hRa
    obtain ⟨ce, ld⟩ := C
    obtain ⟨C', e, l⟩ := md_byRows (G := G) (S := S) (N := N) (T := T) (R := R) (U := U) (L := L) (C := (ce, 0)) (H := H) b3 ha b1 b2 w1 w4 w5 Laid0
    refine ⟨C', l, ?_⟩
    unfold f_X6_layOut
    rw [e_pI43_11, Option.bind_some, if_neg (by decide), if_pos (by decide), e_ck43, e, Option.bind_some]
theorem form2 {S : TS} {N : TN} {T : TT} {R : TR} {U : TU} {L : TL} {H : TH} {g tR tC : Nat → Nat} {tk : Nat → Nat → Nat → Bool} {tv : Nat → Nat → Nat → Int64} {a : Nat} (ha : a < 8) (hRa : 1 ≤ tR a) (hw : WFt tR tC tk tv) (x : Int32) : Fm a (nI 2) x (tC a + 1 + ahead (fun r c => tk a c r) 16 + ahead (fun r c => tk a c r) 16) (W1 (tC a) (fun r c => tk a c r) (fun r c => tv a c r)) S N T R U L H g tR tC tk tv := by
  obtain ⟨w1, w2⟩ := hw a ha
  obtain ⟨w3, w4, w5, w6, w7⟩ := w2 hRa
  have ht := ahead_turn (tk a)
  refine ⟨by omega, fun G B C hK => ?_, fun G B C i hK hi => ?_, fun G B C hM => ?_⟩
  · obtain ⟨s1, s2, s3, s4, s5⟩ := hK.1 a ha
    obtain ⟨s6, s7⟩ := s5 hRa
    refine ⟨G, hK, ?_⟩
    unfold f_X0_cellCount
    rw [e_ckG s2, g_count s2 s7, Option.bind_some, if_neg (by decide), if_neg (by decide), if_pos (by decide), e_gIcc s2, Option.bind_some, s6, nI_1, show (2 : Int32) = nI 2 from rfl, pk_mul, nI_add, ht, show tC a + 1 + 2 * ahead (tk a) 16 = tC a + 1 + ahead (tk a) 16 + ahead (tk a) 16 by omega]
  · obtain ⟨s1, s2, s3, s4, s5⟩ := hK.1 a ha
    obtain ⟨s6, s7⟩ := s5 hRa
    obtain ⟨rc, cc, kc, vs⟩ := G
    obtain ⟨sl, d⟩ := S
    obtain ⟨kA, vA, e1, gA⟩ := g_turned (a := d) (rc := rc) (cc := cc) (kc := kc) (vs := vs) (S := (sl, d)) (N := N) (T := T) (R := R) (B := B) (U := U) (L := L) (C := C) (H := H) hK.2.1 s2 s3 s7 w6
    rw [show cc (g a) = nI (tC a) from s6, show rc (g a) = nI (tR a) from s4] at e1
    refine ⟨_, hK.draft (nI (tC a)) (nI (tR a)) kA vA, ?_⟩
    unfold f_X0_cellValue
    rw [if_neg (by decide), if_neg (by decide), if_pos (by decide)]
    show (ck 1 _ d <| (f_X2_becomeTurned _ d (g a)).bind _) = _
    rw [e_ckG hK.2.1, e1, Option.bind_some, c_byRows (k := fun r c => tk a c r) (v := fun r c => tv a c r) (R0 := tC a) hK.2.1 (by simpa only [va_up_self] using gA) (va_up_self _ _ _) w4 (by unfold hL; omega), Option.bind_some]
  · obtain ⟨b1, b2, b3⟩ := (hM a ha).2 hRa
    obtain ⟨ce, ld⟩ := C
    obtain ⟨C', e, l⟩ := md_byColumns (G := G) (S := S) (N := N) (T := T) (R := R) (U := U) (L := L) (C := (ce, 0)) (H := H) (k := fun r c => tk a c r) (v := fun r c => tv a c r) b3 ha b2 b1 w4 w1 (fun r c hr hc z => by have := w5 c r hc hr z; omega) Laid0
    refine ⟨C', l, ?_⟩
    unfold f_X6_layOut
    rw [e_pI43_11, Option.bind_some, if_neg (by decide), if_neg (by decide), if_pos (by decide), e_ck43, e, Option.bind_some]
theorem form3 {S : TS} {N : TN} {T : TT} {R : TR} {U : TU} {L : TL} {H : TH} {g tR tC : Nat → Nat} {tk : Nat → Nat → Nat → Bool} {tv : Nat → Nat → Nat → Int64} {a : Nat} (ha : a < 8) (hRa : 1 ≤ tR a) (hw : WFt tR tC tk tv) {b : Nat} (hb : 1 ≤ b) (hb4 : b ≤ 4) : Fm a (nI 3) (nI b) (hL ((tR a + b - 1) / b) (kb b (tk a)) + ahead (kb b (tk a)) 16 * (b * b)) (W3 b ((tR a + b - 1) / b) (kb b (tk a)) (tv a)) S N T R U L H g tR tC tk tv := by
  obtain ⟨w1, w2⟩ := hw a ha
  obtain ⟨w3, w4, w5, w6, w7⟩ := w2 hRa
  obtain ⟨d1, d2, d3⟩ := blk_bd hb hb4 w1 w4 w5
  have hal := ahead_le (kb b (tk a)) 16
  refine ⟨by unfold hL; omega, fun G B C hK => ?_, fun G B C i hK hi => ?_, fun G B C hM => ?_⟩
  · obtain ⟨s1, s2, s3, s4, s5⟩ := hK.1 a ha
    obtain ⟨s6, s7⟩ := s5 hRa
    obtain ⟨rc, cc, kc, vs⟩ := G
    obtain ⟨sl, d⟩ := S
    obtain ⟨kA, vA, e1, gA⟩ := g_blocks (a := d) (rc := rc) (cc := cc) (kc := kc) (vs := vs) (S := (sl, d)) (N := N) (T := T) (R := R) (B := B) (U := U) (L := L) (C := C) (H := H) hK.2.1 s2 s3 s7 s4 s6 w1 w4 hb hb4
    refine ⟨_, hK.draft (nI ((tR a + b - 1) / b)) (nI ((tC a + b - 1) / b)) kA vA, ?_⟩
    unfold f_X0_cellCount
    rw [e_ckG s2, g_count s2 s7, Option.bind_some, if_neg (by decide), if_neg (by decide), if_neg (by decide), if_pos (by decide)]
    show (ck 1 _ d <| (f_X2_becomeBlocks _ d (g a) (nI b)).bind _) = _
    rw [e_ckG hK.2.1, e1, Option.bind_some]
    have hq : GC (va_up kc d kA d) (va_up vs d vA d) (kb b (tk a)) (fun _ _ => 0) := by simpa only [va_up_self] using gA
    show (f_X0_headLength _ d).bind _ = _
    rw [c_headLen (R0 := (tR a + b - 1) / b) (k := kb b (tk a)) hK.2.1 hq (va_up_self _ _ _), Option.bind_some, e_ckG hK.2.1, g_count hK.2.1 hq, Option.bind_some, pk_mul, pk_mul, nI_add, Nat.mul_assoc]
  · obtain ⟨s1, s2, s3, s4, s5⟩ := hK.1 a ha
    obtain ⟨s6, s7⟩ := s5 hRa
    obtain ⟨rc, cc, kc, vs⟩ := G
    obtain ⟨sl, d⟩ := S
    obtain ⟨kA, vA, e1, gA⟩ := g_blocks (a := d) (rc := rc) (cc := cc) (kc := kc) (vs := vs) (S := (sl, d)) (N := N) (T := T) (R := R) (B := B) (U := U) (L := L) (C := C) (H := H) hK.2.1 s2 s3 s7 s4 s6 w1 w4 hb hb4
    have hK' := hK.draft (nI ((tR a + b - 1) / b)) (nI ((tC a + b - 1) / b)) kA vA
    refine ⟨_, hK', ?_⟩
    obtain ⟨t1, t2, t3, t4, t5⟩ := hK'.1 a ha
    obtain ⟨t6, t7⟩ := t5 hRa
    unfold f_X0_cellValue
    rw [if_neg (by decide), if_neg (by decide), if_neg (by decide), if_pos (by decide)]
    show (ck 1 _ d <| (f_X2_becomeBlocks _ d (g a) (nI b)).bind _) = _
    rw [e_ckG hK.2.1, e1, Option.bind_some]
    have hq : GC (va_up kc d kA d) (va_up vs d vA d) (kb b (tk a)) (fun _ _ => 0) := by simpa only [va_up_self] using gA
    show (f_X0_blocksCell _ (g a) d (nI b) (nI i)).bind _ = _
    rw [c_blocks (Rb := (tR a + b - 1) / b) (q := kb b (tk a)) s2 hK.2.1 t7 hq (va_up_self _ _ _) d1 hb hb4 d3 hi, Option.bind_some]
  · obtain ⟨b1, b2, b3⟩ := (hM a ha).2 hRa
    obtain ⟨ce, ld⟩ := C
    obtain ⟨C', e, l⟩ := md_blocks (G := G) (S := S) (N := N) (T := T) (R := R) (U := U) (L := L) (C := (ce, 0)) (H := H) b3 ha b1 b2 w1 w4 w5 w6 hb hb4 Laid0
    refine ⟨C', l, ?_⟩
    unfold f_X6_layOut
    rw [e_pI43_11, Option.bind_some, if_neg (by decide), if_neg (by decide), if_neg (by decide), if_pos (by decide), e_ck43, e, Option.bind_some]
theorem form4 {S : TS} {N : TN} {T : TT} {R : TR} {U : TU} {L : TL} {H : TH} {g tR tC : Nat → Nat} {tk : Nat → Nat → Nat → Bool} {tv : Nat → Nat → Nat → Int64} {a : Nat} (ha : a < 8) (hRa : 1 ≤ tR a) (hw : WFt tR tC tk tv) (x : Int32) : Fm a (nI 4) x (tR a * tC a) (W4 (tC a) (tv a)) S N T R U L H g tR tC tk tv := by
  obtain ⟨w1, w2⟩ := hw a ha
  obtain ⟨w3, w4, w5, w6, w7⟩ := w2 hRa
  have hb : tR a * tC a ≤ 16 * 16 := Nat.mul_le_mul w1 w4
  refine ⟨by omega, fun G B C hK => ?_, fun G B C i hK hi => ?_, fun G B C hM => ?_⟩
  · obtain ⟨s1, s2, s3, s4, s5⟩ := hK.1 a ha
    obtain ⟨s6, s7⟩ := s5 hRa
    refine ⟨G, hK, ?_⟩
    unfold f_X0_cellCount
    rw [e_ckG s2, g_count s2 s7, Option.bind_some, if_neg (by decide), if_neg (by decide), if_neg (by decide), if_neg (by decide), if_pos (by decide), e_gIrc s2, Option.bind_some, e_gIcc s2, Option.bind_some, s4, s6, pk_mul]
  · obtain ⟨s1, s2, s3, s4, s5⟩ := hK.1 a ha
    obtain ⟨s6, s7⟩ := s5 hRa
    refine ⟨G, hK, ?_⟩
    unfold f_X0_cellValue
    rw [if_neg (by decide), if_neg (by decide), if_neg (by decide), if_neg (by decide), if_pos (by decide), c_full s2 s7 s6 w1 w3 w4 hi, Option.bind_some, W4]
  · obtain ⟨b1, b2, b3⟩ := (hM a ha).2 hRa
    obtain ⟨ce, ld⟩ := C
    obtain ⟨C', e, l⟩ := md_lay4 (G := G) (S := S) (N := N) (T := T) (R := R) (U := U) (L := L) (C := (ce, 0)) (H := H) b3 ha b1 b2 w1 w3 w4 w5 w6 Laid0
    refine ⟨C', l, ?_⟩
    unfold f_X6_layOut
    rw [e_pI43_11, Option.bind_some, if_neg (by decide), if_neg (by decide), if_neg (by decide), if_neg (by decide), if_pos (by decide)]
    exact e
theorem form5 {S : TS} {N : TN} {T : TT} {R : TR} {U : TU} {L : TL} {H : TH} {g tR tC : Nat → Nat} {tk : Nat → Nat → Nat → Bool} {tv : Nat → Nat → Nat → Int64} {a : Nat} (ha : a < 8) (hRa : 1 ≤ tR a) (hw : WFt tR tC tk tv) (x : Int32) : Fm a (nI 5) x (cnt (sk (tk a)) 31 * (tR a + 1)) (W5 (tR a) (tk a) (tv a)) S N T R U L H g tR tC tk tv := by
  obtain ⟨w1, w2⟩ := hw a ha
  obtain ⟨w3, w4, w5, w6, w7⟩ := w2 hRa
  have hb : cnt (sk (tk a)) 31 * (tR a + 1) ≤ 31 * 17 := Nat.mul_le_mul (cnt_le _ _) (by omega)
  refine ⟨by omega, fun G B C hK => ?_, fun G B C i hK hi => ?_, fun G B C hM => ?_⟩
  · obtain ⟨s1, s2, s3, s4, s5⟩ := hK.1 a ha
    obtain ⟨s6, s7⟩ := s5 hRa
    refine ⟨G, hK, ?_⟩
    unfold f_X0_cellCount
    rw [e_ckG s2, g_count s2 s7, Option.bind_some, if_neg (by decide), if_neg (by decide), if_neg (by decide), if_neg (by decide), if_neg (by decide), if_pos (by decide), c_slantCount s2 s7, Option.bind_some, e_gIrc s2, Option.bind_some, s4, nI_1, pk_mul]
  · obtain ⟨s1, s2, s3, s4, s5⟩ := hK.1 a ha
    obtain ⟨s6, s7⟩ := s5 hRa
    refine ⟨G, hK, ?_⟩
    unfold f_X0_cellValue
    rw [if_neg (by decide), if_neg (by decide), if_neg (by decide), if_neg (by decide), if_neg (by decide), if_pos (by decide), c_slants s2 s7 s4 w1 hi, Option.bind_some]
  · obtain ⟨b1, b2, b3⟩ := (hM a ha).2 hRa
    obtain ⟨ce, ld⟩ := C
    obtain ⟨C', e, l⟩ := md_slants (G := G) (S := S) (N := N) (T := T) (R := R) (U := U) (L := L) (C := (ce, 0)) (H := H) b3 ha b1 b2 w1 w4 w5 w6 Laid0
    refine ⟨C', l, ?_⟩
    unfold f_X6_layOut
    rw [e_pI43_11, Option.bind_some, if_neg (by decide), if_neg (by decide), if_neg (by decide), if_neg (by decide), if_neg (by decide), e_ck43, e, Option.bind_some]
theorem forms {S : TS} {N : TN} {T : TT} {R : TR} {U : TU} {L : TL} {H : TH} {g tR tC : Nat → Nat} {tk : Nat → Nat → Nat → Bool} {tv : Nat → Nat → Nat → Int64} {a : Nat} (ha : a < 8) (hRa : 1 ≤ tR a) (hw : WFt tR tC tk tv) {m n : Nat} (hm : m ≤ 5) {x : Int32} (hx : m = 3 → 1 ≤ n ∧ n ≤ 4 ∧ x = nI n) : ∃ len W, Fm a (nI m) x len W S N T R U L H g tR tC tk tv := by
  rcases (show m = 0 ∨ m = 1 ∨ m = 2 ∨ m = 3 ∨ m = 4 ∨ m = 5 by omega) with rfl | rfl | rfl | rfl | rfl | rfl
  · exact ⟨_, _, form0 ha hRa hw x⟩
  · exact ⟨_, _, form1 ha hRa hw x⟩
  · exact ⟨_, _, form2 ha hRa hw x⟩
  · obtain ⟨h1, h2, rfl⟩ := hx rfl
    exact ⟨_, _, form3 ha hRa hw h1 h2⟩
  · exact ⟨_, _, form4 ha hRa hw x⟩
  · exact ⟨_, _, form5 ha hRa hw x⟩
