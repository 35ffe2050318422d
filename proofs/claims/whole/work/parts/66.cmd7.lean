theorem isE_E {G : TG} {S : TS} {N : TN} {T : TT} {R : TR} {B : TB} {U : TU} {L : TL} {C : TC} {H : TH} : isE (E G S N T R B U L C H) := ⟨G, S, N, T, R, B, U, L, C, H, rfl⟩
theorem OK.mk {G : TG} {S : TS} {N : TN} {T : TT} {R : TR} {B : TB} {U : TU} {L : TL} {C : TC} {H : TH} {g tR tC : Nat → Nat} {tk : Nat → Nat → Nat → Bool} {tv : Nat → Nat → Nat → Int64} {nT : Nat} {qr qc : Nat → Nat} {qv : Nat → Int64} {nL : Nat} {ql : Nat → Nat} (hK : KG G S g tR tC tk tv) (hw : WFt tR tC tk tv) (hM : MG B tR tC tk tv) (hr : Rst N T R U L nT qr qc qv nL ql) : OK (E G S N T R B U L C H) := ⟨G, S, N, T, R, B, U, L, C, H, g, tR, tC, tk, tv, nT, qr, qc, qv, nL, ql, rfl, hK, hw, hM, hr⟩
theorem S2.mk {ρ : Type} {h : HP} {fx fm : HP → Option (HP × ρ)} {r : ρ} (h1 h2 : HP) (e1 : fx h = some (h1, r)) (i : isE h1) (e2 : fm h1 = some (h2, r)) (o : OK h2) : S2 h fx fm := ⟨h1, h2, r, e1, i, e2, o⟩
theorem kt_isSize (x : Int32) : (∃ m, 1 ≤ m ∧ m ≤ 16 ∧ x = nI m ∧ f_X5_isSize x = some 1 ∧ ¬ x < 1 ∧ ¬ 16 < x ∧ x ≤ 16) ∨ (f_X5_isSize x = some 0 ∧ (x < 1 ∨ (¬ x < 1 ∧ 16 < x ∧ ¬ x ≤ 16))) := by
  unfold f_X5_isSize
  by_cases q1 : x < 1
  · right; exact ⟨by rw [if_pos q1], Or.inl q1⟩
  · by_cases q2 : 16 < x
    · right; exact ⟨by rw [if_neg q1, if_pos q2], Or.inr ⟨q1, q2, Int32.not_le.mpr q2⟩⟩
    · left
      have h0 : ¬ x < 0 := fun z => q1 (Int32.lt_trans z (by decide))
      obtain ⟨j, hj, rfl⟩ := nI_of h0
      have h1 : ¬ j < 1 := fun z => q1 (nI_lt z (by decide))
      have h2 : ¬ 16 < j := fun z => q2 (nI_lt z hj)
      exact ⟨j, by omega, by omega, rfl, by rw [if_neg q1, if_neg q2], q1, q2, Int32.not_lt.mp q2⟩
theorem ahead0 : ahead (fun _ _ => false) 16 = 0 := by decide
theorem cmd_table {h : HP} (o : OK h) (x1 x2 x3 : Int32) : S2 h (fun h => f_X5_table h 0 x1 x2 x3) (fun h => f_X6_table h 43 x1 x2 x3) := by
  have oo := o
  obtain ⟨⟨rc, cc, kc, vs⟩, ⟨sl, d⟩, N, T, R, B, U, L, C, H, g, tR, tC, tk, tv, nT, qr, qc, qv, nL, ql, rfl, hK, hw, hM, hr⟩ := o
  cases h1 : ix 8 x1 with
  | none =>
    refine S2.same (r := -1) oo ?_ ?_
    · show f_X5_table _ 0 x1 x2 x3 = _
      unfold f_X5_table
      rw [kt_slot, h1, Option.bind_some, if_pos bN]
    · show f_X6_table _ 43 x1 x2 x3 = _
      unfold f_X6_table
      rw [md_isNumber, h1, Option.bind_some, if_pos bN]
  | some t =>
    obtain ⟨ht, rfl⟩ := ix_some (by decide) h1
    rcases kt_isSize x2 with ⟨m, m1, m2, rfl, m3, m4, m5, m6⟩ | ⟨m3, m4⟩
    · rcases kt_isSize x3 with ⟨n, n1, n2, rfl, n3, n4, n5, n6⟩ | ⟨n3, n4⟩
      · obtain ⟨kA, vA, e1, gA⟩ := g_begin (a := d) (rc := rc) (cc := cc) (kc := kc) (vs := vs) (S := (sl, d)) (N := N) (T := T) (R := R) (B := B) (U := U) (L := L) (C := C) (H := H) hK.2.1 (nI m) (nI n)
        obtain ⟨S', g', e2, hK'⟩ := kt_putDraft (N := N) (T := T) (R := R) (B := B) (U := U) (L := L) (C := C) (H := H) (R0 := m) (C0 := n) hK gA ht
        rw [ahead0, if_pos (by decide)] at e2
        obtain ⟨th, hi, wi, kp, va⟩ := B
        obtain ⟨⟨th1, hi1, wi1, kp1, va1⟩, e3, M1, M2⟩ := md_begin (G := (va_up rc d (nI m), va_up cc d (nI n), va_up kc d kA, va_up vs d vA)) (S := S') (N := N) (T := T) (R := R) (U := U) (L := L) (C := C) (H := H) (R0 := m) (C0 := n) hM
        obtain ⟨B2, e4, M3⟩ := md_putAt (G := (va_up rc d (nI m), va_up cc d (nI n), va_up kc d kA, va_up vs d vA)) (S := S') (N := N) (T := T) (R := R) (U := U) (L := L) (C := C) (H := H) M1 M2 m1 ht
        rw [ahead0, if_pos (by decide)] at e4
        refine S2.mk (r := 1) (E (va_up rc d (nI m), va_up cc d (nI n), va_up kc d kA, va_up vs d vA) S' N T R (th, hi, wi, kp, va) U L C H) (E (va_up rc d (nI m), va_up cc d (nI n), va_up kc d kA, va_up vs d vA) S' N T R B2 U L C H) ?_ isE_E ?_ (OK.mk hK' (hw.up m2 ⟨n1, n2⟩ (fun r c _ _ z => by cases z) (fun r c _ _ z => rfl) (by rw [ahead0]; decide)) M3 hr)
        · show f_X5_table _ 0 (nI t) (nI m) (nI n) = _
          unfold f_X5_table
          rw [kt_slot, h1, Option.bind_some, if_neg bS, m3, Option.bind_some, if_neg one_ne, n3, Option.bind_some, if_neg one_ne, e_gR0_3, Option.bind_some, e_ckG hK.2.1]
          show (f_X2_begin _ d (nI m) (nI n)).bind _ = _
          rw [e1, Option.bind_some, e_ck0, e2]; rfl
        · show f_X6_table _ 43 (nI t) (nI m) (nI n) = _
          unfold f_X6_table
          rw [md_isNumber, h1, Option.bind_some, if_neg bS, if_neg m4, if_neg m5, if_neg n4, if_pos n6, e_ck43, e3, Option.bind_some, e_ck43, e4]; rfl
      · refine S2.same (r := -2) oo ?_ ?_
        · show f_X5_table _ 0 (nI t) (nI m) x3 = _
          unfold f_X5_table
          rw [kt_slot, h1, Option.bind_some, if_neg bS, m3, Option.bind_some, if_neg one_ne, n3, Option.bind_some, if_pos rfl]
        · show f_X6_table _ 43 (nI t) (nI m) x3 = _
          unfold f_X6_table
          rw [md_isNumber, h1, Option.bind_some, if_neg bS, if_neg m4, if_neg m5]
          rcases n4 with z | ⟨z1, -, z2⟩
          · rw [if_pos z]
          · rw [if_neg z1, if_neg z2]
    · refine S2.same (r := -2) oo ?_ ?_
      · show f_X5_table _ 0 (nI t) x2 x3 = _
        unfold f_X5_table
        rw [kt_slot, h1, Option.bind_some, if_neg bS, m3, Option.bind_some, if_pos rfl]
      · show f_X6_table _ 43 (nI t) x2 x3 = _
        unfold f_X6_table
        rw [md_isNumber, h1, Option.bind_some, if_neg bS]
        rcases m4 with z | ⟨z1, z2, -⟩
        · rw [if_pos z]
        · rw [if_neg z1, if_pos z2]
theorem kt_line (x : Int32) : (∃ m, m < 16 ∧ x = nI m ∧ f_X5_isLine x = some 1 ∧ ¬ x < 0 ∧ ¬ 15 < x ∧ x ≤ 15) ∨ (f_X5_isLine x = some 0 ∧ (x < 0 ∨ (¬ x < 0 ∧ 15 < x ∧ ¬ x ≤ 15))) := by
  by_cases q1 : x < 0
  · right; exact ⟨pz_lineNo (Or.inl q1), Or.inl q1⟩
  · obtain ⟨j, hj, rfl⟩ := nI_of q1
    by_cases q2 : j < 16
    · left
      exact ⟨j, q2, rfl, pz_line q2, q1, nI_nlt (a := 15) (b := j) (by omega) (by omega) |> fun h => (show ¬ (15 : Int32) < nI j from fun z => absurd ((nI_ltI (a := 15) (by decide) hj).1 z) (by omega)), nI_le (b := 15) (by omega) (by omega)⟩
    · right
      exact ⟨pz_lineNo (Or.inr (nI_le (a := 16) (by omega) hj)), Or.inr ⟨q1, nI_lt (a := 15) (by omega) hj, fun z => absurd ((nI_leI (b := 15) hj (by decide)).1 z) (by omega)⟩⟩
theorem Rst.tri {N : TN} {T : TT} {R : TR} {U : TU} {L : TL} {nT : Nat} {qr qc : Nat → Nat} {qv : Nat → Int64} {nL : Nat} {ql : Nat → Nat} (h : Rst N T R U L nT qr qc qv nL ql) {T' : TT} {U' : TU} {nT' : Nat} {qr' qc' : Nat → Nat} {qv' : Nat → Int64} (h' : nT' ≤ 64 ∧ T'.1 = nI nT' ∧ U'.1 = nI nT' ∧ ∀ i, i < nT' → qr' i < 16 ∧ qc' i < 16 ∧ T'.2.1 i = nI (qr' i) ∧ T'.2.2.1 i = nI (qc' i) ∧ T'.2.2.2 i = qv' i ∧ U'.2.1 i = nI (16 * qr' i + qc' i) ∧ U'.2.2 i = qv' i) : Rst N T' R U' L nT' qr' qc' qv' nL ql := ⟨h', h.2⟩
theorem cmd_triple {h : HP} (o : OK h) (x1 x2 : Int32) (x3 : Int64) : S2 h (fun h => f_X5_triple h 0 x1 x2 x3) (fun h => f_X6_triple h 43 x1 x2 x3) := by
  have oo := o
  obtain ⟨G, S, N, ⟨tl, tr, tc, tw'⟩, R, B, ⟨mt, ta, tw⟩, L, C, H, g, tR, tC, tk, tv, nT, qr, qc, qv, nL, ql, rfl, hK, hw, hM, hr⟩ := o
  obtain ⟨t1, t2, t3, t4⟩ := hr.1
  rcases kt_line x1 with ⟨m, m1, rfl, m3, m4, m5, m6⟩ | ⟨m3, m4⟩
  · rcases kt_line x2 with ⟨n, n1, rfl, n3, n4, n5, n6⟩ | ⟨n3, n4⟩
    · by_cases q : nT < 64
      · have e1 : ¬ nI nT < 0 := nI_pos (by omega)
        have e2 : ¬ (64 : Int32) ≤ nI nT := nI_ge q (by decide)
        refine S2.mk (r := nI (nT + 1)) (E G S N (nI (nT + 1), upd tr nT (nI m), upd tc nT (nI n), vp_updL tw' nT x3) R B (mt, ta, tw) L C H) (E G S N (nI (nT + 1), upd tr nT (nI m), upd tc nT (nI n), vp_updL tw' nT x3) R B (nI (nT + 1), upd ta nT (nI (16 * m + n)), vp_updL tw nT x3) L C H) ?_ isE_E ?_ (OK.mk hK hw hM (hr.tri (nT' := nT + 1) (qr' := va_up qr nT m) (qc' := va_up qc nT n) (qv' := va_up qv nT x3) ⟨by omega, rfl, rfl, fun i hi => ?_⟩))
        · show f_X5_triple _ 0 (nI m) (nI n) x3 = _
          unfold f_X5_triple
          rw [m3, Option.bind_some, if_neg one_ne, n3, Option.bind_some, if_neg one_ne, e_gR0_1, Option.bind_some, e_gI2_0, Option.bind_some]
          show (if tl < 64 then _ else _) = _
          rw [show tl = nI nT from t2, if_pos (show nI nT < 64 from nI_lt q (by decide)), Option.bind_some, e_ck2]
          unfold f_X4_append
          rw [e_gI2_0, Option.bind_some]
          show (if nI nT < 0 then _ else _ : Option HP).bind _ = _
          rw [if_neg e1, Option.bind_some]
          show (if (64 : Int32) ≤ nI nT then _ else _ : Option HP).bind _ = _
          rw [if_neg e2, e_gR2_1, Option.bind_some, Option.bind_some, e_s3 q, Option.bind_some, e_gR2_2, Option.bind_some, e_gI2_0, Option.bind_some]
          show ((sI _ 4 (nI nT) (nI n)).bind _ : Option HP).bind _ = _
          rw [e_s4 q, Option.bind_some, e_gR2_3, Option.bind_some, e_gI2_0, Option.bind_some]
          show ((sJ _ 5 (nI nT) x3).bind _ : Option HP).bind _ = _
          rw [e_s5 q, Option.bind_some, e_gI2_0, Option.bind_some]
          show ((pI 3 _ 2 0 (nI nT + 1)).bind _ : Option HP).bind _ = _
          rw [e_pI2_0, Option.bind_some, Option.bind_some, e_gR0_1, Option.bind_some, e_gI2_0, Option.bind_some, nI_1]
        · show f_X6_triple _ 43 (nI m) (nI n) x3 = _
          unfold f_X6_triple
          rw [if_neg m4, if_neg m5, if_neg n4, if_pos n6, e_gI43_5, Option.bind_some]
          show (if mt = 64 then _ else _) = _
          rw [show mt = nI nT from t3, if_neg (show ¬ nI nT = 64 from fun z => absurd ((nI_eq (b := 64) (by omega) (by decide)).1 z) (by omega)), e_gR43_6, Option.bind_some, Option.bind_some, e_s49 q, Option.bind_some, e_gR43_7, Option.bind_some, e_gI43_5, Option.bind_some]
          show (sJ _ 50 (nI nT) x3).bind _ = _
          rw [e_s50 q, Option.bind_some, e_gI43_5, Option.bind_some]
          show (pI 5 _ 43 5 (nI nT + 1)).bind _ = _
          rw [e_pI43_5, Option.bind_some, e_gI43_5, Option.bind_some, nI_1, show (16 : Int32) = nI 16 from rfl, pk_mul, nI_add]
        · by_cases e : i = nT
          · subst e
            rw [va_up_self, va_up_self, va_up_self]
            exact ⟨m1, n1, pk_us, pk_us, pk_uLs, pk_us, pk_uLs⟩
          · rw [va_up_ne _ _ e, va_up_ne _ _ e, va_up_ne _ _ e]
            obtain ⟨a1, a2, a3, a4, a5, a6, a7⟩ := t4 i (by omega)
            exact ⟨a1, a2, (pk_un e).trans a3, (pk_un e).trans a4, (pk_uLn e).trans a5, (pk_un e).trans a6, (pk_uLn e).trans a7⟩
      · have e : nT = 64 := by omega
        subst e
        refine S2.same (r := -4) oo ?_ ?_
        · show f_X5_triple _ 0 (nI m) (nI n) x3 = _
          unfold f_X5_triple
          rw [m3, Option.bind_some, if_neg one_ne, n3, Option.bind_some, if_neg one_ne, e_gR0_1, Option.bind_some, e_gI2_0, Option.bind_some]
          show (if tl < 64 then _ else _) = _
          rw [show tl = nI 64 from t2, if_neg (by decide)]
        · show f_X6_triple _ 43 (nI m) (nI n) x3 = _
          unfold f_X6_triple
          rw [if_neg m4, if_neg m5, if_neg n4, if_pos n6, e_gI43_5, Option.bind_some]
          show (if mt = 64 then _ else _) = _
          rw [show mt = nI 64 from t3, if_pos (by decide)]
    · refine S2.same (r := -2) oo ?_ ?_
      · show f_X5_triple _ 0 (nI m) x2 x3 = _
        unfold f_X5_triple
        rw [m3, Option.bind_some, if_neg one_ne, n3, Option.bind_some, if_pos rfl]
      · show f_X6_triple _ 43 (nI m) x2 x3 = _
        unfold f_X6_triple
        rw [if_neg m4, if_neg m5]
        rcases n4 with z | ⟨z1, -, z2⟩
        · rw [if_pos z]
        · rw [if_neg z1, if_neg z2]
  · refine S2.same (r := -2) oo ?_ ?_
    · show f_X5_triple _ 0 x1 x2 x3 = _
      unfold f_X5_triple
      rw [m3, Option.bind_some, if_pos rfl]
    · show f_X6_triple _ 43 x1 x2 x3 = _
      unfold f_X6_triple
      rcases m4 with z | ⟨z1, z2, -⟩
      · rw [if_pos z]
      · rw [if_neg z1, if_pos z2]
theorem nu_mem {nu dn : Nat} (l2 : (nu = 15 ∧ dn = 17) ∨ (nu = 17 ∧ dn = 15)) : nu = 15 ∨ nu = 17 := by rcases l2 with h | h; exact Or.inl h.1; exact Or.inr h.1
theorem dn_mem {nu dn : Nat} (l2 : (nu = 15 ∧ dn = 17) ∨ (nu = 17 ∧ dn = 15)) : dn = 15 ∨ dn = 17 := by rcases l2 with h | h; exact Or.inr h.2; exact Or.inl h.2
theorem k_append {G : TG} {S : TS} {nu : Nat} {dn : Nat} {nl : Nat → Int32} {it : Nat → Nat → Int32} {T : TT} {R : TR} {B : TB} {U : TU} {L : TL} {C : TC} {H : TH} {a n : Nat} (ha : a = 15 ∨ a = 17) (hl : nl a = nI n) (hn : n < 16) (x : Int32) : f_X3_append (E G S (nu, dn, nl, it) T R B U L C H) a x = some (E G S (nu, dn, va_up nl a (nI (n + 1)), va_up it a (upd (it a) n x)) T R B U L C H) := by
  unfold f_X3_append
  rw [e_gIN ha, Option.bind_some]
  show (f_X5_isLine (nl a)).bind _ = _
  rw [hl, pz_line hn, Option.bind_some, if_neg one_ne, e_gRN ha, Option.bind_some, Option.bind_some, show ((nu, dn, nl, it) : TN).2.2.1 a = nI n from hl, e_sN ha hn, Option.bind_some, e_gIN ha, Option.bind_some]
  show (pI 2 _ a 0 (nl a + 1)).bind _ = _
  rw [hl, e_pIN ha, Option.bind_some, nI_1]
theorem Rst.lst {N : TN} {T : TT} {R : TR} {U : TU} {L : TL} {nT : Nat} {qr qc : Nat → Nat} {qv : Nat → Int64} {nL : Nat} {ql : Nat → Nat} (h : Rst N T R U L nT qr qc qv nL ql) {N' : TN} {L' : TL} {nL' : Nat} {ql' : Nat → Nat} (h' : nL' ≤ 16 ∧ ((N'.1 = 15 ∧ N'.2.1 = 17) ∨ (N'.1 = 17 ∧ N'.2.1 = 15)) ∧ N'.2.2.1 N'.1 = nI nL' ∧ L'.1 = nI nL' ∧ ∀ i, i < nL' → ql' i < 16 ∧ N'.2.2.2 N'.1 i = nI (ql' i) ∧ L'.2 i = nI (ql' i)) : Rst N' T R U L' nT qr qc qv nL' ql' := ⟨h.1, h', h.2.2⟩
theorem cmd_list {h : HP} (o : OK h) (x1 : Int32) : S2 h (fun h => f_X5_list h 0 x1) (fun h => f_X6_list h 43 x1) := by
  have oo := o
  obtain ⟨G, S, ⟨nu, dn, nl, it⟩, T, R, B, U, ⟨ml, lo⟩, C, H, g, tR, tC, tk, tv, nT, qr, qc, qv, nL, ql, rfl, hK, hw, hM, hr⟩ := o
  obtain ⟨l1, l2, l3, l4, l5⟩ := hr.2.1
  have hN := nu_mem l2
  rcases kt_line x1 with ⟨m, m1, rfl, m3, m4, m5, m6⟩ | ⟨m3, m4⟩
  · by_cases q : nL < 16
    · refine S2.mk (r := nI (nL + 1)) (E G S (nu, dn, va_up nl nu (nI (nL + 1)), va_up it nu (upd (it nu) nL (nI m))) T R B U (ml, lo) C H) (E G S (nu, dn, va_up nl nu (nI (nL + 1)), va_up it nu (upd (it nu) nL (nI m))) T R B U (nI (nL + 1), upd lo nL (nI m)) C H) ?_ isE_E ?_ (OK.mk hK hw hM (hr.lst (nL' := nL + 1) (ql' := va_up ql nL m) ⟨by omega, l2, va_up_self _ _ _, rfl, fun i hi => ?_⟩))
      · show f_X5_list _ 0 (nI m) = _
        unfold f_X5_list
        rw [m3, Option.bind_some, if_neg one_ne, e_gR0_4, Option.bind_some, e_gIN hN, Option.bind_some]
        show (if nl nu < 16 then _ else _) = _
        rw [show nl nu = nI nL from l3, if_pos (show nI nL < 16 from nI_lt q (by decide)), Option.bind_some, e_ckN hN]
        show (f_X3_append _ nu (nI m)).bind _ = _
        rw [k_append hN l3 q, Option.bind_some, e_gR0_4, Option.bind_some, e_gIN hN, Option.bind_some]
        show some (_, va_up nl nu (nI (nL + 1)) nu) = _
        rw [va_up_self]
      · show f_X6_list _ 43 (nI m) = _
        unfold f_X6_list
        rw [if_neg m4, if_pos m6, e_gI43_8, Option.bind_some]
        show (if ml = 16 then _ else _) = _
        rw [show ml = nI nL from l4, if_neg (show ¬ nI nL = 16 from fun z => absurd ((nI_eq (b := 16) (by omega) (by decide)).1 z) (by omega)), e_gR43_9, Option.bind_some, Option.bind_some, e_s51 q, Option.bind_some, e_gI43_8, Option.bind_some]
        show (pI 5 _ 43 8 (nI nL + 1)).bind _ = _
        rw [e_pI43_8, Option.bind_some, e_gI43_8, Option.bind_some, nI_1]
      · show va_up ql nL m i < 16 ∧ va_up it nu (upd (it nu) nL (nI m)) nu i = _ ∧ upd lo nL (nI m) i = _
        rw [va_up_self]
        by_cases e : i = nL
        · subst e
          rw [va_up_self]
          exact ⟨m1, pk_us, pk_us⟩
        · rw [va_up_ne _ _ e]
          obtain ⟨a1, a2, a3⟩ := l5 i (by omega)
          exact ⟨a1, (pk_un e).trans a2, (pk_un e).trans a3⟩
    · have e : nL = 16 := by omega
      subst e
      refine S2.same (r := -4) oo ?_ ?_
      · show f_X5_list _ 0 (nI m) = _
        unfold f_X5_list
        rw [m3, Option.bind_some, if_neg one_ne, e_gR0_4, Option.bind_some, e_gIN hN, Option.bind_some]
        show (if nl nu < 16 then _ else _) = _
        rw [show nl nu = nI 16 from l3, if_neg (by decide)]
      · show f_X6_list _ 43 (nI m) = _
        unfold f_X6_list
        rw [if_neg m4, if_pos m6, e_gI43_8, Option.bind_some]
        show (if ml = 16 then _ else _) = _
        rw [show ml = nI 16 from l4, if_pos (by decide)]
  · refine S2.same (r := -2) oo ?_ ?_
    · show f_X5_list _ 0 x1 = _
      unfold f_X5_list
      rw [m3, Option.bind_some, if_pos rfl]
    · show f_X6_list _ 43 x1 = _
      unfold f_X6_list
      rcases m4 with z | ⟨z1, -, z2⟩
      · rw [if_pos z]
      · rw [if_neg z1, if_neg z2]
