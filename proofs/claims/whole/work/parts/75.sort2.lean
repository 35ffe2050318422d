theorem x_sortL {G : TG} {S : TS} {nu : Nat} {dn : Nat} {nl : Nat → Int32} {it : Nat → Nat → Int32} {T : TT} {gz : Int32} {ar : Nat → Int32} {ne : Nat → Int32} {re : Nat → Int32} {sj : Nat → Nat → Int64} {st : Nat} {nx : Nat} {B : TB} {U : TU} {L : TL} {C : TC} {H : TH} {n : Nat} {k : Nat → Nat → Bool} (hD : dn = 15 ∨ dn = 17) (hg : GR (gz, ar, ne, re, sj, st, nx) n k) (hn : n ≤ 16) {m i : Nat} {x : Int32} (hi : i < n) (hl : nl dn = nI i) (hx : rowOK x (ss k n i)) (kk : HP → Option (HP × Int32)) : L_X1_sortInto_11 6 dn (m + 1) kk (E G S (nu, dn, nl, it) T (gz, ar, ne, re, sj, st, nx) B U L C H) x (nI i) = if od k n i < 16 then L_X1_sortInto_11 6 dn m kk (E G S (nu, dn, va_up nl dn (nI (i + 1)), va_up it dn (upd (it dn) i (nI (od k n i)))) T (gz, ar, ne, re, sj, st, nx) B U L C H) (x &&& ((1 <<< (nI (od k n i) &&& 31)) ^^^ (-1))) (nI (i + 1)) else some (E G S (nu, dn, nl, it) T (gz, ar, ne, re, sj, st, nx) B U L C H, 0) := by
  have e1 := x_lws (G := G) (S := S) (N := (nu, dn, nl, it)) (T := T) (R := (gz, ar, ne, re, sj, st, nx)) (B := B) (U := U) (L := L) (C := C) (H := H) hg.2.1 hx
  have e0 : (gz : Int32) = nI n := hg.1
  rw [L_X1_sortInto_11, if_neg (ge16 (by omega)), e_gI6_0, Option.bind_some]
  show (if gz ≤ nI i then _ else _) = _
  rw [e0, if_neg (nI_ge hi (by omega)), e_ck6]
  rw [e0] at e1
  rw [e1]
  show ((if od k n i < 16 then some (nI (od k n i)) else some (-1)).bind _) = _
  by_cases q : od k n i < 16
  · rw [if_pos q, if_pos q, Option.bind_some, if_pos (nI_pos' (by omega)), e_ckN hD, k_append hD hl (by omega), Option.bind_some, nI_1]
  · rw [if_neg q, if_neg q, Option.bind_some, if_neg (by decide)]
theorem cmd_sort {h : HP} (o : OK h) (x1 : Int32) : S2 h (fun h => f_X5_sort h 0 x1) (fun h => f_X6_sort h 43 x1) := by
  have oo := o
  obtain ⟨G, S, ⟨nu, dn, nl, it⟩, T, ⟨gz, ar, ne, re, sj, st, nx⟩, B, U, ⟨ml, lo⟩, C, H, g, tR, tC, tk, tv, nT, qr, qc, qv, nL, ql, rfl, hK, hw, hM, hr⟩ := o
  obtain ⟨l1, l2, l3, l4, l5⟩ := hr.2.1
  have hN := nu_mem l2
  have hD := dn_mem l2
  have hnd : nu ≠ dn := by rcases l2 with ⟨h1, h2⟩ | ⟨h1, h2⟩ <;> (simp only [] at h1 h2; omega)
  cases h1 : tix tR x1 with
  | none =>
    refine S2.same (r := -1) oo ?_ ?_
    · show f_X5_sort _ 0 x1 = _
      unfold f_X5_sort
      rw [e_ck0, kt_gridAt hK hw, h1, Option.bind_some]; rfl
    · show f_X6_sort _ 43 x1 = _
      unfold f_X6_sort
      rw [e_ck43, md_isTable hM, h1, Option.bind_some, if_pos bN]
  | some a =>
    obtain ⟨ha, rfl, hRa⟩ := tix_some h1
    obtain ⟨w1, w2⟩ := hw a ha
    obtain ⟨w3, w4, w5, w6, w7⟩ := w2 hRa
    obtain ⟨s1, s2, s3, s4, s5⟩ := hK.1 a ha
    obtain ⟨s6, s7⟩ := s5 hRa
    obtain ⟨b1, b2, b3⟩ := (hM a ha).2 hRa
    by_cases q : tR a = tC a
    · have hin : ∀ r c, r < 16 → c < 16 → tk a r c = true → r < tR a ∧ c < tR a := fun r c hr hc z => by have := w5 r c hr hc z; omega
      obtain ⟨ar', ne', e4, hg⟩ := x_read (G := G) (S := S) (N := (nu, dn, nl, it)) (T := T) (B := B) (U := U) (L := (ml, lo)) (C := C) (H := H) (gz := gz) (ar := ar) (ne := ne) (re := re) (sj := sj) (st := st) (nx := nx) s2 s4 s7
      generalize hk : tk a = k at *
      generalize hn : tR a = n at *
      have ex : f_X5_sort (E G S (nu, dn, nl, it) T (gz, ar, ne, re, sj, st, nx) B U (ml, lo) C H) 0 (nI a) = (L_X1_sortInto_11 6 dn FU (fun h17 => some (h17, 1)) (E G S (nu, dn, va_up nl dn 0, it) T (nI n, ar', ne', re, sj, st, nx) B U (ml, lo) C H) ((1 <<< (nI n &&& 31)) - 1) 0).bind fun (h16, v17) => if v17 = 0 then some (h16, -3) else ck 4 h16 0 <| (f_X5_putDraftNumbers h16 0).bind fun h21 => (gR 4 h21 0 4).bind fun v23 => (gI 2 h21 v23 0).bind fun v24 => some (h21, v24) := by
        unfold f_X5_sort
        rw [e_ck0, kt_gridAt hK hw, h1, Option.bind_some, Option.map_some, om_s, e_ckG s2, g_square s2 s4 s6 w1 w4, Option.bind_some, if_neg (by simp [q, bI]), e_gR0_2, Option.bind_some, e_ck6, e4, Option.bind_some, e_gR0_2, Option.bind_some, e_gR0_5, Option.bind_some, e_ck6]
        unfold f_X1_sortInto f_X3_clear
        rw [e_ckN hD, e_pIN hD, Option.bind_some, Option.bind_some, e_ck6, x_all (n := n) rfl hRa w1, Option.bind_some]
      have run : ∀ p (kk' : HP × Int32 → Option (HP × Int32)), p ≤ n → (∀ j, j < p → od k n j < 16) → (∀ m s, (∃ nl' it', s.1 = E G S (nu, dn, nl', it') T (nI n, ar', ne', re, sj, st, nx) B U (ml, lo) C H ∧ rowOK s.2 (ss k n p) ∧ nl' dn = nI p ∧ (∀ j, j < p → it' dn j = nI (od k n j)) ∧ nl' nu = nl nu ∧ it' nu = it nu) → L_X1_sortInto_11 6 dn (m + 1) (fun h17 => some (h17, 1)) s.1 s.2 (nI p) = kk' s) → ∃ s' : HP × Int32, (∃ nl' it', s'.1 = E G S (nu, dn, nl', it') T (nI n, ar', ne', re, sj, st, nx) B U (ml, lo) C H ∧ rowOK s'.2 (ss k n p) ∧ nl' dn = nI p ∧ (∀ j, j < p → it' dn j = nI (od k n j)) ∧ nl' nu = nl nu ∧ it' nu = it nu) ∧ L_X1_sortInto_11 6 dn FU (fun h17 => some (h17, 1)) (E G S (nu, dn, va_up nl dn 0, it) T (nI n, ar', ne', re, sj, st, nx) B U (ml, lo) C H) ((1 <<< (nI n &&& 31)) - 1) 0 = kk' s' := by
        intro p kk' hp hod hx
        exact pz_lp (σ := HP × Int32) (fun m s i => L_X1_sortInto_11 6 dn m (fun h17 => some (h17, 1)) s.1 s.2 i) kk' p
          (fun i s => ∃ nl' it', s.1 = E G S (nu, dn, nl', it') T (nI n, ar', ne', re, sj, st, nx) B U (ml, lo) C H ∧ rowOK s.2 (ss k n i) ∧ nl' dn = nI i ∧ (∀ j, j < i → it' dn j = nI (od k n j)) ∧ nl' nu = nl nu ∧ it' nu = it nu)
          hx
          (fun m i s hi hI => by
            obtain ⟨s1', s2'⟩ := s
            obtain ⟨nl', it', rfl, r1, r2, r3, r4, r5⟩ := hI
            refine ⟨(_, _), ⟨va_up nl' dn (nI (i + 1)), va_up it' dn (upd (it' dn) i (nI (od k n i))), rfl, r1.del (hod i hi), va_up_self _ _ _, fun j hj => ?_, ?_, ?_⟩, ?_⟩
            · rw [va_up_self]
              by_cases e : j = i
              · rw [e, pk_us]
              · rw [pk_un e]; exact r3 j (by omega)
            · rw [va_up_ne _ _ hnd]; exact r4
            · rw [va_up_ne _ _ hnd]; exact r5
            · exact (x_sortL hD hg w1 (by omega) r2 r1 _).trans (if_pos (hod i hi)))
          p 0 FU (E G S (nu, dn, va_up nl dn 0, it) T (nI n, ar', ne', re, sj, st, nx) B U (ml, lo) C H, (1 <<< (nI n &&& 31)) - 1) (by omega) (pz_FU (by omega)) ⟨va_up nl dn 0, it, rfl, rowOK.full n w1, va_up_self _ _ _, fun j hj => absurd hj (by omega), va_up_ne _ _ hnd, rfl⟩
      have em : ∀ N', f_X6_sort (E G S N' T (nI n, ar', ne', re, sj, st, nx) B U (ml, lo) C H) 43 (nI a) = L_X6_sort_23 (E G S N' T (nI n, ar', ne', re, sj, st, nx) B U (ml, lo) C H) 43 (nI a) FU (L_X6_sort_56 43 (nI a) FU (fun h27 => (gR 5 h27 43 1).bind fun v28 => (aI h27 v28 (nI a)).bind fun v29 => (pI 5 h27 43 8 v29).bind fun h30 => (gI 5 h30 43 8).bind fun v31 => some (h30, v31)) (E G S N' T (nI n, ar', ne', re, sj, st, nx) B U (ml, lo) C H) 0 0) 0 := by
        intro N'
        unfold f_X6_sort
        rw [e_ck43, md_isTable hM, h1, Option.bind_some, if_neg bS, e_ck43, md_isGraph (by omega) b1 b2 w1 w4, Option.bind_some, if_neg (by simp [q, bI])]
      have ml23 : ∀ N' (K : Option (HP × Int32)) m i, i < n → L_X6_sort_23 (E G S N' T (nI n, ar', ne', re, sj, st, nx) B U (ml, lo) C H) 43 (nI a) (m + 1) K (nI i) = if ldr k i = i then L_X6_sort_23 (E G S N' T (nI n, ar', ne', re, sj, st, nx) B U (ml, lo) C H) 43 (nI a) m K (nI (i + 1)) else some (E G S N' T (nI n, ar', ne', re, sj, st, nx) B U (ml, lo) C H, -3) := by
        intro N' K m i hi
        have hl := ldr_le k i
        rw [L_X6_sort_23, e_gR43_1, Option.bind_some, e_a45 (by omega), Option.bind_some, b1, if_neg (nI_ge hi (by omega)), e_ck43, md_leader b3 ha b1 w1 hin (by omega), Option.bind_some, nI_1]
        by_cases e : ldr k i = i
        · rw [if_pos (by rw [e]), if_pos e]
        · rw [if_neg (fun z => e ((nI_eq (by omega) (by omega)).1 z)), if_neg e]
      by_cases ac : ∀ x, x < n → ldr k x = x
      · have suc := acy_suc w1 ac n (Nat.le_refl n)
        obtain ⟨⟨h16, x16⟩, ⟨nl', it', rfl, r1, r2, r3, r4, r5⟩, e5⟩ := run n (fun s => some (s.1, 1)) (Nat.le_refl n) suc (fun m s hs => by
          obtain ⟨s1', s2'⟩ := s
          obtain ⟨nl', it', rfl, -⟩ := hs
          show L_X1_sortInto_11 6 dn (m + 1) _ (E G S (nu, dn, nl', it') T (nI n, ar', ne', re, sj, st, nx) B U (ml, lo) C H) s2' (nI n) = _
          rw [L_X1_sortInto_11]
          by_cases z : n < 16
          · rw [if_neg (ge16 z), e_gI6_0, Option.bind_some, if_pos (Int32.le_refl _)]
          · rw [show n = 16 by omega, if_pos (by decide)])
        obtain ⟨⟨h27, x27⟩, ⟨lo', rfl, u1, u2⟩, e6⟩ := pz_lp (σ := HP × Int32) (fun m s i => L_X6_sort_56 43 (nI a) m (fun h27 => (gR 5 h27 43 1).bind fun v28 => (aI h27 v28 (nI a)).bind fun v29 => (pI 5 h27 43 8 v29).bind fun h30 => (gI 5 h30 43 8).bind fun v31 => some (h30, v31)) s.1 s.2 i) (fun s => (gR 5 s.1 43 1).bind fun v28 => (aI s.1 v28 (nI a)).bind fun v29 => (pI 5 s.1 43 8 v29).bind fun h30 => (gI 5 h30 43 8).bind fun v31 => some (h30, v31)) n
          (fun i s => ∃ lo', s.1 = E G S (dn, nu, nl', it') T (nI n, ar', ne', re, sj, st, nx) B U (ml, lo') C H ∧ rowOK s.2 (fun c => decide (c < n) && !(ss k n i c)) ∧ ∀ j, j < i → lo' j = nI (od k n j))
          (fun m s hs => by
            obtain ⟨s1', s2'⟩ := s
            obtain ⟨lo', rfl, -⟩ := hs
            show L_X6_sort_56 43 (nI a) (m + 1) _ (E G S (dn, nu, nl', it') T (nI n, ar', ne', re, sj, st, nx) B U (ml, lo') C H) s2' (nI n) = _
            rw [L_X6_sort_56, e_gR43_1, Option.bind_some, e_a45 (by omega), Option.bind_some, b1, if_pos (Int32.le_refl _), Option.bind_some, e_a45 (by omega), Option.bind_some, b1])
          (fun m i s hi hI => by
            obtain ⟨s1', s2'⟩ := s
            obtain ⟨lo', rfl, u1, u2⟩ := hI
            have hoi := suc i hi
            refine ⟨(_, _), ⟨upd lo' i (nI (od k n i)), rfl, (u1.or (rowOK.one hoi)).congr (fun c hc => ?_), fun j hj => ?_⟩, ?_⟩
            · rw [ss_succ]
              by_cases e : c = od k n i
              · have : c < n := ss_lt i c (by rw [e]; exact od_ss hoi)
                simp [e, ss_lt i _ (od_ss hoi)]
              · simp [e]
            · by_cases e : j = i
              · rw [e, pk_us]
              · rw [pk_un e]; exact u2 j (by omega)
            · show L_X6_sort_56 43 (nI a) (m + 1) _ (E G S (dn, nu, nl', it') T (nI n, ar', ne', re, sj, st, nx) B U (ml, lo') C H) s2' (nI i) = _
              rw [L_X6_sort_56, e_gR43_1, Option.bind_some, e_a45 (by omega), Option.bind_some, b1, if_neg (nI_ge hi (by omega)), md_sortx b3 ha b1 w1 hin (ss_lt i) u1 hoi, e_gR43_9, Option.bind_some, e_s51 (by omega), Option.bind_some, nI_1]
              rfl)
          n 0 FU (E G S (dn, nu, nl', it') T (nI n, ar', ne', re, sj, st, nx) B U (ml, lo) C H, 0) (by omega) (pz_FU (by omega)) ⟨lo, rfl, rowOK.zero.congr (fun c _ => by simp [ss]), fun j hj => absurd hj (by omega)⟩
        have e7 := pz_lpf (fun m (_ : Unit) l => L_X6_sort_23 (E G S (dn, nu, nl', it') T (nI n, ar', ne', re, sj, st, nx) B U (ml, lo) C H) 43 (nI a) m (L_X6_sort_56 43 (nI a) FU (fun h27 => (gR 5 h27 43 1).bind fun v28 => (aI h27 v28 (nI a)).bind fun v29 => (pI 5 h27 43 8 v29).bind fun h30 => (gI 5 h30 43 8).bind fun v31 => some (h30, v31)) (E G S (dn, nu, nl', it') T (nI n, ar', ne', re, sj, st, nx) B U (ml, lo) C H) 0 0) l) _ n (fun _ => ())
          (fun m => by rw [L_X6_sort_23, e_gR43_1, Option.bind_some, e_a45 (by omega), Option.bind_some, b1, if_pos (Int32.le_refl _)])
          (fun m i hi => by rw [ml23 _ _ m i hi, if_pos (ac i hi)])
          n 0 FU (by omega) (pz_FU (by omega))
        refine S2.mk (r := nI n) (E G S (dn, nu, nl', it') T (nI n, ar', ne', re, sj, st, nx) B U (ml, lo) C H) (E G S (dn, nu, nl', it') T (nI n, ar', ne', re, sj, st, nx) B U (nI n, lo') C H) ?_ isE_E ?_ (OK.mk hK hw hM ((hr.gr (nI n) ar' ne' re sj).lst (nL' := n) (ql' := od k n) ⟨w1, ?_, r2, rfl, fun i hi => ⟨suc i hi, r3 i hi, u2 i hi⟩⟩))
        · refine ex.trans ?_
          rw [e5]
          simp only [Option.bind_some]
          rw [if_neg one_ne, e_ck0]
          unfold f_X5_putDraftNumbers
          rw [e_gR0_4, Option.bind_some, e_gR0_5, Option.bind_some, e_pR0_4, Option.bind_some, e_pR0_5, Option.bind_some, Option.bind_some, e_gR0_4, Option.bind_some, e_gIN hD, Option.bind_some]
          show some (_, nl' dn) = _
          rw [r2]
        · refine (em _).trans (e7.trans (e6.trans ?_))
          show ((gR 5 (E G S (dn, nu, nl', it') T (nI n, ar', ne', re, sj, st, nx) B U (ml, lo') C H) 43 1).bind _) = _
          rw [e_gR43_1, Option.bind_some, e_a45 (by omega), Option.bind_some, b1, e_pI43_8, Option.bind_some, e_gI43_8, Option.bind_some]
        · rcases l2 with ⟨z1, z2⟩ | ⟨z1, z2⟩
          · exact Or.inr ⟨z2, z1⟩
          · exact Or.inl ⟨z2, z1⟩
      · have hex : ∃ p, p < n ∧ ¬ od k n p < 16 := by
          by_cases z : ∃ p, p < n ∧ ¬ od k n p < 16
          · exact z
          · exfalso
            refine ac (suc_acy hin w1 (fun j hj => ?_))
            by_cases z2 : od k n j < 16
            · exact z2
            · exact absurd ⟨j, hj, z2⟩ z
        have hex2 : ∃ p, p < n ∧ ¬ ldr k p = p := by
          by_cases z : ∃ p, p < n ∧ ¬ ldr k p = p
          · exact z
          · exfalso
            refine ac (fun x hx => ?_)
            by_cases z2 : ldr k x = x
            · exact z2
            · exact absurd ⟨x, hx, z2⟩ z
        obtain ⟨p, ⟨p1, p2⟩, p3⟩ := pk_least _ hex
        obtain ⟨p', ⟨p1', p2'⟩, p3'⟩ := pk_least _ hex2
        have p4 : ∀ j, j < p → od k n j < 16 := by
          intro j hj
          by_cases z : od k n j < 16
          · exact z
          · exact absurd ⟨by omega, z⟩ (p3 j hj)
        have p4' : ∀ j, j < p' → ldr k j = j := by
          intro j hj
          by_cases z : ldr k j = j
          · exact z
          · exact absurd ⟨by omega, z⟩ (p3' j hj)
        obtain ⟨⟨h16, x16⟩, ⟨nl', it', rfl, r1, r2, r3, r4, r5⟩, e5⟩ := run p (fun s => some (s.1, 0)) (by omega) p4 (fun m s hs => by
          obtain ⟨s1', s2'⟩ := s
          obtain ⟨nl', it', rfl, r1, r2, -⟩ := hs
          exact (x_sortL hD hg w1 p1 r2 r1 _).trans (if_neg p2))
        have e7 := pz_lpf (fun m (_ : Unit) l => L_X6_sort_23 (E G S (nu, dn, nl', it') T (nI n, ar', ne', re, sj, st, nx) B U (ml, lo) C H) 43 (nI a) m (L_X6_sort_56 43 (nI a) FU (fun h27 => (gR 5 h27 43 1).bind fun v28 => (aI h27 v28 (nI a)).bind fun v29 => (pI 5 h27 43 8 v29).bind fun h30 => (gI 5 h30 43 8).bind fun v31 => some (h30, v31)) (E G S (nu, dn, nl', it') T (nI n, ar', ne', re, sj, st, nx) B U (ml, lo) C H) 0 0) l) (some (E G S (nu, dn, nl', it') T (nI n, ar', ne', re, sj, st, nx) B U (ml, lo) C H, -3)) p' (fun _ => ())
          (fun m => by rw [ml23 _ _ m p' p1', if_neg p2'])
          (fun m i hi => by rw [ml23 _ _ m i (by omega), if_pos (p4' i hi)])
          p' 0 FU (by omega) (pz_FU (by omega))
        refine S2.mk (r := -3) (E G S (nu, dn, nl', it') T (nI n, ar', ne', re, sj, st, nx) B U (ml, lo) C H) _ ?_ isE_E ((em _).trans e7) (OK.mk hK hw hM ((hr.gr (nI n) ar' ne' re sj).lst (nL' := nL) (ql' := ql) ⟨l1, l2, r4.trans l3, l4, fun i hi => ?_⟩))
        · refine ex.trans ?_
          rw [e5]
          simp only [Option.bind_some]
          rw [if_pos trivial]
        · show ql i < 16 ∧ it' nu i = _ ∧ _
          rw [r5]; exact l5 i hi
    · refine S2.same (r := -3) oo ?_ ?_
      · show f_X5_sort _ 0 (nI a) = _
        unfold f_X5_sort
        rw [e_ck0, kt_gridAt hK hw, h1, Option.bind_some, Option.map_some, om_s, e_ckG s2, g_square s2 s4 s6 w1 w4, Option.bind_some, if_pos (by simp [q, bI])]
      · show f_X6_sort _ 43 (nI a) = _
        unfold f_X6_sort
        rw [e_ck43, md_isTable hM, h1, Option.bind_some, if_neg bS, e_ck43, md_isGraph (by omega) b1 b2 w1 w4, Option.bind_some, if_pos (by simp [q, bI])]
