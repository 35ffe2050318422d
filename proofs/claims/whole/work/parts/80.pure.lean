/-! the law's loop -/
theorem lg_self (r : Int64) : lg_cmp r r = 0 := by
  unfold lg_cmp
  rw [if_neg (Int64.lt_irrefl), if_pos rfl]
theorem ckE0 {α : Type} {h : HP} (o : isE h) (k : Option α) : ck 4 h 0 k = k := by
  obtain ⟨G, S, N, T, R, B, U, L, C, H, rfl⟩ := o
  exact e_ck0 k
theorem ckE43 {α : Type} {h : HP} (o : isE h) (k : Option α) : ck 5 h 43 k = k := by
  obtain ⟨G, S, N, T, R, B, U, L, C, H, rfl⟩ := o
  exact e_ck43 k
theorem st2 {h : HP} (o : OK h) {fx fm : HP → Option (HP × Int32)} (s : S2 h fx fm) (K : HP → Option Int32) : ∃ h2, OK h2 ∧ (ck 4 h 0 <| (fx h).bind fun p => ck 5 p.1 43 <| (fm p.1).bind fun q => if p.2 = q.2 then K q.1 else some 0) = K h2 := by
  obtain ⟨h1, h2, r, e1, i, e2, o2⟩ := s
  refine ⟨h2, o2, ?_⟩
  rw [ckE0 o.isE, e1, Option.bind_some]
  show (ck 5 h1 43 <| (fm h1).bind _) = _
  rw [ckE43 i, e2, Option.bind_some, if_pos rfl]
theorem st2l {h : HP} (o : OK h) {fx fm : HP → Option (HP × Int64)} (s : S2 h fx fm) (K : HP → Option Int32) : ∃ h2, OK h2 ∧ (ck 4 h 0 <| (fx h).bind fun p => ck 5 p.1 43 <| (fm p.1).bind fun q => if lg_cmp p.2 q.2 = 0 then K q.1 else some 0) = K h2 := by
  obtain ⟨h1, h2, r, e1, i, e2, o2⟩ := s
  refine ⟨h2, o2, ?_⟩
  rw [ckE0 o.isE, e1, Option.bind_some]
  show (ck 5 h1 43 <| (fm h1).bind _) = _
  rw [ckE43 i, e2, Option.bind_some, if_pos (lg_self r)]
theorem str {h : HP} (o : OK h) {fx fm : HP → Option Int32} (s : SR h fx fm) (K : HP → Option Int32) : ∃ h2, OK h2 ∧ (ck 4 h 0 <| (fx h).bind fun p => ck 5 h 43 <| (fm h).bind fun q => if p = q then K h else some 0) = K h2 := by
  obtain ⟨r, e1, e2⟩ := s
  refine ⟨h, o, ?_⟩
  rw [ckE0 o.isE, e1, Option.bind_some, ckE43 o.isE, e2, Option.bind_some, if_pos rfl]
theorem strl {h : HP} (o : OK h) {fx fm : HP → Option Int64} (s : SR h fx fm) (K : HP → Option Int32) : ∃ h2, OK h2 ∧ (ck 4 h 0 <| (fx h).bind fun p => ck 5 h 43 <| (fm h).bind fun q => if lg_cmp p q = 0 then K h else some 0) = K h2 := by
  obtain ⟨r, e1, e2⟩ := s
  refine ⟨h, o, ?_⟩
  rw [ckE0 o.isE, e1, Option.bind_some, ckE43 o.isE, e2, Option.bind_some, if_pos (lg_self r)]
theorem stw {h : HP} (o : OK h) {fx : HP → Option (HP × Int32)} {fm : HP → Option Int32} (s : SW h fx fm) (K : HP → Option Int32) : ∃ h2, OK h2 ∧ (ck 4 h 0 <| (fx h).bind fun p => ck 5 p.1 43 <| (fm p.1).bind fun q => if p.2 = q then K p.1 else some 0) = K h2 := by
  obtain ⟨h1, r, e1, o1, e2⟩ := s
  refine ⟨h1, o1, ?_⟩
  rw [ckE0 o.isE, e1, Option.bind_some]
  show (ck 5 h1 43 <| (fm h1).bind _) = _
  rw [ckE43 o1.isE, e2, Option.bind_some, if_pos rfl]
theorem rdS_at {L : Nat} {xs : Nat → Int32} {p : Nat} (hp : p < L) (hL : L ≤ 4096) : rdS L xs (nI p) = some (xs p) := by
  unfold rdS
  rw [nI_clamp (by omega), if_neg]
  rintro (h | h)
  · exact nI_pos (by omega) h
  · omega
theorem rdS_c {L : Nat} {xs : Nat → Int32} {p c : Nat} (hp : p + c < L) (hL : L ≤ 4096) : rdS L xs (nI p + nI c) = some (xs (p + c)) := by
  rw [nI_add]; exact rdS_at hp hL
theorem law_sub {L : Nat} (hL : L ≤ 4096) (h8 : 8 ≤ L) : nI L - 8 = nI (L - 8) := by
  obtain ⟨q, rfl⟩ : ∃ q, L = q + 8 := ⟨L - 8, by omega⟩
  rw [← nI_add, show q + 8 - 8 = q by omega, show nI 8 = (8 : Int32) from rfl]
  apply Int32.toBitVec_inj.mp
  simp
theorem law_step {L : Nat} {xs : Nat → Int32} {j n : Nat} {h : HP} (k : HP → Option Int32) (hL : L ≤ 4096) (hj : 8 * j + 8 ≤ L) (o : OK h) : ∃ h2, OK h2 ∧ L_L_law_18 L xs 0 43 (n + 1) k h (nI (8 * j)) = L_L_law_18 L xs 0 43 n k h2 (nI (8 * j) + 8) := by
  have hx : ¬ (Int32.ofNat L - 8 < nI (8 * j)) := by
    rw [show Int32.ofNat L = nI L from rfl, law_sub hL (by omega)]
    exact nI_nlt (by omega) (by omega)
  have rd0 : rdS L xs (nI (8 * j)) = some (xs (8 * j)) := rdS_at (by omega) hL
  have rd1 : rdS L xs (nI (8 * j) + 1) = some (xs (8 * j + 1)) := rdS_c (c := 1) (by omega) hL
  have rd2 : rdS L xs (nI (8 * j) + 2) = some (xs (8 * j + 2)) := rdS_c (c := 2) (by omega) hL
  have rd3 : rdS L xs (nI (8 * j) + 3) = some (xs (8 * j + 3)) := rdS_c (c := 3) (by omega) hL
  have rd4 : rdS L xs (nI (8 * j) + 4) = some (xs (8 * j + 4)) := rdS_c (c := 4) (by omega) hL
  have rd5 : rdS L xs (nI (8 * j) + 5) = some (xs (8 * j + 5)) := rdS_c (c := 5) (by omega) hL
  have rd6 : rdS L xs (nI (8 * j) + 6) = some (xs (8 * j + 6)) := rdS_c (c := 6) (by omega) hL
  have rd7 : rdS L xs (nI (8 * j) + 7) = some (xs (8 * j + 7)) := rdS_c (c := 7) (by omega) hL
  rw [L_L_law_18, if_neg hx, rd0, rd1, rd2, rd3, rd4, rd5, rd6, rd7, Option.bind_some]
  by_cases z0 : xs (8 * j) &&& 31 = 0
  · rw [if_pos z0]
    exact st2 o (cmd_table o (xs (8 * j + 1)) (xs (8 * j + 2)) (xs (8 * j + 3))) (fun h => L_L_law_18 L xs 0 43 n k h (nI (8 * j) + 8))
  rw [if_neg z0]
  by_cases z1 : xs (8 * j) &&& 31 = 1
  · rw [if_pos z1]
    exact st2 o (cmd_triple o (xs (8 * j + 1)) (xs (8 * j + 2)) ((Int32.toInt64 (xs (8 * j + 3)) <<< (Int32.toInt64 32 &&& 63)) ||| (Int32.toInt64 (xs (8 * j + 4)) &&& 4294967295))) (fun h => L_L_law_18 L xs 0 43 n k h (nI (8 * j) + 8))
  rw [if_neg z1]
  by_cases z2 : xs (8 * j) &&& 31 = 2
  · rw [if_pos z2]
    exact st2 o (cmd_list o (xs (8 * j + 1))) (fun h => L_L_law_18 L xs 0 43 n k h (nI (8 * j) + 8))
  rw [if_neg z2]
  by_cases z3 : xs (8 * j) &&& 31 = 3
  · rw [if_pos z3]
    exact str o (cmd_listed o (xs (8 * j + 1))) (fun h => L_L_law_18 L xs 0 43 n k h (nI (8 * j) + 8))
  rw [if_neg z3]
  by_cases z4 : xs (8 * j) &&& 31 = 4
  · rw [if_pos z4]
    exact st2 o (cmd_join o (xs (8 * j + 1))) (fun h => L_L_law_18 L xs 0 43 n k h (nI (8 * j) + 8))
  rw [if_neg z4]
  by_cases z5 : xs (8 * j) &&& 31 = 5
  · rw [if_pos z5]
    exact str o (cmd_count o (xs (8 * j + 1)) (xs (8 * j + 2))) (fun h => L_L_law_18 L xs 0 43 n k h (nI (8 * j) + 8))
  rw [if_neg z5]
  by_cases z6 : xs (8 * j) &&& 31 = 6
  · rw [if_pos z6]
    exact strl o (cmd_at o (xs (8 * j + 1)) (xs (8 * j + 2)) (xs (8 * j + 3))) (fun h => L_L_law_18 L xs 0 43 n k h (nI (8 * j) + 8))
  rw [if_neg z6]
  by_cases z7 : xs (8 * j) &&& 31 = 7
  · rw [if_pos z7]
    exact str o (cmd_kept o (xs (8 * j + 1)) (xs (8 * j + 2)) (xs (8 * j + 3))) (fun h => L_L_law_18 L xs 0 43 n k h (nI (8 * j) + 8))
  rw [if_neg z7]
  by_cases z8 : xs (8 * j) &&& 31 = 8
  · rw [if_pos z8]
    exact str o (cmd_place o (xs (8 * j + 1)) (xs (8 * j + 2))) (fun h => L_L_law_18 L xs 0 43 n k h (nI (8 * j) + 8))
  rw [if_neg z8]
  by_cases z9 : xs (8 * j) &&& 31 = 9
  · rw [if_pos z9]
    exact st2 o (cmd_set o (xs (8 * j + 1)) (xs (8 * j + 2)) (xs (8 * j + 3)) ((Int32.toInt64 (xs (8 * j + 4)) <<< (Int32.toInt64 32 &&& 63)) ||| (Int32.toInt64 (xs (8 * j + 5)) &&& 4294967295))) (fun h => L_L_law_18 L xs 0 43 n k h (nI (8 * j) + 8))
  rw [if_neg z9]
  by_cases z10 : xs (8 * j) &&& 31 = 10
  · rw [if_pos z10]
    exact st2 o (cmd_prune o (xs (8 * j + 1))) (fun h => L_L_law_18 L xs 0 43 n k h (nI (8 * j) + 8))
  rw [if_neg z10]
  by_cases z11 : xs (8 * j) &&& 31 = 11
  · rw [if_pos z11]
    exact st2 o (cmd_add o (xs (8 * j + 1)) (xs (8 * j + 2)) (xs (8 * j + 3)) ((Int32.toInt64 (xs (8 * j + 4)) <<< (Int32.toInt64 32 &&& 63)) ||| (Int32.toInt64 (xs (8 * j + 5)) &&& 4294967295)) ((Int32.toInt64 (xs (8 * j + 6)) <<< (Int32.toInt64 32 &&& 63)) ||| (Int32.toInt64 (xs (8 * j + 7)) &&& 4294967295))) (fun h => L_L_law_18 L xs 0 43 n k h (nI (8 * j) + 8))
  rw [if_neg z11]
  by_cases z12 : xs (8 * j) &&& 31 = 12
  · rw [if_pos z12]
    exact st2 o (cmd_times o (xs (8 * j + 1)) (xs (8 * j + 2)) (xs (8 * j + 3))) (fun h => L_L_law_18 L xs 0 43 n k h (nI (8 * j) + 8))
  rw [if_neg z12]
  by_cases z13 : xs (8 * j) &&& 31 = 13
  · rw [if_pos z13]
    exact st2 o (cmd_each o (xs (8 * j + 1)) (xs (8 * j + 2)) (xs (8 * j + 3))) (fun h => L_L_law_18 L xs 0 43 n k h (nI (8 * j) + 8))
  rw [if_neg z13]
  by_cases z14 : xs (8 * j) &&& 31 = 14
  · rw [if_pos z14]
    by_cases q : xs (8 * j + 4) = 0
    · simp only [Option.bind_some, if_pos q]
      exact st2 o (cmd_mask o (xs (8 * j + 1)) (xs (8 * j + 2)) (xs (8 * j + 3)) false) (fun h => L_L_law_18 L xs 0 43 n k h (nI (8 * j) + 8))
    · simp only [Option.bind_some, if_neg q]
      exact st2 o (cmd_mask o (xs (8 * j + 1)) (xs (8 * j + 2)) (xs (8 * j + 3)) true) (fun h => L_L_law_18 L xs 0 43 n k h (nI (8 * j) + 8))
  rw [if_neg z14]
  by_cases z15 : xs (8 * j) &&& 31 = 15
  · rw [if_pos z15]
    exact st2 o (cmd_turn o (xs (8 * j + 1)) (xs (8 * j + 2))) (fun h => L_L_law_18 L xs 0 43 n k h (nI (8 * j) + 8))
  rw [if_neg z15]
  by_cases z16 : xs (8 * j) &&& 31 = 16
  · rw [if_pos z16]
    exact st2 o (cmd_rows o (xs (8 * j + 1)) (xs (8 * j + 2))) (fun h => L_L_law_18 L xs 0 43 n k h (nI (8 * j) + 8))
  rw [if_neg z16]
  by_cases z17 : xs (8 * j) &&& 31 = 17
  · rw [if_pos z17]
    by_cases q : xs (8 * j + 5) = 0
    · simp only [Option.bind_some, if_pos q]
      exact st2 o (cmd_slopes o (xs (8 * j + 1)) (xs (8 * j + 2)) (xs (8 * j + 3)) (xs (8 * j + 4)) false) (fun h => L_L_law_18 L xs 0 43 n k h (nI (8 * j) + 8))
    · simp only [Option.bind_some, if_neg q]
      exact st2 o (cmd_slopes o (xs (8 * j + 1)) (xs (8 * j + 2)) (xs (8 * j + 3)) (xs (8 * j + 4)) true) (fun h => L_L_law_18 L xs 0 43 n k h (nI (8 * j) + 8))
  rw [if_neg z17]
  by_cases z18 : xs (8 * j) &&& 31 = 18
  · rw [if_pos z18]
    by_cases q : xs (8 * j + 2) = 0
    · simp only [Option.bind_some, if_pos q]
      exact strl o (cmd_sum o (xs (8 * j + 1)) false (xs (8 * j + 3))) (fun h => L_L_law_18 L xs 0 43 n k h (nI (8 * j) + 8))
    · simp only [Option.bind_some, if_neg q]
      exact strl o (cmd_sum o (xs (8 * j + 1)) true (xs (8 * j + 3))) (fun h => L_L_law_18 L xs 0 43 n k h (nI (8 * j) + 8))
  rw [if_neg z18]
  by_cases z19 : xs (8 * j) &&& 31 = 19
  · rw [if_pos z19]
    exact st2 o (cmd_cost o (xs (8 * j + 1)) (xs (8 * j + 2)) (xs (8 * j + 3))) (fun h => L_L_law_18 L xs 0 43 n k h (nI (8 * j) + 8))
  rw [if_neg z19]
  by_cases z20 : xs (8 * j) &&& 31 = 20
  · rw [if_pos z20]
    exact st2 o (cmd_cheapest o (xs (8 * j + 1)) (xs (8 * j + 2))) (fun h => L_L_law_18 L xs 0 43 n k h (nI (8 * j) + 8))
  rw [if_neg z20]
  by_cases z21 : xs (8 * j) &&& 31 = 21
  · rw [if_pos z21]
    exact st2l o (cmd_cell o (xs (8 * j + 1)) (xs (8 * j + 2)) (xs (8 * j + 3)) (xs (8 * j + 4))) (fun h => L_L_law_18 L xs 0 43 n k h (nI (8 * j) + 8))
  rw [if_neg z21]
  by_cases z22 : xs (8 * j) &&& 31 = 22
  · rw [if_pos z22]
    exact st2l o (cmd_walks o (xs (8 * j + 1)) (xs (8 * j + 2)) (xs (8 * j + 3)) (xs (8 * j + 4))) (fun h => L_L_law_18 L xs 0 43 n k h (nI (8 * j) + 8))
  rw [if_neg z22]
  by_cases z23 : xs (8 * j) &&& 31 = 23
  · rw [if_pos z23]
    exact stw o (cmd_way o (xs (8 * j + 1)) (xs (8 * j + 2)) (xs (8 * j + 3))) (fun h => L_L_law_18 L xs 0 43 n k h (nI (8 * j) + 8))
  rw [if_neg z23]
  by_cases z24 : xs (8 * j) &&& 31 = 24
  · rw [if_pos z24]
    exact stw o (cmd_ring o (xs (8 * j + 1)) (xs (8 * j + 2))) (fun h => L_L_law_18 L xs 0 43 n k h (nI (8 * j) + 8))
  rw [if_neg z24]
  by_cases z25 : xs (8 * j) &&& 31 = 25
  · rw [if_pos z25]
    exact st2 o (cmd_sort o (xs (8 * j + 1))) (fun h => L_L_law_18 L xs 0 43 n k h (nI (8 * j) + 8))
  rw [if_neg z25]
  by_cases z26 : xs (8 * j) &&& 31 = 26
  · rw [if_pos z26]
    exact st2 o (cmd_narrow o (xs (8 * j + 1))) (fun h => L_L_law_18 L xs 0 43 n k h (nI (8 * j) + 8))
  rw [if_neg z26]
  by_cases z27 : xs (8 * j) &&& 31 = 27
  · rw [if_pos z27]
    exact stw o (cmd_width o (xs (8 * j + 1))) (fun h => L_L_law_18 L xs 0 43 n k h (nI (8 * j) + 8))
  rw [if_neg z27]
  exact ⟨h, o, rfl⟩
theorem law_exit {L : Nat} {xs : Nat → Int32} {j n : Nat} {h : HP} (k : HP → Option Int32) (hL : L ≤ 4096) (hj : 8 * j ≤ L) (hx : L < 8 * j + 8) : L_L_law_18 L xs 0 43 (n + 1) k h (nI (8 * j)) = k h := by
  have hx : Int32.ofNat L - 8 < nI (8 * j) := by
    by_cases q : 8 ≤ L
    · rw [show Int32.ofNat L = nI L from rfl, law_sub hL q]
      exact nI_lt (by omega) (by omega)
    · have : j = 0 := by omega
      subst this
      exact (show ∀ L, L < 8 → Int32.ofNat L - 8 < nI (8 * 0) by decide) L (by omega)
  rw [L_L_law_18, if_pos hx]
theorem law_lp {L : Nat} {xs : Nat → Int32} (hL : L ≤ 4096) : ∀ m j n h, 8 * j ≤ L → L < 8 * (j + m) + 8 → m < n → OK h → L_L_law_18 L xs 0 43 n (fun _ => some 1) h (nI (8 * j)) = some 1 := by
  intro m
  induction m with
  | zero =>
    intro j n h h1 h2 h3 o
    obtain ⟨n', rfl⟩ : ∃ n', n = n' + 1 := ⟨n - 1, by omega⟩
    exact law_exit _ hL h1 (by omega)
  | succ m ih =>
    intro j n h h1 h2 h3 o
    obtain ⟨n', rfl⟩ : ∃ n', n = n' + 1 := ⟨n - 1, by omega⟩
    by_cases q : 8 * j + 8 ≤ L
    · obtain ⟨h2', o2, e⟩ := law_step (xs := xs) (n := n') (fun _ => some 1) hL q o
      rw [e, show (8 : Int32) = nI 8 from rfl, nI_add, show 8 * j + 8 = 8 * (j + 1) by omega]
      exact ih (j + 1) n' h2' (by omega) (by omega) (by omega) o2
    · exact law_exit _ hL h1 (by omega)
theorem far_va {h : HP} {b a : Nat} {v : AC} (hb : b < 55) (ha : 55 ≤ a) : va_up h b v a = h a := va_up_ne _ _ (by omega)
theorem far_X2 {h : HP} {b a : Nat} (hb : b < 53) (ha : 55 ≤ a) : gX2 h b a = h a := by
  unfold gX2; rw [if_neg (by omega), if_neg (by omega), if_neg (by omega)]
theorem far_X3 {h : HP} {b a : Nat} (hb : b < 53) (ha : 55 ≤ a) : gX3 h b a = h a := by
  unfold gX3; rw [if_neg (by omega), if_neg (by omega)]
theorem far_X4 {h : HP} {b a : Nat} (hb : b < 50) (ha : 55 ≤ a) : gX4 h b a = h a := by
  unfold gX4; rw [if_neg (by omega), if_neg (by omega), if_neg (by omega), if_neg (by omega)]
theorem far_X1 {h : HP} {b a : Nat} (hb : b < 50) (ha : 55 ≤ a) : gX1 h b a = h a := by
  unfold gX1; rw [if_neg (by omega), if_neg (by omega), if_neg (by omega), if_neg (by omega), if_neg (by omega), if_neg (by omega)]
theorem far_X6 {h : HP} {a : Nat} (ha : 55 ≤ a) : gX6 h 43 a = h a := by
  unfold gX6; rw [if_neg (by omega), if_neg (by omega), if_neg (by omega), if_neg (by omega), if_neg (by omega), if_neg (by omega), if_neg (by omega), if_neg (by omega), if_neg (by omega), if_neg (by omega), if_neg (by omega), if_neg (by omega)]
theorem far_start {a : Nat} (ha : 55 ≤ a) : hStart a = .inl (9, []) := by
  unfold hStart
  rw [far_X6 ha, far_va (by decide) ha]
  unfold hk41; rw [far_va (by decide) ha]
  unfold hk40; rw [far_X2 (by decide) ha]
  unfold hk39; rw [far_va (by decide) ha]
  unfold hk38; rw [far_va (by decide) ha]
  unfold hk37; rw [far_X2 (by decide) ha]
  unfold hk36; rw [far_va (by decide) ha]
  unfold hk35; rw [far_va (by decide) ha]
  unfold hk34; rw [far_X2 (by decide) ha]
  unfold hk33; rw [far_va (by decide) ha]
  unfold hk32; rw [far_va (by decide) ha]
  unfold hk31; rw [far_X2 (by decide) ha]
  unfold hk30; rw [far_va (by decide) ha]
  unfold hk29; rw [far_va (by decide) ha]
  unfold hk28; rw [far_X2 (by decide) ha]
  unfold hk27; rw [far_va (by decide) ha]
  unfold hk26; rw [far_va (by decide) ha]
  unfold hk25; rw [far_X2 (by decide) ha]
  unfold hk24; rw [far_va (by decide) ha]
  unfold hk23; rw [far_va (by decide) ha]
  unfold hk22; rw [far_X2 (by decide) ha]
  unfold hk21; rw [far_va (by decide) ha]
  unfold hk20; rw [far_va (by decide) ha]
  unfold hk19; rw [far_X2 (by decide) ha]
  unfold hk18; rw [far_va (by decide) ha]
  unfold hk17; rw [far_va (by decide) ha]
  unfold hk16; rw [far_X3 (by decide) ha]
  unfold hk15; rw [far_va (by decide) ha]
  unfold hk14; rw [far_va (by decide) ha]
  unfold hk13; rw [far_X3 (by decide) ha]
  unfold hk12; rw [far_va (by decide) ha]
  unfold hk11; rw [far_va (by decide) ha]
  unfold hk10; rw [far_X2 (by decide) ha]
  unfold hk9; rw [far_va (by decide) ha]
  unfold hk8; rw [far_va (by decide) ha]
  unfold hk7; rw [far_X1 (by decide) ha]
  unfold hk6; rw [far_va (by decide) ha]
  unfold hk5; rw [far_va (by decide) ha]
  unfold hk4; rw [far_X4 (by decide) ha]
  unfold hk3; rw [far_va (by decide) ha]
  unfold hk2; rw [far_va (by decide) ha]
  unfold hk1; rw [far_va (by decide) ha]
  unfold hk0; rw [far_va (by decide) ha]
theorem isG_far {a : Nat} (ha : 55 ≤ a) : isG a = false ∧ isG (a - 1) = false ∧ isG (a - 2) = false := by
  unfold isG
  refine ⟨?_, ?_, ?_⟩ <;> (simp; omega)
def sl0 : Nat → Option Nat := va_up (va_up (va_up (va_up (va_up (va_up (va_up (va_up (fun _ => none) 0 (some 19)) 1 (some 22)) 2 (some 25)) 3 (some 28)) 4 (some 31)) 5 (some 34)) 6 (some 37)) 7 (some 40)
def E0 : HP := E (fun _ => 0, fun _ => 0, fun _ _ => 0, fun _ _ => 0) (sl0, 12) (15, 17, fun _ => 0, fun _ _ => 0) (0, fun _ => 0, fun _ => 0, fun _ => 0) (0, fun _ => 0, fun _ => 0, fun _ => 0, fun _ _ => 0, 10, 11) (fun _ => 0, fun _ => 0, fun _ => 0, fun _ => 0, fun _ => 0) (0, fun _ => 0, fun _ => 0) (0, fun _ => 0) (fun _ => 0, 0) (fun _ => 0, fun _ => 0)
theorem far_E0 {a : Nat} (ha : 55 ≤ a) : E0 a = .inl (9, []) := by
  obtain ⟨g1, g2, g3⟩ := isG_far ha
  unfold E0 E
  rw [g1, g2, g3]
  iterate 10 rw [if_neg (by omega)]
  iterate 3 rw [if_neg (by omega)]
  rw [if_neg (by decide), if_neg (by decide), if_neg (by decide)]
  iterate 12 rw [if_neg (by omega)]
theorem start_E0 : hStart = E0 := by
  funext a
  by_cases q : 55 ≤ a
  · rw [far_start q, far_E0 q]
  · have : a < 55 := by omega
    rcases a with _ | a; · rfl
    rcases a with _ | a; · rfl
    rcases a with _ | a; · rfl
    rcases a with _ | a; · rfl
    rcases a with _ | a; · rfl
    rcases a with _ | a; · rfl
    rcases a with _ | a; · rfl
    rcases a with _ | a; · rfl
    rcases a with _ | a; · rfl
    rcases a with _ | a; · rfl
    rcases a with _ | a; · rfl
    rcases a with _ | a; · rfl
    rcases a with _ | a; · rfl
    rcases a with _ | a; · rfl
    rcases a with _ | a; · rfl
    rcases a with _ | a; · rfl
    rcases a with _ | a; · rfl
    rcases a with _ | a; · rfl
    rcases a with _ | a; · rfl
    rcases a with _ | a; · rfl
    rcases a with _ | a; · rfl
    rcases a with _ | a; · rfl
    rcases a with _ | a; · rfl
    rcases a with _ | a; · rfl
    rcases a with _ | a; · rfl
    rcases a with _ | a; · rfl
    rcases a with _ | a; · rfl
    rcases a with _ | a; · rfl
    rcases a with _ | a; · rfl
    rcases a with _ | a; · rfl
    rcases a with _ | a; · rfl
    rcases a with _ | a; · rfl
    rcases a with _ | a; · rfl
    rcases a with _ | a; · rfl
    rcases a with _ | a; · rfl
    rcases a with _ | a; · rfl
    rcases a with _ | a; · rfl
    rcases a with _ | a; · rfl
    rcases a with _ | a; · rfl
    rcases a with _ | a; · rfl
    rcases a with _ | a; · rfl
    rcases a with _ | a; · rfl
    rcases a with _ | a; · rfl
    rcases a with _ | a; · rfl
    rcases a with _ | a; · rfl
    rcases a with _ | a; · rfl
    rcases a with _ | a; · rfl
    rcases a with _ | a; · rfl
    rcases a with _ | a; · rfl
    rcases a with _ | a; · rfl
    rcases a with _ | a; · rfl
    rcases a with _ | a; · rfl
    rcases a with _ | a; · rfl
    rcases a with _ | a; · rfl
    rcases a with _ | a; · rfl
    omega
theorem start_ok : OK hStart := by
  rw [start_E0]
  refine OK.mk (g := fun t => 19 + 3 * t) (tR := fun _ => 0) (tC := fun _ => 0) (tk := fun _ _ _ => false) (tv := fun _ _ _ => 0) (nT := 0) (qr := fun _ => 0) (qc := fun _ => 0) (qv := fun _ => 0) (nL := 0) (ql := fun _ => 0) ⟨fun t ht => ?_, by decide, fun t t' h1 h2 e => ?_⟩ (fun t ht => ⟨show (0 : Nat) ≤ 16 by decide, fun q => absurd q (show ¬ (1 : Nat) ≤ 0 by decide)⟩) (fun t ht => ⟨rfl, fun q => absurd q (show ¬ (1 : Nat) ≤ 0 by decide)⟩) ⟨⟨by decide, rfl, rfl, fun i hi => absurd hi (by omega)⟩, ⟨by decide, Or.inl ⟨rfl, rfl⟩, rfl, rfl, fun i hi => absurd hi (by omega)⟩, Or.inl ⟨rfl, rfl⟩⟩
  · refine ⟨?_, ?_, ?_, rfl, fun q => absurd q (show ¬ (1 : Nat) ≤ 0 by decide)⟩
    · rcases (show t = 0 ∨ t = 1 ∨ t = 2 ∨ t = 3 ∨ t = 4 ∨ t = 5 ∨ t = 6 ∨ t = 7 by omega) with rfl | rfl | rfl | rfl | rfl | rfl | rfl | rfl <;> rfl
    · rcases (show t = 0 ∨ t = 1 ∨ t = 2 ∨ t = 3 ∨ t = 4 ∨ t = 5 ∨ t = 6 ∨ t = 7 by omega) with rfl | rfl | rfl | rfl | rfl | rfl | rfl | rfl <;> decide
    · show 19 + 3 * t ≠ 12
      omega
  · have : 19 + 3 * t = 19 + 3 * t' := e
    omega
theorem law_pure (L : Nat) (xs : Nat → Int32) (hL : L ≤ 4096) : L_L_law_18 L xs 0 43 FU (fun _ => some 1) hStart 0 = some 1 :=
  law_lp (xs := xs) hL 512 0 FU hStart (by omega) (by omega) (pz_FU (by decide)) start_ok
