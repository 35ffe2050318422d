theorem W3_hd {b Rb : Nat} {q : Nat → Nat → Bool} {v : Nat → Nat → Int64} {m : Nat} (h : m ≤ Rb) : W3 b Rb q v m = lN (ahead q m) := by
  unfold W3 hL hdN
  rw [if_pos (by omega), if_pos h]
theorem W3_col {b Rb : Nat} {q : Nat → Nat → Bool} {v : Nat → Nat → Int64} {p : Nat} (hp : p < 256) (h : kf q p = true) : W3 b Rb q v (Rb + 1 + cnt (kf q) p) = lN (p % 16) := by
  have h1 := cnt_lt hp h
  rw [ahead256] at h1
  unfold W3 hL hdN
  rw [if_pos (by omega), if_neg (by omega), show Rb + 1 + cnt (kf q) p - Rb - 1 = cnt (kf q) p by omega, sel_cnt hp h]
theorem W3_val {b Rb : Nat} {q : Nat → Nat → Bool} {v : Nat → Nat → Int64} {p u : Nat} (hp : p < 256) (h : kf q p = true) (hu : u < b * b) : W3 b Rb q v (hL Rb q + (cnt (kf q) p * (b * b) + u)) = vx v 16 16 (nI (p / 16 * b + u / b)) (nI (p % 16 * b + u % b)) := by
  have e1 : hL Rb q + (cnt (kf q) p * (b * b) + u) - hL Rb q = cnt (kf q) p * (b * b) + u := by omega
  have e2 : (cnt (kf q) p * (b * b) + u) / (b * b) = cnt (kf q) p := by
    rw [Nat.mul_comm, Nat.mul_add_div (by omega), Nat.div_eq_of_lt hu]; rfl
  have e3 : (cnt (kf q) p * (b * b) + u) % (b * b) = u := by
    rw [Nat.mul_comm, Nat.mul_add_mod, Nat.mod_eq_of_lt hu]
  unfold W3
  rw [if_neg (by omega), e1, e2, e3, sel_cnt hp h]
theorem blk_lt {b R0 x : Nat} (hb : 1 ≤ b) (hb4 : b ≤ 4) (hR : R0 ≤ 16) (h : x < (R0 + b - 1) / b) : b * x < 16 := by
  rcases (show b = 1 ∨ b = 2 ∨ b = 3 ∨ b = 4 by omega) with rfl | rfl | rfl | rfl <;> omega
theorem md_layBlock {G : TG} {S : TS} {N : TN} {T : TT} {R : TR} {B : TB} {U : TU} {L : TL} {C : TC} {H : TH} {t b x y R0 C0 Rb : Nat} {k q : Nat → Nat → Bool} {v : Nat → Nat → Int64} (hm : MC B.2.2.2.1 B.2.2.2.2 t k v) (ht : t < 8) (h1 : B.2.1 t = nI R0) (h2 : B.2.2.1 t = nI C0) (hR : R0 ≤ 16) (hC : C0 ≤ 16) (hin : ∀ r c, r < 16 → c < 16 → k r c = true → r < R0 ∧ c < C0) (hz : ∀ r c, r < 16 → c < 16 → k r c = false → v r c = 0) (hb : 1 ≤ b) (hb4 : b ≤ 4) (hx : x < 16) (hy : y < 16) (hq : q x y = true) (hbd : ahead q 16 * (b * b) ≤ 324) (hRb : Rb ≤ 16) (hL0 : Laid C (hL Rb q + cnt (kf q) (16 * x + y) * (b * b)) (W3 b Rb q v)) : ∃ C', f_X6_layBlock (E G S N T R B U L C H) 43 (nI t) (nI b) (nI x) (nI y) (nI 1) = some (E G S N T R B U L C' H) ∧ Laid C' (hL Rb q + (cnt (kf q) (16 * x + y) + 1) * (b * b)) (W3 b Rb q v) := by
  have h0 : ∀ r c, r < 16 → c < 16 → ¬ (r < R0 ∧ c < C0) → v r c = 0 := by
    intro r c hr hc hh
    cases q : k r c with
    | true => exact absurd (hin r c hr hc q) hh
    | false => exact hz r c hr hc q
  have hkf : kf q (16 * x + y) = true := by rw [kf_at hy]; exact hq
  have hcl := cnt_lt (f := kf q) (p := 16 * x + y) (n := 256) (by omega) hkf
  rw [ahead256] at hcl
  have hal := ahead_le q 16
  have hl : hL Rb q = Rb + 1 + ahead q 16 := rfl
  have hbb : b * b ≤ 16 := Nat.mul_le_mul hb4 hb4
  have hcb : (cnt (kf q) (16 * x + y) + 1) * (b * b) ≤ ahead q 16 * (b * b) := Nat.mul_le_mul_right _ hcl
  rw [Nat.add_mul, Nat.one_mul] at hcb ⊢
  obtain ⟨s', ⟨C3, e, f3⟩, e3⟩ := pz_lp (fun n h l => L_X6_layBlock_16 43 (nI t) (nI b) (nI x) (nI y) n (fun h14 => some h14) h l) (fun h14 => some h14) (b * b)
    (fun u h => ∃ C3, h = E G S N T R B U L C3 H ∧ Laid C3 (hL Rb q + (cnt (kf q) (16 * x + y) * (b * b) + u)) (W3 b Rb q v))
    (fun n s _ => by rw [L_X6_layBlock_16, pk_mul, if_pos (Int32.le_refl _)])
    (fun n u s hu hI => by
      obtain ⟨C3, rfl, f3⟩ := hI
      have a1 : W3 b Rb q v (hL Rb q + (cnt (kf q) (16 * x + y) * (b * b) + u)) = vx v R0 C0 (nI (b * x + u / b)) (nI (b * y + u % b)) := by
        rw [W3_val (by omega) hkf hu, show (16 * x + y) / 16 = x by omega, show (16 * x + y) % 16 = y by omega, Nat.mul_comm x, Nat.mul_comm y, vx_eq hR hC h0]
      obtain ⟨C4, e4, f4⟩ := md_lay (G := G) (S := S) (N := N) (T := T) (R := R) (B := B) (U := U) (L := L) (H := H) f3 (by omega) a1.symm
      refine ⟨_, ⟨C4, rfl, f4⟩, ?_⟩
      rw [L_X6_layBlock_16, pk_mul, if_neg (nI_ge hu (by omega)), nz_pos (by omega) (by omega), nz_pos (by omega) (by omega), e_ck43, pk_mul, pk_mul, pk_rem (by omega) (by omega) (by omega), pk_div (by omega) (by omega) (by omega), nI_add, nI_add, md_holdsx hm (by omega) h1 h2 hR hC hz, Option.bind_some, e_ck43, e4, Option.bind_some, nI_1])
    (b * b) 0 FU (E G S N T R B U L C H) (by omega) (pz_FU (by omega)) ⟨C, rfl, hL0⟩
  subst e
  refine ⟨C3, ?_, f3⟩
  unfold f_X6_layBlock
  rw [if_neg (by decide)]
  exact e3
theorem md_blocks {G : TG} {S : TS} {N : TN} {T : TT} {R : TR} {B : TB} {U : TU} {L : TL} {C : TC} {H : TH} {t b R0 C0 : Nat} {k : Nat → Nat → Bool} {v : Nat → Nat → Int64} (hm : MC B.2.2.2.1 B.2.2.2.2 t k v) (ht : t < 8) (h1 : B.2.1 t = nI R0) (h2 : B.2.2.1 t = nI C0) (hR : R0 ≤ 16) (hC : C0 ≤ 16) (hin : ∀ r c, r < 16 → c < 16 → k r c = true → r < R0 ∧ c < C0) (hz : ∀ r c, r < 16 → c < 16 → k r c = false → v r c = 0) (hb : 1 ≤ b) (hb4 : b ≤ 4) (hL0 : Laid C 0 (W3 b ((R0 + b - 1) / b) (kb b k) v)) : ∃ C', f_X6_blocks (E G S N T R B U L C H) 43 (nI t) (nI b) = some (E G S N T R B U L C' H) ∧ Laid C' (hL ((R0 + b - 1) / b) (kb b k) + ahead (kb b k) 16 * (b * b)) (W3 b ((R0 + b - 1) / b) (kb b k) v) := by
  obtain ⟨bR, bC, bd⟩ := blk_bd (k := k) hb hb4 hR hC hin
  have hinb := kb_in (k := k) hb hb4 hin
  have ltR : ∀ x, x < (R0 + b - 1) / b → b * x < 16 := fun x h => blk_lt hb hb4 hR h
  have ltC : ∀ x, x < (C0 + b - 1) / b → b * x < 16 := fun x h => blk_lt hb hb4 hC h
  have eR : (nI R0 + nI b - 1) / nI b = nI ((R0 + b - 1) / b) := by
    rw [nI_add, show (1 : Int32) = nI 1 from rfl, pk_sub (by omega), pk_div (by omega) (by omega) (by omega)]
  have eC : (nI C0 + nI b - 1) / nI b = nI ((C0 + b - 1) / b) := by
    rw [nI_add, show (1 : Int32) = nI 1 from rfl, pk_sub (by omega), pk_div (by omega) (by omega) (by omega)]
  generalize hRb : (R0 + b - 1) / b = Rb at *
  generalize hCb : (C0 + b - 1) / b = Cb at *
  have isb : ∀ (C2 : TC) x y, x < Rb → y < Cb → f_X6_isBlock (E G S N T R B U L C2 H) 43 (nI t) (nI b) (nI x) (nI y) = some (bI (kb b k x y)) := fun C2 x y hx hy => md_isBlock hm ht hb hb4 (ltR x hx) (ltC y hy)
  generalize hq : kb b k = q at *
  have hal := ahead_le q 16
  have hl : hL Rb q = Rb + 1 + ahead q 16 := rfl
  have hcnt : ∀ x y, y ≤ 16 → cnt (kf q) (16 * x + y) = ahead q x + cnt (q x) y := fun x y hy => by rw [cnt_kf q hy, ahead_kf]
  -- the head
  obtain ⟨⟨h15, x15⟩, ⟨C1, rfl, rfl, f1⟩, e1⟩ := pz_lp (σ := HP × Int32) (fun m s i => L_X6_blocks_33 43 (nI t) (nI b) (nI Rb) (nI Cb) m (fun h17 x18 => ck 5 h17 43 <| (f_X6_lay h17 43 (Int32.toInt64 x18)).bind fun h20 => L_X6_blocks_101 43 (nI t) (nI b) (nI Rb) (nI Cb) FU (fun h34 => some h34) h20 0) s.1 s.2 i) (fun s => ck 5 s.1 43 <| (f_X6_lay s.1 43 (Int32.toInt64 s.2)).bind fun h20 => L_X6_blocks_101 43 (nI t) (nI b) (nI Rb) (nI Cb) FU (fun h34 => some h34) h20 0) Rb
    (fun i s => ∃ C1, s.1 = E G S N T R B U L C1 H ∧ s.2 = nI (ahead q i) ∧ Laid C1 i (W3 b Rb q v))
    (fun m s hI => by
      obtain ⟨s1, s2⟩ := s
      obtain ⟨C1, rfl, rfl, f1⟩ := hI
      show L_X6_blocks_33 43 (nI t) (nI b) (nI Rb) (nI Cb) (m + 1) _ (E G S N T R B U L C1 H) (nI (ahead q Rb)) (nI Rb) = _
      rw [L_X6_blocks_33, if_pos (Int32.le_refl _)])
    (fun m i s hi hI => by
      obtain ⟨s1, s2⟩ := s
      obtain ⟨C1, rfl, rfl, f1⟩ := hI
      have hai := ahead_le q i
      obtain ⟨C2, e2, f2⟩ := md_lay (G := G) (S := S) (N := N) (T := T) (R := R) (B := B) (U := U) (L := L) (H := H) f1 (by omega) (x := lN (ahead q i)) (W3_hd (by omega)).symm
      have inner := pz_lpf (fun m' s l => L_X6_blocks_49 (E G S N T R B U L C2 H) 43 (nI t) (nI b) (nI Cb) (nI i) m' (fun x16 => L_X6_blocks_33 43 (nI t) (nI b) (nI Rb) (nI Cb) m (fun h17 x18 => ck 5 h17 43 <| (f_X6_lay h17 43 (Int32.toInt64 x18)).bind fun h20 => L_X6_blocks_101 43 (nI t) (nI b) (nI Rb) (nI Cb) FU (fun h34 => some h34) h20 0) (E G S N T R B U L C2 H) x16 (nI (i + 1))) s l) (L_X6_blocks_33 43 (nI t) (nI b) (nI Rb) (nI Cb) m (fun h17 x18 => ck 5 h17 43 <| (f_X6_lay h17 43 (Int32.toInt64 x18)).bind fun h20 => L_X6_blocks_101 43 (nI t) (nI b) (nI Rb) (nI Cb) FU (fun h34 => some h34) h20 0) (E G S N T R B U L C2 H) (nI (ahead q (i + 1))) (nI (i + 1))) Cb (fun c => nI (ahead q i + cnt (q i) c))
        (fun m' => by rw [L_X6_blocks_49, if_pos (Int32.le_refl _), row_end (k := q) bC (show i < 16 by omega) hinb]; rfl)
        (fun m' c hc => by
          rw [L_X6_blocks_49, if_neg (nI_ge hc (by omega)), e_ck43, isb C2 i c hi hc, Option.bind_some, nI_1, nI_1, Int32.add_zero, cnt_step]
          cases q i c with
          | true => rw [if_neg (by decide), if_pos rfl]; rfl
          | false => rw [if_pos (by decide), if_neg (by decide)]; rfl)
        Cb 0 FU (by omega) (pz_FU (by omega))
      refine ⟨(_, _), ⟨C2, rfl, rfl, f2⟩, ?_⟩
      show L_X6_blocks_33 43 (nI t) (nI b) (nI Rb) (nI Cb) (m + 1) _ (E G S N T R B U L C1 H) (nI (ahead q i)) (nI i) = _
      rw [L_X6_blocks_33, if_neg (nI_ge hi (by omega)), e_ck43, nI_l (by omega), e2, Option.bind_some, nI_1]
      exact inner)
    Rb 0 FU (E G S N T R B U L C H, 0) (by omega) (pz_FU (by omega)) ⟨C, rfl, rfl, hL0⟩
  have haR := ahead_le q Rb
  obtain ⟨C2, e2, f2⟩ := md_lay (G := G) (S := S) (N := N) (T := T) (R := R) (B := B) (U := U) (L := L) (H := H) f1 (by omega) (x := lN (ahead q Rb)) (W3_hd (by omega)).symm
  -- the two parts
  have part : ∀ (pt o u : Nat) (C2 : TC) (kk : HP → Option HP), (∀ (C3 : TC) x y, x < Rb → y < Cb → q x y = true → Laid C3 (o + cnt (kf q) (16 * x + y) * u) (W3 b Rb q v) → ∃ C4, f_X6_layBlock (E G S N T R B U L C3 H) 43 (nI t) (nI b) (nI x) (nI y) (nI pt) = some (E G S N T R B U L C4 H) ∧ Laid C4 (o + (cnt (kf q) (16 * x + y) + 1) * u) (W3 b Rb q v)) → Laid C2 o (W3 b Rb q v) → ∃ C3, L_X6_blocks_110 43 (nI t) (nI b) (nI Rb) (nI Cb) (nI pt) FU kk (E G S N T R B U L C2 H) 0 = kk (E G S N T R B U L C3 H) ∧ Laid C3 (o + ahead q 16 * u) (W3 b Rb q v) := by
    intro pt o u C2 kk hlay f2
    obtain ⟨s', ⟨C3, e, f3⟩, e3⟩ := pz_lp (fun m h i => L_X6_blocks_110 43 (nI t) (nI b) (nI Rb) (nI Cb) (nI pt) m kk h i) kk Rb
      (fun i h => ∃ C3, h = E G S N T R B U L C3 H ∧ Laid C3 (o + cnt (kf q) (16 * i) * u) (W3 b Rb q v))
      (fun m s _ => by rw [L_X6_blocks_110, if_pos (Int32.le_refl _)])
      (fun m i s hi hI => by
        obtain ⟨C3, rfl, f3⟩ := hI
        obtain ⟨s2, ⟨C5, e5, f5⟩, e6⟩ := pz_lp (fun m' h l => L_X6_blocks_119 43 (nI t) (nI b) (nI Cb) (nI pt) (nI i) m' (fun h32 => L_X6_blocks_110 43 (nI t) (nI b) (nI Rb) (nI Cb) (nI pt) m kk h32 (nI (i + 1))) h l) (fun h32 => L_X6_blocks_110 43 (nI t) (nI b) (nI Rb) (nI Cb) (nI pt) m kk h32 (nI (i + 1))) Cb
          (fun c h => ∃ C5, h = E G S N T R B U L C5 H ∧ Laid C5 (o + cnt (kf q) (16 * i + c) * u) (W3 b Rb q v))
          (fun m' s _ => by rw [L_X6_blocks_119, if_pos (Int32.le_refl _)])
          (fun m' c s hc hI => by
            obtain ⟨C5, rfl, f5⟩ := hI
            have ekf : kf q (16 * i + c) = q i c := kf_at (by omega)
            have estp : cnt (kf q) (16 * i + (c + 1)) = cnt (kf q) (16 * i + c) + (if q i c = true then 1 else 0) := by
              show cnt (kf q) (16 * i + c + 1) = _
              rw [cnt_step, ekf]
            by_cases z : q i c = true
            · obtain ⟨C6, e7, f6⟩ := hlay C5 i c hi hc z f5
              refine ⟨_, ⟨C6, rfl, by rw [estp, if_pos z]; exact f6⟩, ?_⟩
              rw [L_X6_blocks_119, if_neg (nI_ge hc (by omega)), e_ck43, isb C5 i c hi hc, Option.bind_some, z, if_neg (by decide), e_ck43, e7, Option.bind_some, nI_1]
            · refine ⟨_, ⟨C5, rfl, by rw [estp, if_neg z]; exact f5⟩, ?_⟩
              rw [L_X6_blocks_119, if_neg (nI_ge hc (by omega)), e_ck43, isb C5 i c hi hc, Option.bind_some, show q i c = false by simpa using z, if_pos (by decide), nI_1])
          Cb 0 FU (E G S N T R B U L C3 H) (by omega) (pz_FU (by omega)) ⟨C3, rfl, f3⟩
        subst e5
        refine ⟨_, ⟨C5, rfl, ?_⟩, ?_⟩
        · have : cnt (kf q) (16 * (i + 1)) = cnt (kf q) (16 * i + Cb) := by
            rw [hcnt i Cb bC, row_end (k := q) bC (show i < 16 by omega) hinb, ← ahead_kf]; rfl
          rw [this]; exact f5
        · rw [L_X6_blocks_110, if_neg (nI_ge hi (by omega)), nI_1]
          exact e6)
      Rb 0 FU (E G S N T R B U L C2 H) (by omega) (pz_FU (by omega)) ⟨C2, rfl, by rw [show cnt (kf q) (16 * 0) * u = 0 by show 0 * u = 0; omega]; exact f2⟩
    subst e
    refine ⟨C3, e3, ?_⟩
    rw [← ahead_end bR hinb, ahead_kf]; exact f3
  obtain ⟨C3, e3, f3⟩ := part 0 (Rb + 1) 1 C2 (fun h33 => L_X6_blocks_101 43 (nI t) (nI b) (nI Rb) (nI Cb) 5999 (fun h34 => some h34) h33 (nI 1)) (fun C3 x y hx hy hxy f3 => by
      have hcl := cnt_lt (f := kf q) (p := 16 * x + y) (n := 256) (by omega) (by rw [kf_at (by omega)]; exact hxy)
      rw [ahead256] at hcl
      rw [Nat.mul_one] at f3 ⊢
      obtain ⟨C4, e4, f4⟩ := md_lay (G := G) (S := S) (N := N) (T := T) (R := R) (B := B) (U := U) (L := L) (H := H) f3 (by omega) (x := lN y) (by rw [W3_col (by omega) (by rw [kf_at (by omega)]; exact hxy), show (16 * x + y) % 16 = y by omega])
      refine ⟨C4, ?_, f4⟩
      unfold f_X6_layBlock
      rw [if_pos nI_0, e_ck43, nI_l (by omega), e4, Option.bind_some]) f2
  rw [Nat.mul_one] at f3
  obtain ⟨C4, e4, f4⟩ := part 1 (hL Rb q) (b * b) C3 (fun h33 => L_X6_blocks_101 43 (nI t) (nI b) (nI Rb) (nI Cb) 5998 (fun h34 => some h34) h33 (nI 2)) (fun C3 x y hx hy hxy f3 => md_layBlock hm ht h1 h2 hR hC hin hz hb hb4 (by omega) (by omega) hxy bd bR f3) f3
  have e7 : ∀ n h, L_X6_blocks_101 43 (nI t) (nI b) (nI Rb) (nI Cb) (n + 1) (fun h35 => some h35) h 0 = L_X6_blocks_110 43 (nI t) (nI b) (nI Rb) (nI Cb) (nI 0) FU (fun h34 => L_X6_blocks_101 43 (nI t) (nI b) (nI Rb) (nI Cb) n (fun h35 => some h35) h34 (nI 1)) h 0 := by
    intro n h
    rw [L_X6_blocks_101, if_neg (by decide)]; rfl
  have e5 : ∀ n h, L_X6_blocks_101 43 (nI t) (nI b) (nI Rb) (nI Cb) (n + 1) (fun h35 => some h35) h (nI 1) = L_X6_blocks_110 43 (nI t) (nI b) (nI Rb) (nI Cb) (nI 1) FU (fun h34 => L_X6_blocks_101 43 (nI t) (nI b) (nI Rb) (nI Cb) n (fun h35 => some h35) h34 (nI 2)) h 0 := by
    intro n h
    rw [L_X6_blocks_101, if_neg (by decide)]; rfl
  have e6 : ∀ n h, L_X6_blocks_101 43 (nI t) (nI b) (nI Rb) (nI Cb) (n + 1) (fun h35 => some h35) h (nI 2) = some h := by
    intro n h
    rw [L_X6_blocks_101, if_pos (by decide)]
  refine ⟨C4, ?_, f4⟩
  unfold f_X6_blocks
  rw [e_gR43_1, Option.bind_some, e_a45 (by omega), Option.bind_some, h1, nz_pos (by omega) (by omega), e_gR43_2, Option.bind_some, e_a46 (by omega), Option.bind_some, h2, nz_pos (by omega) (by omega), eR, eC]
  refine e1.trans ?_
  show (ck 5 (E G S N T R B U L C1 H) 43 <| (f_X6_lay (E G S N T R B U L C1 H) 43 (Int32.toInt64 (nI (ahead q Rb)))).bind _) = _
  rw [e_ck43, nI_l (by omega), e2, Option.bind_some]
  have fu : FU = 5999 + 1 := FU_eq
  refine (congrArg (fun f => L_X6_blocks_101 43 (nI t) (nI b) (nI Rb) (nI Cb) f (fun h35 => some h35) (E G S N T R B U L C2 H) 0) fu).trans ?_
  exact (e7 5999 _).trans (e3.trans ((e5 5998 _).trans (e4.trans (e6 5997 _))))
