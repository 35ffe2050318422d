/-! the reference lays cells one after another -/
def Laid (C : TC) (p : Nat) (W : Nat → Int64) : Prop := C.2 = nI p ∧ ∀ i, i < p → C.1 i = W i
theorem md_lay {G : TG} {S : TS} {N : TN} {T : TT} {R : TR} {B : TB} {U : TU} {L : TL} {C : TC} {H : TH} {p : Nat} {W : Nat → Int64} {x : Int64} (hL : Laid C p W) (hp : p < 3000) (hx : x = W p) : ∃ C', f_X6_lay (E G S N T R B U L C H) 43 x = some (E G S N T R B U L C' H) ∧ Laid C' (p + 1) W := by
  obtain ⟨ce, ld⟩ := C
  obtain ⟨h1, h2⟩ := hL
  have h1' : ld = nI p := h1
  subst hx
  refine ⟨(vp_updL ce p (W p), nI (p + 1)), ?_, rfl, fun i hi => ?_⟩
  · unfold f_X6_lay
    rw [e_gR43_10, Option.bind_some, e_gI43_11, Option.bind_some]
    show ((sJ _ 52 ld (W p)).bind _) = _
    rw [h1', e_s52 hp, Option.bind_some, e_gI43_11, Option.bind_some]
    show ((pI 5 _ 43 11 (nI p + 1)).bind _) = _
    rw [e_pI43_11, Option.bind_some, nI_1]
  · show vp_updL ce p (W p) i = W i
    by_cases e : i = p
    · subst e; exact pk_uLs
    · rw [pk_uLn e]; exact h2 i (by omega)
theorem W1_hd {R0 : Nat} {k : Nat → Nat → Bool} {v : Nat → Nat → Int64} {m : Nat} (h : m ≤ R0) : W1 R0 k v m = lN (ahead k m) := by
  unfold W1 hL hdN
  rw [if_pos (by omega), if_pos h]
theorem W1_col {R0 : Nat} {k : Nat → Nat → Bool} {v : Nat → Nat → Int64} {p : Nat} (hp : p < 256) (h : kf k p = true) : W1 R0 k v (R0 + 1 + cnt (kf k) p) = lN (p % 16) := by
  have h1 := cnt_lt hp h
  rw [ahead256] at h1
  unfold W1 hL hdN
  rw [if_pos (by omega), if_neg (by omega), show R0 + 1 + cnt (kf k) p - R0 - 1 = cnt (kf k) p by omega, sel_cnt hp h]
theorem W1_val {R0 : Nat} {k : Nat → Nat → Bool} {v : Nat → Nat → Int64} {p : Nat} (hp : p < 256) (h : kf k p = true) : W1 R0 k v (R0 + 1 + ahead k 16 + cnt (kf k) p) = vf v p := by
  unfold W1 hL
  rw [if_neg (by omega), show R0 + 1 + ahead k 16 + cnt (kf k) p - (R0 + 1 + ahead k 16) = cnt (kf k) p by omega, sel_cnt hp h]
/-- byRows -/
theorem md_byRows {G : TG} {S : TS} {N : TN} {T : TT} {R : TR} {B : TB} {U : TU} {L : TL} {C : TC} {H : TH} {t R0 C0 : Nat} {k : Nat → Nat → Bool} {v : Nat → Nat → Int64} (hm : MC B.2.2.2.1 B.2.2.2.2 t k v) (ht : t < 8) (h1 : B.2.1 t = nI R0) (h2 : B.2.2.1 t = nI C0) (hR : R0 ≤ 16) (hC : C0 ≤ 16) (hin : ∀ r c, r < 16 → c < 16 → k r c = true → r < R0 ∧ c < C0) (hL0 : Laid C 0 (W1 R0 k v)) : ∃ C', f_X6_byRows (E G S N T R B U L C H) 43 (nI t) = some (E G S N T R B U L C' H) ∧ Laid C' (R0 + 1 + ahead k 16 + ahead k 16) (W1 R0 k v) := by
  have hal := ahead_le k 16
  have at1 : ∀ i, i < 256 → B.2.2.2.1 (256 * t + i) = bI (kf k i) ∧ B.2.2.2.2 (256 * t + i) = vf v i := fun i hi => hm.at hi
  -- the starts of the rows
  obtain ⟨⟨h15, x15⟩, ⟨C1, rfl, rfl, f1⟩, e1⟩ := pz_lp (σ := HP × Int32) (fun m s i => L_X6_byRows_4 43 (nI t) m (fun h15 x16 => ck 5 h15 43 <| (f_X6_lay h15 43 (Int32.toInt64 x16)).bind fun h18 => L_X6_byRows_73 43 (nI t) FU (fun h35 => some h35) h18 0) s.1 s.2 i) (fun s => ck 5 s.1 43 <| (f_X6_lay s.1 43 (Int32.toInt64 s.2)).bind fun h18 => L_X6_byRows_73 43 (nI t) FU (fun h35 => some h35) h18 0) R0
    (fun i s => ∃ C1, s.1 = E G S N T R B U L C1 H ∧ s.2 = nI (ahead k i) ∧ Laid C1 i (W1 R0 k v))
    (fun m s hI => by
      obtain ⟨s1, s2⟩ := s
      obtain ⟨C1, rfl, rfl, f1⟩ := hI
      show L_X6_byRows_4 43 (nI t) (m + 1) _ (E G S N T R B U L C1 H) (nI (ahead k R0)) (nI R0) = _
      rw [L_X6_byRows_4, e_gR43_1, Option.bind_some, e_a45 (by omega), Option.bind_some, h1, if_pos (Int32.le_refl _)])
    (fun m i s hi hI => by
      obtain ⟨s1, s2⟩ := s
      obtain ⟨C1, rfl, rfl, f1⟩ := hI
      have hai := ahead_le k i
      obtain ⟨C2, e2, f2⟩ := md_lay (G := G) (S := S) (N := N) (T := T) (R := R) (B := B) (U := U) (L := L) (H := H) f1 (by omega) (x := lN (ahead k i)) (W1_hd (by omega)).symm
      have inner := pz_lpf (fun m' s l => L_X6_byRows_23 (E G S N T R B U L C2 H) 43 (nI t) (nI i) m' (fun x14 => L_X6_byRows_4 43 (nI t) m (fun h15 x16 => ck 5 h15 43 <| (f_X6_lay h15 43 (Int32.toInt64 x16)).bind fun h18 => L_X6_byRows_73 43 (nI t) FU (fun h35 => some h35) h18 0) (E G S N T R B U L C2 H) x14 (nI (i + 1))) s l) (L_X6_byRows_4 43 (nI t) m (fun h15 x16 => ck 5 h15 43 <| (f_X6_lay h15 43 (Int32.toInt64 x16)).bind fun h18 => L_X6_byRows_73 43 (nI t) FU (fun h35 => some h35) h18 0) (E G S N T R B U L C2 H) (nI (ahead k (i + 1))) (nI (i + 1))) C0 (fun c => nI (ahead k i + cnt (k i) c))
        (fun m' => by
          rw [L_X6_byRows_23, e_gR43_2, Option.bind_some, e_a46 (by omega), Option.bind_some, h2, if_pos (Int32.le_refl _), row_end (k := k) hC (show i < 16 by omega) hin]; rfl)
        (fun m' c hc => by
          rw [L_X6_byRows_23, e_gR43_2, Option.bind_some, e_a46 (by omega), Option.bind_some, h2, if_neg (nI_ge hc (by omega)), e_ck43, md_has hm (by omega) (by omega) (by omega), Option.bind_some, nI_1, nI_1, Int32.add_zero, cnt_step]
          cases k i c with
          | true => rw [if_neg (by decide), if_pos rfl]; rfl
          | false => rw [if_pos (by decide), if_neg (by decide)]; rfl)
        C0 0 FU (by omega) (pz_FU (by omega))
      refine ⟨(_, _), ⟨C2, rfl, rfl, f2⟩, ?_⟩
      show L_X6_byRows_4 43 (nI t) (m + 1) _ (E G S N T R B U L C1 H) (nI (ahead k i)) (nI i) = _
      rw [L_X6_byRows_4, e_gR43_1, Option.bind_some, e_a45 (by omega), Option.bind_some, h1, if_neg (nI_ge hi (by omega)), e_ck43, nI_l (by omega), e2, Option.bind_some, nI_1]
      exact inner)
    R0 0 FU (E G S N T R B U L C H, 0) (by omega) (pz_FU (by omega)) ⟨C, rfl, rfl, hL0⟩
  have haR := ahead_le k R0
  obtain ⟨C2, e2, f2⟩ := md_lay (G := G) (S := S) (N := N) (T := T) (R := R) (B := B) (U := U) (L := L) (H := H) f1 (by omega) (x := lN (ahead k R0)) (W1_hd (by omega)).symm
  -- the columns, then the values
  have part : ∀ (pt : Nat) (o : Nat) (C2 : TC) (kk : HP → Option HP), pt < 2 → o = R0 + 1 + pt * ahead k 16 → Laid C2 o (W1 R0 k v) → ∃ C3, L_X6_byRows_81 43 (nI t) (nI pt) FU kk (E G S N T R B U L C2 H) 0 = kk (E G S N T R B U L C3 H) ∧ Laid C3 (o + ahead k 16) (W1 R0 k v) := by
    intro pt o C2 kk hpt ho f2
    obtain ⟨s', ⟨C3, e, f3⟩, e3⟩ := pz_lp (fun m h i => L_X6_byRows_81 43 (nI t) (nI pt) m kk h i) kk 256
      (fun i h => ∃ C3, h = E G S N T R B U L C3 H ∧ Laid C3 (o + cnt (kf k) i) (W1 R0 k v))
      (fun m s _ => by rw [L_X6_byRows_81, if_pos ex256])
      (fun m i s hi hI => by
        obtain ⟨C3, rfl, f3⟩ := hI
        have hci := cnt_le (kf k) i
        have rd : L_X6_byRows_81 43 (nI t) (nI pt) (m + 1) kk (E G S N T R B U L C3 H) (nI i) = if kf k i = true then (if nI pt = 0 then ((f_X6_lay (E G S N T R B U L C3 H) 43 (lN (i % 16))).bind fun h27 => L_X6_byRows_81 43 (nI t) (nI pt) m kk h27 (nI (i + 1))) else ((f_X6_lay (E G S N T R B U L C3 H) 43 (vf v i)).bind fun h32 => L_X6_byRows_81 43 (nI t) (nI pt) m kk h32 (nI (i + 1)))) else L_X6_byRows_81 43 (nI t) (nI pt) m kk (E G S N T R B U L C3 H) (nI (i + 1)) := by
          rw [L_X6_byRows_81, if_neg (ge256 hi), e_gR43_3, Option.bind_some, m256, nI_add, e_a47 (by omega), Option.bind_some, (at1 i hi).1, nI_1, e_ck43, r16 (by omega), nI_l (by omega), e_gR43_4, Option.bind_some, e_a48 (by omega), Option.bind_some, (at1 i hi).2, e_ck43]
          cases kf k i with
          | true => rw [if_neg (by decide), if_pos rfl]
          | false => rw [if_pos (by decide), if_neg (by decide)]
        by_cases q : kf k i = true
        · have hle : cnt (kf k) i + 1 ≤ ahead k 16 := by have := cnt_lt hi q; rw [ahead256] at this; omega
          by_cases z : pt = 0
          · subst z
            obtain ⟨C4, e4, f4⟩ := md_lay (G := G) (S := S) (N := N) (T := T) (R := R) (B := B) (U := U) (L := L) (H := H) f3 (by omega) (x := lN (i % 16)) (by rw [ho, show R0 + 1 + 0 * ahead k 16 + cnt (kf k) i = R0 + 1 + cnt (kf k) i by omega, W1_col hi q])
            refine ⟨_, ⟨C4, rfl, by rw [cnt_step, if_pos q]; exact f4⟩, ?_⟩
            rw [rd, if_pos q, if_pos nI_0, e4, Option.bind_some]
          · have z1 : pt = 1 := by omega
            subst z1
            obtain ⟨C4, e4, f4⟩ := md_lay (G := G) (S := S) (N := N) (T := T) (R := R) (B := B) (U := U) (L := L) (H := H) f3 (by omega) (x := vf v i) (by rw [ho, Nat.one_mul, W1_val hi q])
            refine ⟨_, ⟨C4, rfl, by rw [cnt_step, if_pos q]; exact f4⟩, ?_⟩
            rw [rd, if_pos q, if_neg (by decide), e4, Option.bind_some]
        · refine ⟨_, ⟨C3, rfl, by rw [cnt_step, if_neg q]; exact f3⟩, ?_⟩
          rw [rd, if_neg q])
      256 0 FU (E G S N T R B U L C2 H) rfl (pz_FU (by decide)) ⟨C2, rfl, f2⟩
    subst e
    rw [ahead256] at f3
    exact ⟨C3, e3, f3⟩
  obtain ⟨C3, e3, f3⟩ := part 0 (R0 + 1) C2 (fun h34 => L_X6_byRows_73 43 (nI t) 5999 (fun h35 => some h35) h34 (nI 1)) (by omega) (by omega) f2
  obtain ⟨C4, e4, f4⟩ := part 1 (R0 + 1 + ahead k 16) C3 (fun h34 => L_X6_byRows_73 43 (nI t) 5998 (fun h35 => some h35) h34 (nI 2)) (by omega) (by omega) f3
  have e7 : ∀ n h, L_X6_byRows_73 43 (nI t) (n + 1) (fun h35 => some h35) h 0 = L_X6_byRows_81 43 (nI t) (nI 0) FU (fun h34 => L_X6_byRows_73 43 (nI t) n (fun h35 => some h35) h34 (nI 1)) h 0 := by
    intro n h
    rw [L_X6_byRows_73, if_neg (by decide)]; rfl
  have e5 : ∀ n h, L_X6_byRows_73 43 (nI t) (n + 1) (fun h35 => some h35) h (nI 1) = L_X6_byRows_81 43 (nI t) (nI 1) FU (fun h34 => L_X6_byRows_73 43 (nI t) n (fun h35 => some h35) h34 (nI 2)) h 0 := by
    intro n h
    rw [L_X6_byRows_73, if_neg (by decide)]; rfl
  have e6 : ∀ n h, L_X6_byRows_73 43 (nI t) (n + 1) (fun h35 => some h35) h (nI 2) = some h := by
    intro n h
    rw [L_X6_byRows_73, if_pos (by decide)]
  refine ⟨C4, ?_, f4⟩
  unfold f_X6_byRows
  refine e1.trans ?_
  show (ck 5 (E G S N T R B U L C1 H) 43 <| (f_X6_lay (E G S N T R B U L C1 H) 43 (Int32.toInt64 (nI (ahead k R0)))).bind _) = _
  rw [e_ck43, nI_l (by omega), e2, Option.bind_some]
  have fu : FU = 5999 + 1 := FU_eq
  refine (congrArg (fun f => L_X6_byRows_73 43 (nI t) f (fun h35 => some h35) (E G S N T R B U L C2 H) 0) fu).trans ?_
  exact (e7 5999 _).trans (e3.trans ((e5 5998 _).trans (e4.trans (e6 5997 _))))
/-- byColumns -/
theorem md_byColumns {G : TG} {S : TS} {N : TN} {T : TT} {R : TR} {B : TB} {U : TU} {L : TL} {C : TC} {H : TH} {t R0 C0 : Nat} {k : Nat → Nat → Bool} {v : Nat → Nat → Int64} (hm : MC B.2.2.2.1 B.2.2.2.2 t (fun r c => k c r) (fun r c => v c r)) (ht : t < 8) (h1 : B.2.2.1 t = nI R0) (h2 : B.2.1 t = nI C0) (hR : R0 ≤ 16) (hC : C0 ≤ 16) (hin : ∀ r c, r < 16 → c < 16 → k r c = true → r < R0 ∧ c < C0) (hL0 : Laid C 0 (W1 R0 k v)) : ∃ C', f_X6_byColumns (E G S N T R B U L C H) 43 (nI t) = some (E G S N T R B U L C' H) ∧ Laid C' (R0 + 1 + ahead k 16 + ahead k 16) (W1 R0 k v) := by
  have hal := ahead_le k 16
  have at1 : ∀ i, i < 256 → B.2.2.2.1 (256 * t + (16 * (i % 16) + i / 16)) = bI (kf k i) ∧ B.2.2.2.2 (256 * t + (16 * (i % 16) + i / 16)) = vf v i := fun i hi => hm (i % 16) (i / 16) (by omega) (by omega)
  -- the starts of the rows
  obtain ⟨⟨h15, x15⟩, ⟨C1, rfl, rfl, f1⟩, e1⟩ := pz_lp (σ := HP × Int32) (fun m s i => L_X6_byColumns_4 43 (nI t) m (fun h15 x16 => ck 5 h15 43 <| (f_X6_lay h15 43 (Int32.toInt64 x16)).bind fun h18 => L_X6_byColumns_73 43 (nI t) FU (fun h35 => some h35) h18 0) s.1 s.2 i) (fun s => ck 5 s.1 43 <| (f_X6_lay s.1 43 (Int32.toInt64 s.2)).bind fun h18 => L_X6_byColumns_73 43 (nI t) FU (fun h35 => some h35) h18 0) R0
    (fun i s => ∃ C1, s.1 = E G S N T R B U L C1 H ∧ s.2 = nI (ahead k i) ∧ Laid C1 i (W1 R0 k v))
    (fun m s hI => by
      obtain ⟨s1, s2⟩ := s
      obtain ⟨C1, rfl, rfl, f1⟩ := hI
      show L_X6_byColumns_4 43 (nI t) (m + 1) _ (E G S N T R B U L C1 H) (nI (ahead k R0)) (nI R0) = _
      rw [L_X6_byColumns_4, e_gR43_2, Option.bind_some, e_a46 (by omega), Option.bind_some, h1, if_pos (Int32.le_refl _)])
    (fun m i s hi hI => by
      obtain ⟨s1, s2⟩ := s
      obtain ⟨C1, rfl, rfl, f1⟩ := hI
      have hai := ahead_le k i
      obtain ⟨C2, e2, f2⟩ := md_lay (G := G) (S := S) (N := N) (T := T) (R := R) (B := B) (U := U) (L := L) (H := H) f1 (by omega) (x := lN (ahead k i)) (W1_hd (by omega)).symm
      have inner := pz_lpf (fun m' s l => L_X6_byColumns_23 (E G S N T R B U L C2 H) 43 (nI t) (nI i) m' (fun x14 => L_X6_byColumns_4 43 (nI t) m (fun h15 x16 => ck 5 h15 43 <| (f_X6_lay h15 43 (Int32.toInt64 x16)).bind fun h18 => L_X6_byColumns_73 43 (nI t) FU (fun h35 => some h35) h18 0) (E G S N T R B U L C2 H) x14 (nI (i + 1))) s l) (L_X6_byColumns_4 43 (nI t) m (fun h15 x16 => ck 5 h15 43 <| (f_X6_lay h15 43 (Int32.toInt64 x16)).bind fun h18 => L_X6_byColumns_73 43 (nI t) FU (fun h35 => some h35) h18 0) (E G S N T R B U L C2 H) (nI (ahead k (i + 1))) (nI (i + 1))) C0 (fun c => nI (ahead k i + cnt (k i) c))
        (fun m' => by
          rw [L_X6_byColumns_23, e_gR43_1, Option.bind_some, e_a45 (by omega), Option.bind_some, h2, if_pos (Int32.le_refl _), row_end (k := k) hC (show i < 16 by omega) hin]; rfl)
        (fun m' c hc => by
          rw [L_X6_byColumns_23, e_gR43_1, Option.bind_some, e_a45 (by omega), Option.bind_some, h2, if_neg (nI_ge hc (by omega)), e_ck43, md_has hm (by omega) (by omega) (by omega), Option.bind_some, nI_1, nI_1, Int32.add_zero, cnt_step]
          cases k i c with
          | true => rw [if_neg (by decide), if_pos rfl]; rfl
          | false => rw [if_pos (by decide), if_neg (by decide)]; rfl)
        C0 0 FU (by omega) (pz_FU (by omega))
      refine ⟨(_, _), ⟨C2, rfl, rfl, f2⟩, ?_⟩
      show L_X6_byColumns_4 43 (nI t) (m + 1) _ (E G S N T R B U L C1 H) (nI (ahead k i)) (nI i) = _
      rw [L_X6_byColumns_4, e_gR43_2, Option.bind_some, e_a46 (by omega), Option.bind_some, h1, if_neg (nI_ge hi (by omega)), e_ck43, nI_l (by omega), e2, Option.bind_some, nI_1]
      exact inner)
    R0 0 FU (E G S N T R B U L C H, 0) (by omega) (pz_FU (by omega)) ⟨C, rfl, rfl, hL0⟩
  have haR := ahead_le k R0
  obtain ⟨C2, e2, f2⟩ := md_lay (G := G) (S := S) (N := N) (T := T) (R := R) (B := B) (U := U) (L := L) (H := H) f1 (by omega) (x := lN (ahead k R0)) (W1_hd (by omega)).symm
  -- the columns, then the values
  have part : ∀ (pt : Nat) (o : Nat) (C2 : TC) (kk : HP → Option HP), pt < 2 → o = R0 + 1 + pt * ahead k 16 → Laid C2 o (W1 R0 k v) → ∃ C3, L_X6_byColumns_81 43 (nI t) (nI pt) FU kk (E G S N T R B U L C2 H) 0 = kk (E G S N T R B U L C3 H) ∧ Laid C3 (o + ahead k 16) (W1 R0 k v) := by
    intro pt o C2 kk hpt ho f2
    obtain ⟨s', ⟨C3, e, f3⟩, e3⟩ := pz_lp (fun m h i => L_X6_byColumns_81 43 (nI t) (nI pt) m kk h i) kk 256
      (fun i h => ∃ C3, h = E G S N T R B U L C3 H ∧ Laid C3 (o + cnt (kf k) i) (W1 R0 k v))
      (fun m s _ => by rw [L_X6_byColumns_81, if_pos ex256])
      (fun m i s hi hI => by
        obtain ⟨C3, rfl, f3⟩ := hI
        have hci := cnt_le (kf k) i
        have rd : L_X6_byColumns_81 43 (nI t) (nI pt) (m + 1) kk (E G S N T R B U L C3 H) (nI i) = if kf k i = true then (if nI pt = 0 then ((f_X6_lay (E G S N T R B U L C3 H) 43 (lN (i % 16))).bind fun h27 => L_X6_byColumns_81 43 (nI t) (nI pt) m kk h27 (nI (i + 1))) else ((f_X6_lay (E G S N T R B U L C3 H) 43 (vf v i)).bind fun h32 => L_X6_byColumns_81 43 (nI t) (nI pt) m kk h32 (nI (i + 1)))) else L_X6_byColumns_81 43 (nI t) (nI pt) m kk (E G S N T R B U L C3 H) (nI (i + 1)) := by
          rw [L_X6_byColumns_81, if_neg (ge256 hi), e_gR43_3, Option.bind_some, r16 (by omega), d16 (by omega), md_cell, Option.bind_some, e_a47 (by omega), Option.bind_some, (at1 i hi).1, nI_1, e_ck43, nI_l (by omega), e_gR43_4, Option.bind_some, Option.bind_some, e_a48 (by omega), Option.bind_some, (at1 i hi).2, e_ck43]
          cases kf k i with
          | true => rw [if_neg (by decide), if_pos rfl]
          | false => rw [if_pos (by decide), if_neg (by decide)]
        by_cases q : kf k i = true
        · have hle : cnt (kf k) i + 1 ≤ ahead k 16 := by have := cnt_lt hi q; rw [ahead256] at this; omega
          by_cases z : pt = 0
          · subst z
            obtain ⟨C4, e4, f4⟩ := md_lay (G := G) (S := S) (N := N) (T := T) (R := R) (B := B) (U := U) (L := L) (H := H) f3 (by omega) (x := lN (i % 16)) (by rw [ho, show R0 + 1 + 0 * ahead k 16 + cnt (kf k) i = R0 + 1 + cnt (kf k) i by omega, W1_col hi q])
            refine ⟨_, ⟨C4, rfl, by rw [cnt_step, if_pos q]; exact f4⟩, ?_⟩
            rw [rd, if_pos q, if_pos nI_0, e4, Option.bind_some]
          · have z1 : pt = 1 := by omega
            subst z1
            obtain ⟨C4, e4, f4⟩ := md_lay (G := G) (S := S) (N := N) (T := T) (R := R) (B := B) (U := U) (L := L) (H := H) f3 (by omega) (x := vf v i) (by rw [ho, Nat.one_mul, W1_val hi q])
            refine ⟨_, ⟨C4, rfl, by rw [cnt_step, if_pos q]; exact f4⟩, ?_⟩
            rw [rd, if_pos q, if_neg (by decide), e4, Option.bind_some]
        · refine ⟨_, ⟨C3, rfl, by rw [cnt_step, if_neg q]; exact f3⟩, ?_⟩
          rw [rd, if_neg q])
      256 0 FU (E G S N T R B U L C2 H) rfl (pz_FU (by decide)) ⟨C2, rfl, f2⟩
    subst e
    rw [ahead256] at f3
    exact ⟨C3, e3, f3⟩
  obtain ⟨C3, e3, f3⟩ := part 0 (R0 + 1) C2 (fun h34 => L_X6_byColumns_73 43 (nI t) 5999 (fun h35 => some h35) h34 (nI 1)) (by omega) (by omega) f2
  obtain ⟨C4, e4, f4⟩ := part 1 (R0 + 1 + ahead k 16) C3 (fun h34 => L_X6_byColumns_73 43 (nI t) 5998 (fun h35 => some h35) h34 (nI 2)) (by omega) (by omega) f3
  have e7 : ∀ n h, L_X6_byColumns_73 43 (nI t) (n + 1) (fun h35 => some h35) h 0 = L_X6_byColumns_81 43 (nI t) (nI 0) FU (fun h34 => L_X6_byColumns_73 43 (nI t) n (fun h35 => some h35) h34 (nI 1)) h 0 := by
    intro n h
    rw [L_X6_byColumns_73, if_neg (by decide)]; rfl
  have e5 : ∀ n h, L_X6_byColumns_73 43 (nI t) (n + 1) (fun h35 => some h35) h (nI 1) = L_X6_byColumns_81 43 (nI t) (nI 1) FU (fun h34 => L_X6_byColumns_73 43 (nI t) n (fun h35 => some h35) h34 (nI 2)) h 0 := by
    intro n h
    rw [L_X6_byColumns_73, if_neg (by decide)]; rfl
  have e6 : ∀ n h, L_X6_byColumns_73 43 (nI t) (n + 1) (fun h35 => some h35) h (nI 2) = some h := by
    intro n h
    rw [L_X6_byColumns_73, if_pos (by decide)]
  refine ⟨C4, ?_, f4⟩
  unfold f_X6_byColumns
  refine e1.trans ?_
  show (ck 5 (E G S N T R B U L C1 H) 43 <| (f_X6_lay (E G S N T R B U L C1 H) 43 (Int32.toInt64 (nI (ahead k R0)))).bind _) = _
  rw [e_ck43, nI_l (by omega), e2, Option.bind_some]
  have fu : FU = 5999 + 1 := FU_eq
  refine (congrArg (fun f => L_X6_byColumns_73 43 (nI t) f (fun h35 => some h35) (E G S N T R B U L C2 H) 0) fu).trans ?_
  exact (e7 5999 _).trans (e3.trans ((e5 5998 _).trans (e4.trans (e6 5997 _))))
theorem md_lay0 {G : TG} {S : TS} {N : TN} {T : TT} {R : TR} {B : TB} {U : TU} {L : TL} {C : TC} {H : TH} {t : Nat} {k : Nat → Nat → Bool} {v : Nat → Nat → Int64} (hm : MC B.2.2.2.1 B.2.2.2.2 t k v) (ht : t < 8) (hL0 : Laid C 0 (W0 k v)) : ∃ C', L_X6_layOut_43 43 (nI t) FU (fun h18 => some h18) (E G S N T R B U L C H) 0 = some (E G S N T R B U L C' H) ∧ Laid C' (3 * ahead k 16) (W0 k v) := by
  have hal := ahead_le k 16
  obtain ⟨s', ⟨C3, e, f3⟩, e3⟩ := pz_lp (fun m h i => L_X6_layOut_43 43 (nI t) m (fun h18 => some h18) h i) (fun h18 => some h18) 256
    (fun i h => ∃ C3, h = E G S N T R B U L C3 H ∧ Laid C3 (3 * cnt (kf k) i) (W0 k v))
    (fun m s _ => by rw [L_X6_layOut_43, if_pos ex256])
    (fun m i s hi hI => by
      obtain ⟨C3, rfl, f3⟩ := hI
      have hci := cnt_le (kf k) i
      by_cases q : kf k i = true
      · have a0 : W0 k v (3 * cnt (kf k) i) = lN (i / 16) := by
          unfold W0; rw [if_pos (by omega), show 3 * cnt (kf k) i / 3 = cnt (kf k) i by omega, sel_cnt hi q]
        have a1 : W0 k v (3 * cnt (kf k) i + 1) = lN (i % 16) := by
          unfold W0; rw [if_neg (by omega), if_pos (by omega), show (3 * cnt (kf k) i + 1) / 3 = cnt (kf k) i by omega, sel_cnt hi q]
        have a2 : W0 k v (3 * cnt (kf k) i + 1 + 1) = vf v i := by
          unfold W0; rw [if_neg (by omega), if_neg (by omega), show (3 * cnt (kf k) i + 1 + 1) / 3 = cnt (kf k) i by omega, sel_cnt hi q]
        obtain ⟨C4, e4, f4⟩ := md_lay (G := G) (S := S) (N := N) (T := T) (R := R) (B := B) (U := U) (L := L) (H := H) f3 (by omega) a0.symm
        obtain ⟨C5, e5, f5⟩ := md_lay (G := G) (S := S) (N := N) (T := T) (R := R) (B := B) (U := U) (L := L) (H := H) f4 (by omega) a1.symm
        obtain ⟨C6, e6, f6⟩ := md_lay (G := G) (S := S) (N := N) (T := T) (R := R) (B := B) (U := U) (L := L) (H := H) f5 (by omega) a2.symm
        refine ⟨_, ⟨C6, rfl, by rw [cnt_step, if_pos q, show 3 * (cnt (kf k) i + 1) = 3 * cnt (kf k) i + 1 + 1 + 1 by omega]; exact f6⟩, ?_⟩
        rw [L_X6_layOut_43, if_neg (ge256 hi), e_gR43_3, Option.bind_some, m256, nI_add, e_a47 (by omega), Option.bind_some, (hm.at hi).1, q, if_neg (by decide), nI_1, e_ck43, r16 (by omega), d16 (by omega), nI_l (by omega), nI_l (by omega), e4, Option.bind_some, e_ck43, e5, Option.bind_some, e_gR43_4, Option.bind_some, e_a48 (by omega), Option.bind_some, (hm.at hi).2, e_ck43]
        show ((f_X6_lay _ 43 (vf v i)).bind _) = _
        rw [e6, Option.bind_some]
      · refine ⟨_, ⟨C3, rfl, by rw [cnt_step, if_neg q]; exact f3⟩, ?_⟩
        rw [L_X6_layOut_43, if_neg (ge256 hi), e_gR43_3, Option.bind_some, m256, nI_add, e_a47 (by omega), Option.bind_some, (hm.at hi).1, show kf k i = false by simpa using q, if_pos (by decide), nI_1])
    256 0 FU (E G S N T R B U L C H) rfl (pz_FU (by decide)) ⟨C, rfl, hL0⟩
  subst e
  rw [ahead256] at f3
  exact ⟨C3, e3, f3⟩
def W4 (C0 : Nat) (v : Nat → Nat → Int64) (m : Nat) : Int64 := v (m / C0) (m % C0)
theorem md_lay4 {G : TG} {S : TS} {N : TN} {T : TT} {R : TR} {B : TB} {U : TU} {L : TL} {C : TC} {H : TH} {t R0 C0 : Nat} {k : Nat → Nat → Bool} {v : Nat → Nat → Int64} (hm : MC B.2.2.2.1 B.2.2.2.2 t k v) (ht : t < 8) (h1 : B.2.1 t = nI R0) (h2 : B.2.2.1 t = nI C0) (hR : R0 ≤ 16) (hC1 : 1 ≤ C0) (hC : C0 ≤ 16) (hin : ∀ r c, r < 16 → c < 16 → k r c = true → r < R0 ∧ c < C0) (hz : ∀ r c, r < 16 → c < 16 → k r c = false → v r c = 0) (hL0 : Laid C 0 (W4 C0 v)) : ∃ C', L_X6_layOut_141 43 (nI t) FU (fun h49 => some h49) (E G S N T R B U L C H) 0 = some (E G S N T R B U L C' H) ∧ Laid C' (R0 * C0) (W4 C0 v) := by
  have hb : R0 * C0 ≤ 16 * 16 := Nat.mul_le_mul hR hC
  obtain ⟨s', ⟨C3, e, f3⟩, e3⟩ := pz_lp (fun m h i => L_X6_layOut_141 43 (nI t) m (fun h49 => some h49) h i) (fun h49 => some h49) (R0 * C0)
    (fun i h => ∃ C3, h = E G S N T R B U L C3 H ∧ Laid C3 i (W4 C0 v))
    (fun m s hI => by
      obtain ⟨C3, rfl, f3⟩ := hI
      rw [L_X6_layOut_141, e_gR43_1, Option.bind_some, e_a45 (by omega), Option.bind_some, e_gR43_2, Option.bind_some, e_a46 (by omega), Option.bind_some, h1, h2, pk_mul, if_pos (Int32.le_refl _)])
    (fun m i s hi hI => by
      obtain ⟨C3, rfl, f3⟩ := hI
      have hd : i / C0 < R0 := Nat.div_lt_of_lt_mul (by rw [Nat.mul_comm]; exact hi)
      have hr : i % C0 < C0 := Nat.mod_lt _ (by omega)
      obtain ⟨C4, e4, f4⟩ := md_lay (G := G) (S := S) (N := N) (T := T) (R := R) (B := B) (U := U) (L := L) (H := H) f3 (by omega) (x := v (i / C0) (i % C0)) rfl
      refine ⟨_, ⟨C4, rfl, f4⟩, ?_⟩
      rw [L_X6_layOut_141, e_gR43_1, Option.bind_some, e_a45 (by omega), Option.bind_some, e_gR43_2, Option.bind_some, e_a46 (by omega), Option.bind_some, h1, h2, pk_mul, if_neg (nI_ge hi (by omega)), Option.bind_some, e_a46 (by omega), Option.bind_some, h2, nz_pos (by omega) (by omega), Option.bind_some, e_a46 (by omega), Option.bind_some, h2, nz_pos (by omega) (by omega), e_ck43, pk_rem (by omega) (by omega) (by omega), pk_div (by omega) (by omega) (by omega), md_holds hm (by omega) h1 h2 hR hC hin hz (by omega) (by omega), Option.bind_some, e_ck43, e4, Option.bind_some, nI_1])
    (R0 * C0) 0 FU (E G S N T R B U L C H) (by omega) (pz_FU (by omega)) ⟨C, rfl, hL0⟩
  subst e
  exact ⟨C3, e3, f3⟩
