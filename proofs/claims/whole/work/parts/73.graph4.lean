/-! widths of orders -/
theorem md_joined {G : TG} {S : TS} {N : TN} {T : TT} {R : TR} {B : TB} {U : TU} {L : TL} {C : TC} {H : TH} {t x y : Nat} {k : Nat → Nat → Bool} {v : Nat → Nat → Int64} (hm : MC B.2.2.2.1 B.2.2.2.2 t k v) (ht : t < 8) (hx : x < 16) (hy : y < 16) : f_X6_areJoined (E G S N T R B U L C H) 43 (nI t) (nI x) (nI y) = some (bI (nb k x y)) := by
  unfold f_X6_areJoined nb
  by_cases e : x = y
  · subst e; rw [if_pos rfl]; simp [bI]
  · have e' : ¬ y = x := fun z => e z.symm
    rw [if_neg (fun z => e ((nI_eq (by omega) (by omega)).1 z)), e_ck43, md_has hm (by omega) hx hy, Option.bind_some, e_ck43, md_has hm (by omega) hy hx, Option.bind_some]
    simp only [e', decide_false, Bool.not_false, Bool.and_true]
    cases k x y <;> cases k y x <;> rfl
theorem x_nbof {G : TG} {S : TS} {N : TN} {T : TT} {R : TR} {B : TB} {U : TU} {L : TL} {C : TC} {H : TH} {x : Nat} (hx : x < 16) : f_X1_neighboursOf (E G S N T R B U L C H) 6 (nI x) = some (R.2.2.1 x) := by
  unfold f_X1_neighboursOf
  rw [pz_line hx, Option.bind_some, if_neg one_ne, e_gR6_2, Option.bind_some, e_a8 hx, Option.bind_some]
def wd1 (f : Nat → Nat → Bool) (q : Nat → Nat) (i w : Nat) : Nat → Nat
  | 0 => w
  | m + 1 => if f (q i) (q m) = true ∧ wd1 f q i w m < i - m then i - m else wd1 f q i w m
def wd (f : Nat → Nat → Bool) (q : Nat → Nat) : Nat → Nat
  | 0 => 0
  | i + 1 => wd1 f q i (wd f q i) i
theorem wd1_le {f : Nat → Nat → Bool} {q : Nat → Nat} {i w : Nat} (hi : i ≤ 16) (hw : w ≤ 16) : ∀ m, wd1 f q i w m ≤ 16 := by
  intro m
  induction m with
  | zero => exact hw
  | succ m ih => simp only [wd1]; split <;> omega
theorem wd_le {f : Nat → Nat → Bool} {q : Nat → Nat} : ∀ i, i ≤ 16 → wd f q i ≤ 16 := by
  intro i
  induction i with
  | zero => intro _; simp [wd]
  | succ i ih => intro h; exact wd1_le (by omega) (ih (by omega)) i
theorem x_width {G : TG} {S : TS} {N : TN} {T : TT} {R : TR} {B : TB} {U : TU} {L : TL} {C : TC} {H : TH} {a n nL : Nat} {ql : Nat → Nat} {k : Nat → Nat → Bool} (hg : GR R n k) (ha : a = 15 ∨ a = 17) (l1 : nL ≤ 16) (l3 : N.2.2.1 a = nI nL) (l5 : ∀ i, i < nL → ql i < 16 ∧ N.2.2.2 a i = nI (ql i)) : f_X1_widthOf (E G S N T R B U L C H) 6 a = some (nI (wd (nb k) ql nL)) := by
  have key := pz_lpf (fun n s l => L_X1_widthOf_4 (E G S N T R B U L C H) 6 a n (fun x18 => some x18) s l) (some (nI (wd (nb k) ql nL))) nL (fun i => nI (wd (nb k) ql i))
    (fun n => by
      rw [L_X1_widthOf_4]
      by_cases q : nL < 16
      · rw [if_neg (ge16 q), e_gIN ha, Option.bind_some, l3, if_pos (Int32.le_refl _)]
      · rw [show nL = 16 by omega, if_pos (by decide)])
    (fun n i hi => by
      have hq := l5 i hi
      have wl := wd_le (f := nb k) (q := ql) i (by omega)
      have inner := pz_lpf (fun n' s l => L_X1_widthOf_21 (E G S N T R B U L C H) 6 a (nI i) n' (fun x17 => L_X1_widthOf_4 (E G S N T R B U L C H) 6 a n (fun x18 => some x18) x17 (nI (i + 1))) s l) (L_X1_widthOf_4 (E G S N T R B U L C H) 6 a n (fun x18 => some x18) (nI (wd (nb k) ql (i + 1))) (nI (i + 1))) i (fun m => nI (wd1 (nb k) ql i (wd (nb k) ql i) m))
        (fun n' => by rw [L_X1_widthOf_21, if_pos (Int32.le_refl _)]; rfl)
        (fun n' m hm => by
          have hq2 := l5 m (by omega)
          have wl2 := wd1_le (f := nb k) (q := ql) (i := i) (by omega) wl m
          rw [L_X1_widthOf_21, if_neg (nI_ge hm (by omega)), e_ckN ha, n_item (n := 0) ha (by omega) hq.2, Option.bind_some, e_ck6, x_nbof hq.1, Option.bind_some, e_ckN ha, n_item (n := 0) ha (by omega) hq2.2, Option.bind_some, (hg.2.2 (ql i) hq.1).hasBit hq2.1, Option.bind_some, nI_1, pk_sub (by omega)]
          show _ = L_X1_widthOf_21 (E G S N T R B U L C H) 6 a (nI i) n' _ (nI (if nb k (ql i) (ql m) = true ∧ wd1 (nb k) ql i (wd (nb k) ql i) m < i - m then i - m else wd1 (nb k) ql i (wd (nb k) ql i) m)) _
          by_cases z : nb k (ql i) (ql m) = true
          · rw [z, if_neg (by decide)]
            by_cases z2 : wd1 (nb k) ql i (wd (nb k) ql i) m < i - m
            · rw [if_pos (nI_lt z2 (by omega)), if_pos ⟨rfl, z2⟩]
            · rw [if_neg (nI_nlt (by omega) (by omega)), if_neg (fun y => z2 y.2)]
          · rw [show nb k (ql i) (ql m) = false by simpa using z, if_pos (by decide), if_neg (fun y => by cases y.1)]) i 0 FU (by omega) (pz_FU (by omega))
      rw [L_X1_widthOf_4, if_neg (ge16 (by omega)), e_gIN ha, Option.bind_some, l3, if_neg (nI_ge hi (by omega)), nI_1]
      exact inner)
    nL 0 FU (by omega) (pz_FU (by omega))
  exact key
theorem md_width {G : TG} {S : TS} {N : TN} {T : TT} {R : TR} {B : TB} {U : TU} {L : TL} {C : TC} {H : TH} {t nL : Nat} {ql : Nat → Nat} {k : Nat → Nat → Bool} {v : Nat → Nat → Int64} (hm : MC B.2.2.2.1 B.2.2.2.2 t k v) (ht : t < 8) (l1 : nL ≤ 16) (l3 : L.1 = nI nL) (l5 : ∀ i, i < nL → ql i < 16 ∧ L.2 i = nI (ql i)) : f_X6_widthOf (E G S N T R B U L C H) 43 (nI t) = some (nI (wd (nb k) ql nL)) := by
  have key := pz_lpf (fun n s l => L_X6_widthOf_4 (E G S N T R B U L C H) 43 (nI t) n (fun x18 => some x18) s l) (some (nI (wd (nb k) ql nL))) nL (fun i => nI (wd (nb k) ql i))
    (fun n => by rw [L_X6_widthOf_4, e_gI43_8, Option.bind_some, l3, if_pos (Int32.le_refl _)])
    (fun n i hi => by
      have hq := l5 i hi
      have wl := wd_le (f := nb k) (q := ql) i (by omega)
      have inner := pz_lpf (fun n' s l => L_X6_widthOf_15 (E G S N T R B U L C H) 43 (nI t) (nI i) n' (fun x17 => L_X6_widthOf_4 (E G S N T R B U L C H) 43 (nI t) n (fun x18 => some x18) x17 (nI (i + 1))) s l) (L_X6_widthOf_4 (E G S N T R B U L C H) 43 (nI t) n (fun x18 => some x18) (nI (wd (nb k) ql (i + 1))) (nI (i + 1))) i (fun m => nI (wd1 (nb k) ql i (wd (nb k) ql i) m))
        (fun n' => by rw [L_X6_widthOf_15, if_pos (Int32.le_refl _)]; rfl)
        (fun n' m hm' => by
          have hq2 := l5 m (by omega)
          have wl2 := wd1_le (f := nb k) (q := ql) (i := i) (by omega) wl m
          rw [L_X6_widthOf_15, if_neg (nI_ge hm' (by omega)), e_gR43_9, Option.bind_some, e_a51 (by omega), Option.bind_some, Option.bind_some, e_a51 (by omega), Option.bind_some, hq.2, hq2.2, e_ck43, md_joined hm ht hq.1 hq2.1, Option.bind_some, nI_1, pk_sub (by omega)]
          show _ = L_X6_widthOf_15 (E G S N T R B U L C H) 43 (nI t) (nI i) n' _ (nI (if nb k (ql i) (ql m) = true ∧ wd1 (nb k) ql i (wd (nb k) ql i) m < i - m then i - m else wd1 (nb k) ql i (wd (nb k) ql i) m)) _
          by_cases z : nb k (ql i) (ql m) = true
          · rw [z, if_neg (by decide)]
            by_cases z2 : wd1 (nb k) ql i (wd (nb k) ql i) m < i - m
            · rw [if_neg (nI_ge z2 (by omega)), if_pos ⟨rfl, z2⟩]
            · rw [if_pos (nI_le (by omega) (by omega)), if_neg (fun y => z2 y.2)]
          · rw [show nb k (ql i) (ql m) = false by simpa using z, if_pos (by decide), if_neg (fun y => by cases y.1)]) i 0 FU (by omega) (pz_FU (by omega))
      rw [L_X6_widthOf_4, e_gI43_8, Option.bind_some, l3, if_neg (nI_ge hi (by omega)), nI_1]
      exact inner)
    nL 0 FU (by omega) (pz_FU (by omega))
  exact key
def seen (ql : Nat → Nat) (m c : Nat) : Bool := orJ (fun i => decide (ql i = c)) m
theorem cnt_dec : ∀ m n, n ≤ m → cnt (fun c => decide (c < n)) m = n := by
  intro m
  induction m with
  | zero => intro n hn; have : n = 0 := by omega
            subst this; rfl
  | succ m ih =>
    intro n hn
    simp only [cnt]
    by_cases e : n = m + 1
    · subst e
      have : cnt (fun c => decide (c < m + 1)) m = cnt (fun c => decide (c < m)) m := cnt_congr (fun i hi => by simp [hi]; omega)
      rw [this, ih m (by omega)]; simp
    · rw [ih n (by omega)]
      have : ¬ m < n := by omega
      simp [this]
theorem seen_full {ql : Nat → Nat} {nL n : Nat} (hn : n ≤ 16) (hq : ∀ i, i < nL → ql i < 16) : ((∀ i, i < nL → ql i < n) ∧ cnt (seen ql nL) 16 = n) ↔ ∀ c, c < 16 → seen ql nL c = decide (c < n) := by
  constructor
  · rintro ⟨h1, h2⟩ c hc
    have sub : ∀ c, c < 16 → seen ql nL c = true → decide (c < n) = true := by
      intro c _ z
      obtain ⟨i, hi, z2⟩ := orJ_true.1 z
      have := h1 i hi
      simp only [decide_eq_true_eq] at z2 ⊢
      omega
    cases z : seen ql nL c with
    | true => exact (sub c hc z).symm
    | false =>
      by_cases z2 : c < n
      · have := cnt_slt (p := seen ql nL) (q := fun c => decide (c < n)) (n := 16) sub hc z (by simp [z2])
        rw [cnt_dec 16 n hn] at this
        omega
      · simp [z2]
  · intro h
    refine ⟨fun i hi => ?_, ?_⟩
    · have := h (ql i) (hq i hi)
      rw [show seen ql nL (ql i) = true from orJ_true.2 ⟨i, hi, by simp⟩] at this
      simpa using this.symm
    · rw [cnt_congr h, cnt_dec 16 n hn]
theorem seen_step {ql : Nat → Nat} {m : Nat} (hm : ql m < 16) {x : Int32} (h : rowOK x (seen ql m)) : rowOK (x ||| (1 <<< (nI (ql m) &&& 31))) (seen ql (m + 1)) := by
  refine (h.or (rowOK.one hm)).congr (fun c hc => ?_)
  show (seen ql m c || decide (ql m = c)) = _
  by_cases e : c = ql m
  · subst e; simp
  · have : ¬ ql m = c := fun z => e z.symm
    simp [e, this]
theorem n_once {G : TG} {S : TS} {N : TN} {T : TT} {R : TR} {B : TB} {U : TU} {L : TL} {C : TC} {H : TH} {a n nL : Nat} {ql : Nat → Nat} (ha : a = 15 ∨ a = 17) (l1 : nL ≤ 16) (l3 : N.2.2.1 a = nI nL) (l5 : ∀ i, i < nL → ql i < 16 ∧ N.2.2.2 a i = nI (ql i)) (hn : n ≤ 16) : (f_X3_areEachBelowOnce (E G S N T R B U L C H) a (nI n) = some 1 ∧ nL = n ∧ ∀ c, c < 16 → seen ql nL c = decide (c < n)) ∨ (f_X3_areEachBelowOnce (E G S N T R B U L C H) a (nI n) = some 0 ∧ ¬ (nL = n ∧ ∀ c, c < 16 → seen ql nL c = decide (c < n))) := by
  obtain ⟨x, hx, e⟩ := pz_lp (fun m s l => L_X3_areEachBelowOnce_4 (E G S N T R B U L C H) a m (fun x6 => (gI 2 (E G S N T R B U L C H) a 0).bind fun v7 => if v7 = nI n then (ck 2 (E G S N T R B U L C H) a <| (f_X3_areBelow (E G S N T R B U L C H) a (nI n)).bind fun v10 => if v10 = 0 then some 0 else (f_J6_bitCount_0f7a4 x6).bind fun v13 => if v13 = nI n then some 1 else some 0) else some 0) s l) (fun x6 => (gI 2 (E G S N T R B U L C H) a 0).bind fun v7 => if v7 = nI n then (ck 2 (E G S N T R B U L C H) a <| (f_X3_areBelow (E G S N T R B U L C H) a (nI n)).bind fun v10 => if v10 = 0 then some 0 else (f_J6_bitCount_0f7a4 x6).bind fun v13 => if v13 = nI n then some 1 else some 0) else some 0) nL
    (fun m x => rowOK x (seen ql m))
    (fun m s _ => by
      rw [L_X3_areEachBelowOnce_4]
      by_cases q : nL < 16
      · rw [if_neg (ge16 q), e_gIN ha, Option.bind_some, l3, if_pos (Int32.le_refl _)]
      · rw [show nL = 16 by omega, if_pos (by decide)])
    (fun m i s hi hI => by
      obtain ⟨a1, a2⟩ := l5 i hi
      refine ⟨_, seen_step a1 hI, ?_⟩
      rw [L_X3_areEachBelowOnce_4, if_neg (ge16 (by omega)), e_gIN ha, Option.bind_some, l3, if_neg (nI_ge hi (by omega)), e_gRN ha, Option.bind_some, e_aN ha (by omega), Option.bind_some, a2, nI_1])
    nL 0 FU 0 (by omega) (pz_FU (by omega)) (rowOK.zero.congr (fun c _ => rfl))
  have e' : f_X3_areEachBelowOnce (E G S N T R B U L C H) a (nI n) = (gI 2 (E G S N T R B U L C H) a 0).bind fun v7 => if v7 = nI n then (ck 2 (E G S N T R B U L C H) a <| (f_X3_areBelow (E G S N T R B U L C H) a (nI n)).bind fun v10 => if v10 = 0 then some 0 else (f_J6_bitCount_0f7a4 x).bind fun v13 => if v13 = nI n then some 1 else some 0) else some 0 := e
  have hc := cnt_le (seen ql nL) 16
  have sf := seen_full (ql := ql) (nL := nL) hn (fun i hi => (l5 i hi).1)
  rw [e', e_gIN ha, Option.bind_some, l3, e_ckN ha]
  by_cases q : nL = n
  · rw [if_pos (by rw [q])]
    rcases n_below (G := G) (S := S) (T := T) (R := R) (B := B) (U := U) (L := L) (C := C) (H := H) ha l1 l3 l5 hn with ⟨f1, f2⟩ | ⟨f1, p, p1, p2, p3⟩
    · rw [f1, Option.bind_some, if_neg one_ne, hx.pop, Option.bind_some]
      by_cases q2 : cnt (seen ql nL) 16 = n
      · left; exact ⟨by rw [if_pos (by rw [q2])], q, sf.1 ⟨f2, q2⟩⟩
      · right; exact ⟨by rw [if_neg (fun z => q2 ((nI_eq (by omega) (by omega)).1 z))], fun z => q2 (sf.2 z.2).2⟩
    · right
      exact ⟨by rw [f1, Option.bind_some, if_pos rfl], fun z => p2 ((sf.2 z.2).1 p p1)⟩
  · right
    exact ⟨by rw [if_neg (fun z => q ((nI_eq (by omega) (by omega)).1 z))], fun z => q z.1⟩
theorem cmd_width {h : HP} (o : OK h) (x1 : Int32) : SW h (fun h => f_X5_width h 0 x1) (fun h => f_X6_width h 43 x1) := by
  have oo := o
  obtain ⟨G, S, N, T, ⟨gz, ar, ne, re, sj, st, nx⟩, B, U, L, C, H, g, tR, tC, tk, tv, nT, qr, qc, qv, nL, ql, rfl, hK, hw, hM, hr⟩ := o
  obtain ⟨l1, l2, l3, l4, l5⟩ := hr.2.1
  have hN := nu_mem l2
  cases h1 : tix tR x1 with
  | none =>
    refine SW.same (r := -1) oo ?_ ?_
    · show f_X5_width _ 0 x1 = _
      unfold f_X5_width
      rw [e_ck0, kt_gridAt hK hw, h1, Option.bind_some]; rfl
    · show f_X6_width _ 43 x1 = _
      unfold f_X6_width
      rw [e_ck43, md_isTable hM, h1, Option.bind_some, if_pos bN]
  | some a =>
    obtain ⟨ha, rfl, hRa⟩ := tix_some h1
    obtain ⟨w1, w2⟩ := hw a ha
    obtain ⟨w3, w4, w5, w6, w7⟩ := w2 hRa
    obtain ⟨s1, s2, s3, s4, s5⟩ := hK.1 a ha
    obtain ⟨s6, s7⟩ := s5 hRa
    obtain ⟨b1, b2, b3⟩ := (hM a ha).2 hRa
    have lm5 : ∀ i, i < nL → ql i < 16 ∧ L.2 i = nI (ql i) := fun i hi => ⟨(l5 i hi).1, (l5 i hi).2.2⟩
    have lx5 : ∀ i, i < nL → ql i < 16 ∧ N.2.2.2 N.1 i = nI (ql i) := fun i hi => ⟨(l5 i hi).1, (l5 i hi).2.1⟩
    have em : ∀ R', f_X6_width (E G S N T R' B U L C H) 43 (nI a) = if (nL = tR a ∧ ∀ c, c < 16 → seen ql nL c = decide (c < tR a)) ∧ tR a = tC a then some (nI (wd (nb (tk a)) ql nL)) else some (-3) := by
      intro R'
      have hwid := md_width (G := G) (S := S) (N := N) (T := T) (R := R') (U := U) (C := C) (H := H) b3 ha l1 l4 lm5
      have hgr := md_isGraph (G := G) (S := S) (N := N) (T := T) (R := R') (U := U) (L := L) (C := C) (H := H) (t := a) (by omega) b1 b2 w1 w4
      obtain ⟨x, hx, e⟩ := pz_lp (fun m s l => L_X6_width_14 (E G S N T R' B U L C H) 43 m (fun x9 => if nI nL = nI (tR a) then (if x9 = ((1 <<< (nI (tR a) &&& 31)) - 1) then (if bI (decide (tR a = tC a)) = 0 then some (-3) else some (nI (wd (nb (tk a)) ql nL))) else (if bI (decide (tR a = tC a)) = 0 then some (-3) else some (-3))) else (if bI (decide (tR a = tC a)) = 0 then some (-3) else some (-3))) s l) (fun x9 => if nI nL = nI (tR a) then (if x9 = ((1 <<< (nI (tR a) &&& 31)) - 1) then (if bI (decide (tR a = tC a)) = 0 then some (-3) else some (nI (wd (nb (tk a)) ql nL))) else (if bI (decide (tR a = tC a)) = 0 then some (-3) else some (-3))) else (if bI (decide (tR a = tC a)) = 0 then some (-3) else some (-3))) nL
        (fun m x => rowOK x (seen ql m))
        (fun m s _ => by rw [L_X6_width_14, e_gI43_8, Option.bind_some, l4, if_pos (Int32.le_refl _)])
        (fun m i s hi hI => by
          obtain ⟨a1, a2⟩ := lm5 i hi
          refine ⟨_, seen_step a1 hI, ?_⟩
          rw [L_X6_width_14, e_gI43_8, Option.bind_some, l4, if_neg (nI_ge hi (by omega)), e_gR43_9, Option.bind_some, e_a51 (by omega), Option.bind_some, a2, nI_1])
        nL 0 FU 0 (by omega) (pz_FU (by omega)) (rowOK.zero.congr (fun c _ => rfl))
      unfold f_X6_width
      simp only [e_ck43, md_isTable hM, h1, Option.bind_some, if_neg bS, e_gI43_8, l4, e_gR43_1, e_a45 (show a < 9 by omega), b1, hgr, hwid]
      refine e.trans ?_
      have hf := hx.eq (rowOK.full (tR a) w1)
      by_cases q1 : nL = tR a
      · simp only [if_pos (show nI nL = nI (tR a) by rw [q1])]
        by_cases q2 : ∀ c, c < 16 → seen ql nL c = decide (c < tR a)
        · rw [if_pos (hf.2 q2)]
          by_cases q3 : tR a = tC a
          · rw [if_neg (by simp [q3, bI]), if_pos ⟨⟨q1, q2⟩, q3⟩]
          · rw [if_pos (by simp [q3, bI]), if_neg (fun z => q3 z.2)]
        · rw [if_neg (fun z => q2 (hf.1 z)), if_neg (show ¬ ((nL = tR a ∧ ∀ c, c < 16 → seen ql nL c = decide (c < tR a)) ∧ tR a = tC a) from fun z => q2 z.1.2)]
          split <;> rfl
      · simp only [if_neg (show ¬ nI nL = nI (tR a) from fun z => q1 ((nI_eq (by omega) (by omega)).1 z))]
        rw [if_neg (show ¬ ((nL = tR a ∧ ∀ c, c < 16 → seen ql nL c = decide (c < tR a)) ∧ tR a = tC a) from fun z => q1 z.1.1)]
        split <;> rfl
    have ex : f_X5_width (E G S N T (gz, ar, ne, re, sj, st, nx) B U L C H) 0 (nI a) = if bI (decide (tR a = tC a)) = 0 then some (E G S N T (gz, ar, ne, re, sj, st, nx) B U L C H, -3) else (f_X3_areEachBelowOnce (E G S N T (gz, ar, ne, re, sj, st, nx) B U L C H) N.1 (nI (tR a))).bind fun v12 => if v12 = 0 then some (E G S N T (gz, ar, ne, re, sj, st, nx) B U L C H, -3) else (f_X1_read (E G S N T (gz, ar, ne, re, sj, st, nx) B U L C H) 6 (g a)).bind fun h17 => (gR 4 h17 0 2).bind fun v19 => (gR 4 h17 0 4).bind fun v20 => ck 0 h17 v19 <| (f_X1_widthOf h17 v19 v20).bind fun v22 => some (h17, v22) := by
      unfold f_X5_width
      rw [e_ck0, kt_gridAt hK hw, h1, Option.bind_some, Option.map_some, om_s, e_ckG s2, g_square s2 s4 s6 w1 w4, Option.bind_some, e_gR0_4, Option.bind_some, e_gIrc s2, Option.bind_some, s4, e_ckN hN, e_gR0_2, Option.bind_some, e_ck6]
    by_cases q3 : tR a = tC a
    · rw [if_neg (by simp [q3, bI])] at ex
      rcases n_once (G := G) (S := S) (T := T) (R := (gz, ar, ne, re, sj, st, nx)) (B := B) (U := U) (L := L) (C := C) (H := H) hN l1 l3 lx5 w1 with ⟨f1, f2⟩ | ⟨f1, f2⟩
      · obtain ⟨ar', ne', e4, g1⟩ := x_read (G := G) (S := S) (N := N) (T := T) (B := B) (U := U) (L := L) (C := C) (H := H) (gz := gz) (ar := ar) (ne := ne) (re := re) (sj := sj) (st := st) (nx := nx) s2 s4 s7
        rw [f1, Option.bind_some, if_neg one_ne, e4, Option.bind_some, e_gR0_2, Option.bind_some, e_gR0_4, Option.bind_some, e_ck6, x_width g1 hN l1 l3 lx5, Option.bind_some] at ex
        exact ⟨_, _, ex, OK.mk hK hw hM (hr.gr _ _ _ _ _), (em _).trans (by rw [if_pos ⟨f2, q3⟩])⟩
      · rw [f1, Option.bind_some, if_pos rfl] at ex
        exact SW.same (r := -3) oo ex ((em _).trans (by rw [if_neg (fun z => f2 z.1)]))
    · rw [if_pos (by simp [q3, bI])] at ex
      exact SW.same (r := -3) oo ex ((em _).trans (by rw [if_neg (fun z => q3 z.2)]))
