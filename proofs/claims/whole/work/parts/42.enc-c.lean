theorem e_ck0 {α : Type} {G : TG} {S : TS} {N : TN} {T : TT} {R : TR} {B : TB} {U : TU} {L : TL} {C : TC} {H : TH} (k : Option α) : ck 4 (E G S N T R B U L C H) 0 k = k := pz_ck (by decide) E_0 k
theorem e_ck2 {α : Type} {G : TG} {S : TS} {N : TN} {T : TT} {R : TR} {B : TB} {U : TU} {L : TL} {C : TC} {H : TH} (k : Option α) : ck 3 (E G S N T R B U L C H) 2 k = k := pz_ck (by decide) E_2 k
theorem e_ck6 {α : Type} {G : TG} {S : TS} {N : TN} {T : TT} {R : TR} {B : TB} {U : TU} {L : TL} {C : TC} {H : TH} (k : Option α) : ck 0 (E G S N T R B U L C H) 6 k = k := pz_ck (by decide) E_6 k
theorem e_ck43 {α : Type} {G : TG} {S : TS} {N : TN} {T : TT} {R : TR} {B : TB} {U : TU} {L : TL} {C : TC} {H : TH} (k : Option α) : ck 5 (E G S N T R B U L C H) 43 k = k := pz_ck (by decide) E_43 k
theorem e_ckG {α : Type} {G : TG} {S : TS} {N : TN} {T : TT} {R : TR} {B : TB} {U : TU} {L : TL} {C : TC} {H : TH} {a : Nat} (h : isG a = true) (k : Option α) : ck 1 (E G S N T R B U L C H) a k = k := pz_ck (by have := isG_lo h; omega) (E_G h) k
theorem e_ckN {α : Type} {G : TG} {S : TS} {N : TN} {T : TT} {R : TR} {B : TB} {U : TU} {L : TL} {C : TC} {H : TH} {a : Nat} (h : a = 15 ∨ a = 17) (k : Option α) : ck 2 (E G S N T R B U L C H) a k = k := pz_ck (by unfold NC; omega) (E_N h) k
theorem e_gR0_0 {G : TG} {S : TS} {N : TN} {T : TT} {R : TR} {B : TB} {U : TU} {L : TL} {C : TC} {H : TH} : gR 4 (E G S N T R B U L C H) 0 0 = some 1 := pz_gR (by decide) E_0 rfl
theorem e_gR0_1 {G : TG} {S : TS} {N : TN} {T : TT} {R : TR} {B : TB} {U : TU} {L : TL} {C : TC} {H : TH} : gR 4 (E G S N T R B U L C H) 0 1 = some 2 := pz_gR (by decide) E_0 rfl
theorem e_gR0_2 {G : TG} {S : TS} {N : TN} {T : TT} {R : TR} {B : TB} {U : TU} {L : TL} {C : TC} {H : TH} : gR 4 (E G S N T R B U L C H) 0 2 = some 6 := pz_gR (by decide) E_0 rfl
theorem e_gR0_3 {G : TG} {S : TS} {N : TN} {T : TT} {R : TR} {B : TB} {U : TU} {L : TL} {C : TC} {H : TH} : gR 4 (E G S N T R B U L C H) 0 3 = some (S.2) := pz_gR (by decide) E_0 rfl
theorem e_gR0_4 {G : TG} {S : TS} {N : TN} {T : TT} {R : TR} {B : TB} {U : TU} {L : TL} {C : TC} {H : TH} : gR 4 (E G S N T R B U L C H) 0 4 = some (N.1) := pz_gR (by decide) E_0 rfl
theorem e_gR0_5 {G : TG} {S : TS} {N : TN} {T : TT} {R : TR} {B : TB} {U : TU} {L : TL} {C : TC} {H : TH} : gR 4 (E G S N T R B U L C H) 0 5 = some (N.2.1) := pz_gR (by decide) E_0 rfl
theorem e_gR2_1 {G : TG} {S : TS} {N : TN} {T : TT} {R : TR} {B : TB} {U : TU} {L : TL} {C : TC} {H : TH} : gR 3 (E G S N T R B U L C H) 2 1 = some 3 := pz_gR (by decide) E_2 rfl
theorem e_gR2_2 {G : TG} {S : TS} {N : TN} {T : TT} {R : TR} {B : TB} {U : TU} {L : TL} {C : TC} {H : TH} : gR 3 (E G S N T R B U L C H) 2 2 = some 4 := pz_gR (by decide) E_2 rfl
theorem e_gR2_3 {G : TG} {S : TS} {N : TN} {T : TT} {R : TR} {B : TB} {U : TU} {L : TL} {C : TC} {H : TH} : gR 3 (E G S N T R B U L C H) 2 3 = some 5 := pz_gR (by decide) E_2 rfl
theorem e_gI2_0 {G : TG} {S : TS} {N : TN} {T : TT} {R : TR} {B : TB} {U : TU} {L : TL} {C : TC} {H : TH} : gI 3 (E G S N T R B U L C H) 2 0 = some (T.1) := pz_gI (by decide) E_2 rfl
theorem e_gR6_1 {G : TG} {S : TS} {N : TN} {T : TT} {R : TR} {B : TB} {U : TU} {L : TL} {C : TC} {H : TH} : gR 0 (E G S N T R B U L C H) 6 1 = some 7 := pz_gR (by decide) E_6 rfl
theorem e_gR6_2 {G : TG} {S : TS} {N : TN} {T : TT} {R : TR} {B : TB} {U : TU} {L : TL} {C : TC} {H : TH} : gR 0 (E G S N T R B U L C H) 6 2 = some 8 := pz_gR (by decide) E_6 rfl
theorem e_gR6_3 {G : TG} {S : TS} {N : TN} {T : TT} {R : TR} {B : TB} {U : TU} {L : TL} {C : TC} {H : TH} : gR 0 (E G S N T R B U L C H) 6 3 = some 9 := pz_gR (by decide) E_6 rfl
theorem e_gR6_4 {G : TG} {S : TS} {N : TN} {T : TT} {R : TR} {B : TB} {U : TU} {L : TL} {C : TC} {H : TH} : gR 0 (E G S N T R B U L C H) 6 4 = some (R.2.2.2.2.2.1) := pz_gR (by decide) E_6 rfl
theorem e_gR6_5 {G : TG} {S : TS} {N : TN} {T : TT} {R : TR} {B : TB} {U : TU} {L : TL} {C : TC} {H : TH} : gR 0 (E G S N T R B U L C H) 6 5 = some (R.2.2.2.2.2.2) := pz_gR (by decide) E_6 rfl
theorem e_gI6_0 {G : TG} {S : TS} {N : TN} {T : TT} {R : TR} {B : TB} {U : TU} {L : TL} {C : TC} {H : TH} : gI 0 (E G S N T R B U L C H) 6 0 = some (R.1) := pz_gI (by decide) E_6 rfl
theorem e_gR43_0 {G : TG} {S : TS} {N : TN} {T : TT} {R : TR} {B : TB} {U : TU} {L : TL} {C : TC} {H : TH} : gR 5 (E G S N T R B U L C H) 43 0 = some 44 := pz_gR (by decide) E_43 rfl
theorem e_gR43_1 {G : TG} {S : TS} {N : TN} {T : TT} {R : TR} {B : TB} {U : TU} {L : TL} {C : TC} {H : TH} : gR 5 (E G S N T R B U L C H) 43 1 = some 45 := pz_gR (by decide) E_43 rfl
theorem e_gR43_2 {G : TG} {S : TS} {N : TN} {T : TT} {R : TR} {B : TB} {U : TU} {L : TL} {C : TC} {H : TH} : gR 5 (E G S N T R B U L C H) 43 2 = some 46 := pz_gR (by decide) E_43 rfl
theorem e_gR43_3 {G : TG} {S : TS} {N : TN} {T : TT} {R : TR} {B : TB} {U : TU} {L : TL} {C : TC} {H : TH} : gR 5 (E G S N T R B U L C H) 43 3 = some 47 := pz_gR (by decide) E_43 rfl
theorem e_gR43_4 {G : TG} {S : TS} {N : TN} {T : TT} {R : TR} {B : TB} {U : TU} {L : TL} {C : TC} {H : TH} : gR 5 (E G S N T R B U L C H) 43 4 = some 48 := pz_gR (by decide) E_43 rfl
theorem e_gR43_6 {G : TG} {S : TS} {N : TN} {T : TT} {R : TR} {B : TB} {U : TU} {L : TL} {C : TC} {H : TH} : gR 5 (E G S N T R B U L C H) 43 6 = some 49 := pz_gR (by decide) E_43 rfl
theorem e_gR43_7 {G : TG} {S : TS} {N : TN} {T : TT} {R : TR} {B : TB} {U : TU} {L : TL} {C : TC} {H : TH} : gR 5 (E G S N T R B U L C H) 43 7 = some 50 := pz_gR (by decide) E_43 rfl
theorem e_gR43_9 {G : TG} {S : TS} {N : TN} {T : TT} {R : TR} {B : TB} {U : TU} {L : TL} {C : TC} {H : TH} : gR 5 (E G S N T R B U L C H) 43 9 = some 51 := pz_gR (by decide) E_43 rfl
theorem e_gR43_10 {G : TG} {S : TS} {N : TN} {T : TT} {R : TR} {B : TB} {U : TU} {L : TL} {C : TC} {H : TH} : gR 5 (E G S N T R B U L C H) 43 10 = some 52 := pz_gR (by decide) E_43 rfl
theorem e_gR43_12 {G : TG} {S : TS} {N : TN} {T : TT} {R : TR} {B : TB} {U : TU} {L : TL} {C : TC} {H : TH} : gR 5 (E G S N T R B U L C H) 43 12 = some 53 := pz_gR (by decide) E_43 rfl
theorem e_gR43_13 {G : TG} {S : TS} {N : TN} {T : TT} {R : TR} {B : TB} {U : TU} {L : TL} {C : TC} {H : TH} : gR 5 (E G S N T R B U L C H) 43 13 = some 54 := pz_gR (by decide) E_43 rfl
theorem e_gI43_5 {G : TG} {S : TS} {N : TN} {T : TT} {R : TR} {B : TB} {U : TU} {L : TL} {C : TC} {H : TH} : gI 5 (E G S N T R B U L C H) 43 5 = some (U.1) := pz_gI (by decide) E_43 rfl
theorem e_gI43_8 {G : TG} {S : TS} {N : TN} {T : TT} {R : TR} {B : TB} {U : TU} {L : TL} {C : TC} {H : TH} : gI 5 (E G S N T R B U L C H) 43 8 = some (L.1) := pz_gI (by decide) E_43 rfl
theorem e_gI43_11 {G : TG} {S : TS} {N : TN} {T : TT} {R : TR} {B : TB} {U : TU} {L : TL} {C : TC} {H : TH} : gI 5 (E G S N T R B U L C H) 43 11 = some (C.2) := pz_gI (by decide) E_43 rfl
theorem e_pR0_3 {G : TG} {N : TN} {T : TT} {R : TR} {B : TB} {U : TU} {L : TL} {C : TC} {H : TH} {sl : Nat → Option Nat} {d : Nat} (y : Nat) : pR 4 (E G (sl, d) N T R B U L C H) 0 3 (some y) = some (E G (sl, y) N T R B U L C H) := by
  unfold pR
  rw [pz_pV _ (by decide) E_0 (by simp)]
  exact congrArg some (E_ud y)
theorem e_pR0_4 {G : TG} {S : TS} {T : TT} {R : TR} {B : TB} {U : TU} {L : TL} {C : TC} {H : TH} {nu : Nat} {dn : Nat} {nl : Nat → Int32} {it : Nat → Nat → Int32} (y : Nat) : pR 4 (E G S (nu, dn, nl, it) T R B U L C H) 0 4 (some y) = some (E G S (y, dn, nl, it) T R B U L C H) := by
  unfold pR
  rw [pz_pV _ (by decide) E_0 (by simp)]
  exact congrArg some (E_unu y)
theorem e_pR0_5 {G : TG} {S : TS} {T : TT} {R : TR} {B : TB} {U : TU} {L : TL} {C : TC} {H : TH} {nu : Nat} {dn : Nat} {nl : Nat → Int32} {it : Nat → Nat → Int32} (y : Nat) : pR 4 (E G S (nu, dn, nl, it) T R B U L C H) 0 5 (some y) = some (E G S (nu, y, nl, it) T R B U L C H) := by
  unfold pR
  rw [pz_pV _ (by decide) E_0 (by simp)]
  exact congrArg some (E_udn y)
theorem e_pI2_0 {G : TG} {S : TS} {N : TN} {R : TR} {B : TB} {U : TU} {L : TL} {C : TC} {H : TH} {tl : Int32} {tr : Nat → Int32} {tc : Nat → Int32} {tv : Nat → Int64} (y : Int32) : pI 3 (E G S N (tl, tr, tc, tv) R B U L C H) 2 0 y = some (E G S N (y, tr, tc, tv) R B U L C H) := by
  unfold pI
  rw [pz_pV _ (by decide) E_2 (by simp)]
  exact congrArg some (E_utl y)
theorem e_pI6_0 {G : TG} {S : TS} {N : TN} {T : TT} {B : TB} {U : TU} {L : TL} {C : TC} {H : TH} {gz : Int32} {ar : Nat → Int32} {ne : Nat → Int32} {re : Nat → Int32} {sj : Nat → Nat → Int64} {st : Nat} {nx : Nat} (y : Int32) : pI 0 (E G S N T (gz, ar, ne, re, sj, st, nx) B U L C H) 6 0 y = some (E G S N T (y, ar, ne, re, sj, st, nx) B U L C H) := by
  unfold pI
  rw [pz_pV _ (by decide) E_6 (by simp)]
  exact congrArg some (E_ugz y)
theorem e_pR6_4 {G : TG} {S : TS} {N : TN} {T : TT} {B : TB} {U : TU} {L : TL} {C : TC} {H : TH} {gz : Int32} {ar : Nat → Int32} {ne : Nat → Int32} {re : Nat → Int32} {sj : Nat → Nat → Int64} {st : Nat} {nx : Nat} (y : Nat) : pR 0 (E G S N T (gz, ar, ne, re, sj, st, nx) B U L C H) 6 4 (some y) = some (E G S N T (gz, ar, ne, re, sj, y, nx) B U L C H) := by
  unfold pR
  rw [pz_pV _ (by decide) E_6 (by simp)]
  exact congrArg some (E_ust y)
theorem e_pR6_5 {G : TG} {S : TS} {N : TN} {T : TT} {B : TB} {U : TU} {L : TL} {C : TC} {H : TH} {gz : Int32} {ar : Nat → Int32} {ne : Nat → Int32} {re : Nat → Int32} {sj : Nat → Nat → Int64} {st : Nat} {nx : Nat} (y : Nat) : pR 0 (E G S N T (gz, ar, ne, re, sj, st, nx) B U L C H) 6 5 (some y) = some (E G S N T (gz, ar, ne, re, sj, st, y) B U L C H) := by
  unfold pR
  rw [pz_pV _ (by decide) E_6 (by simp)]
  exact congrArg some (E_unx y)
theorem e_pI43_5 {G : TG} {S : TS} {N : TN} {T : TT} {R : TR} {B : TB} {L : TL} {C : TC} {H : TH} {mt : Int32} {ta : Nat → Int32} {tw : Nat → Int64} (y : Int32) : pI 5 (E G S N T R B (mt, ta, tw) L C H) 43 5 y = some (E G S N T R B (y, ta, tw) L C H) := by
  unfold pI
  rw [pz_pV _ (by decide) E_43 (by simp)]
  exact congrArg some (E_umt y)
theorem e_pI43_8 {G : TG} {S : TS} {N : TN} {T : TT} {R : TR} {B : TB} {U : TU} {C : TC} {H : TH} {ml : Int32} {lo : Nat → Int32} (y : Int32) : pI 5 (E G S N T R B U (ml, lo) C H) 43 8 y = some (E G S N T R B U (y, lo) C H) := by
  unfold pI
  rw [pz_pV _ (by decide) E_43 (by simp)]
  exact congrArg some (E_uml y)
theorem e_pI43_11 {G : TG} {S : TS} {N : TN} {T : TT} {R : TR} {B : TB} {U : TU} {L : TL} {H : TH} {ce : Nat → Int64} {ld : Int32} (y : Int32) : pI 5 (E G S N T R B U L (ce, ld) H) 43 11 y = some (E G S N T R B U L (ce, y) H) := by
  unfold pI
  rw [pz_pV _ (by decide) E_43 (by simp)]
  exact congrArg some (E_uld y)
theorem e_a3 {G : TG} {S : TS} {N : TN} {T : TT} {R : TR} {B : TB} {U : TU} {L : TL} {C : TC} {H : TH} {i : Nat} (h : i < 64) : aI (E G S N T R B U L C H) 3 (nI i) = some ((T.2.1) i) := pz_aI (by decide) E_3 h (by decide)
theorem e_s3 {G : TG} {S : TS} {N : TN} {R : TR} {B : TB} {U : TU} {L : TL} {C : TC} {H : TH} {tl : Int32} {tr : Nat → Int32} {tc : Nat → Int32} {tv : Nat → Int64} {i : Nat} (h : i < 64) (x : Int32) : sI (E G S N (tl, tr, tc, tv) R B U L C H) 3 (nI i) x = some (E G S N (tl, upd tr i x, tc, tv) R B U L C H) := by
  rw [pz_sI x (by decide) E_3 h (by decide)]
  exact congrArg some (E_utr _)
theorem e_a4 {G : TG} {S : TS} {N : TN} {T : TT} {R : TR} {B : TB} {U : TU} {L : TL} {C : TC} {H : TH} {i : Nat} (h : i < 64) : aI (E G S N T R B U L C H) 4 (nI i) = some ((T.2.2.1) i) := pz_aI (by decide) E_4 h (by decide)
theorem e_s4 {G : TG} {S : TS} {N : TN} {R : TR} {B : TB} {U : TU} {L : TL} {C : TC} {H : TH} {tl : Int32} {tr : Nat → Int32} {tc : Nat → Int32} {tv : Nat → Int64} {i : Nat} (h : i < 64) (x : Int32) : sI (E G S N (tl, tr, tc, tv) R B U L C H) 4 (nI i) x = some (E G S N (tl, tr, upd tc i x, tv) R B U L C H) := by
  rw [pz_sI x (by decide) E_4 h (by decide)]
  exact congrArg some (E_utc _)
theorem e_a5 {G : TG} {S : TS} {N : TN} {T : TT} {R : TR} {B : TB} {U : TU} {L : TL} {C : TC} {H : TH} {i : Nat} (h : i < 64) : aJ (E G S N T R B U L C H) 5 (nI i) = some ((T.2.2.2) i) := pz_aJ (by decide) E_5 h (by decide)
theorem e_s5 {G : TG} {S : TS} {N : TN} {R : TR} {B : TB} {U : TU} {L : TL} {C : TC} {H : TH} {tl : Int32} {tr : Nat → Int32} {tc : Nat → Int32} {tv : Nat → Int64} {i : Nat} (h : i < 64) (x : Int64) : sJ (E G S N (tl, tr, tc, tv) R B U L C H) 5 (nI i) x = some (E G S N (tl, tr, tc, vp_updL tv i x) R B U L C H) := by
  rw [pz_sJ x (by decide) E_5 h (by decide)]
  exact congrArg some (E_utv _)
theorem e_a7 {G : TG} {S : TS} {N : TN} {T : TT} {R : TR} {B : TB} {U : TU} {L : TL} {C : TC} {H : TH} {i : Nat} (h : i < 16) : aI (E G S N T R B U L C H) 7 (nI i) = some ((R.2.1) i) := pz_aI (by decide) E_7 h (by decide)
theorem e_s7 {G : TG} {S : TS} {N : TN} {T : TT} {B : TB} {U : TU} {L : TL} {C : TC} {H : TH} {gz : Int32} {ar : Nat → Int32} {ne : Nat → Int32} {re : Nat → Int32} {sj : Nat → Nat → Int64} {st : Nat} {nx : Nat} {i : Nat} (h : i < 16) (x : Int32) : sI (E G S N T (gz, ar, ne, re, sj, st, nx) B U L C H) 7 (nI i) x = some (E G S N T (gz, upd ar i x, ne, re, sj, st, nx) B U L C H) := by
  rw [pz_sI x (by decide) E_7 h (by decide)]
  exact congrArg some (E_uar _)
theorem e_a8 {G : TG} {S : TS} {N : TN} {T : TT} {R : TR} {B : TB} {U : TU} {L : TL} {C : TC} {H : TH} {i : Nat} (h : i < 16) : aI (E G S N T R B U L C H) 8 (nI i) = some ((R.2.2.1) i) := pz_aI (by decide) E_8 h (by decide)
theorem e_s8 {G : TG} {S : TS} {N : TN} {T : TT} {B : TB} {U : TU} {L : TL} {C : TC} {H : TH} {gz : Int32} {ar : Nat → Int32} {ne : Nat → Int32} {re : Nat → Int32} {sj : Nat → Nat → Int64} {st : Nat} {nx : Nat} {i : Nat} (h : i < 16) (x : Int32) : sI (E G S N T (gz, ar, ne, re, sj, st, nx) B U L C H) 8 (nI i) x = some (E G S N T (gz, ar, upd ne i x, re, sj, st, nx) B U L C H) := by
  rw [pz_sI x (by decide) E_8 h (by decide)]
  exact congrArg some (E_une _)
theorem e_a9 {G : TG} {S : TS} {N : TN} {T : TT} {R : TR} {B : TB} {U : TU} {L : TL} {C : TC} {H : TH} {i : Nat} (h : i < 16) : aI (E G S N T R B U L C H) 9 (nI i) = some ((R.2.2.2.1) i) := pz_aI (by decide) E_9 h (by decide)
theorem e_s9 {G : TG} {S : TS} {N : TN} {T : TT} {B : TB} {U : TU} {L : TL} {C : TC} {H : TH} {gz : Int32} {ar : Nat → Int32} {ne : Nat → Int32} {re : Nat → Int32} {sj : Nat → Nat → Int64} {st : Nat} {nx : Nat} {i : Nat} (h : i < 16) (x : Int32) : sI (E G S N T (gz, ar, ne, re, sj, st, nx) B U L C H) 9 (nI i) x = some (E G S N T (gz, ar, ne, upd re i x, sj, st, nx) B U L C H) := by
  rw [pz_sI x (by decide) E_9 h (by decide)]
  exact congrArg some (E_ure _)
theorem e_a44 {G : TG} {S : TS} {N : TN} {T : TT} {R : TR} {B : TB} {U : TU} {L : TL} {C : TC} {H : TH} {i : Nat} (h : i < 9) : aZ (E G S N T R B U L C H) 44 (nI i) = some ((B.1) i) := pz_aZ (by decide) E_44 h (by decide)
theorem e_s44 {G : TG} {S : TS} {N : TN} {T : TT} {R : TR} {U : TU} {L : TL} {C : TC} {H : TH} {th : Nat → Int32} {hi : Nat → Int32} {wi : Nat → Int32} {kp : Nat → Int32} {va : Nat → Int64} {i : Nat} (h : i < 9) (x : Int32) : sZ (E G S N T R (th, hi, wi, kp, va) U L C H) 44 (nI i) x = some (E G S N T R (upd th i (vp_nar .boolean x), hi, wi, kp, va) U L C H) := by
  rw [pz_sZ x (by decide) E_44 h (by decide)]
  exact congrArg some (E_uth _)
theorem e_a45 {G : TG} {S : TS} {N : TN} {T : TT} {R : TR} {B : TB} {U : TU} {L : TL} {C : TC} {H : TH} {i : Nat} (h : i < 9) : aI (E G S N T R B U L C H) 45 (nI i) = some ((B.2.1) i) := pz_aI (by decide) E_45 h (by decide)
theorem e_s45 {G : TG} {S : TS} {N : TN} {T : TT} {R : TR} {U : TU} {L : TL} {C : TC} {H : TH} {th : Nat → Int32} {hi : Nat → Int32} {wi : Nat → Int32} {kp : Nat → Int32} {va : Nat → Int64} {i : Nat} (h : i < 9) (x : Int32) : sI (E G S N T R (th, hi, wi, kp, va) U L C H) 45 (nI i) x = some (E G S N T R (th, upd hi i x, wi, kp, va) U L C H) := by
  rw [pz_sI x (by decide) E_45 h (by decide)]
  exact congrArg some (E_uhi _)
theorem e_a46 {G : TG} {S : TS} {N : TN} {T : TT} {R : TR} {B : TB} {U : TU} {L : TL} {C : TC} {H : TH} {i : Nat} (h : i < 9) : aI (E G S N T R B U L C H) 46 (nI i) = some ((B.2.2.1) i) := pz_aI (by decide) E_46 h (by decide)
theorem e_s46 {G : TG} {S : TS} {N : TN} {T : TT} {R : TR} {U : TU} {L : TL} {C : TC} {H : TH} {th : Nat → Int32} {hi : Nat → Int32} {wi : Nat → Int32} {kp : Nat → Int32} {va : Nat → Int64} {i : Nat} (h : i < 9) (x : Int32) : sI (E G S N T R (th, hi, wi, kp, va) U L C H) 46 (nI i) x = some (E G S N T R (th, hi, upd wi i x, kp, va) U L C H) := by
  rw [pz_sI x (by decide) E_46 h (by decide)]
  exact congrArg some (E_uwi _)
theorem e_a47 {G : TG} {S : TS} {N : TN} {T : TT} {R : TR} {B : TB} {U : TU} {L : TL} {C : TC} {H : TH} {i : Nat} (h : i < 2304) : aZ (E G S N T R B U L C H) 47 (nI i) = some ((B.2.2.2.1) i) := pz_aZ (by decide) E_47 h (by decide)
theorem e_s47 {G : TG} {S : TS} {N : TN} {T : TT} {R : TR} {U : TU} {L : TL} {C : TC} {H : TH} {th : Nat → Int32} {hi : Nat → Int32} {wi : Nat → Int32} {kp : Nat → Int32} {va : Nat → Int64} {i : Nat} (h : i < 2304) (x : Int32) : sZ (E G S N T R (th, hi, wi, kp, va) U L C H) 47 (nI i) x = some (E G S N T R (th, hi, wi, upd kp i (vp_nar .boolean x), va) U L C H) := by
  rw [pz_sZ x (by decide) E_47 h (by decide)]
  exact congrArg some (E_ukp _)
theorem e_a48 {G : TG} {S : TS} {N : TN} {T : TT} {R : TR} {B : TB} {U : TU} {L : TL} {C : TC} {H : TH} {i : Nat} (h : i < 2304) : aJ (E G S N T R B U L C H) 48 (nI i) = some ((B.2.2.2.2) i) := pz_aJ (by decide) E_48 h (by decide)
theorem e_s48 {G : TG} {S : TS} {N : TN} {T : TT} {R : TR} {U : TU} {L : TL} {C : TC} {H : TH} {th : Nat → Int32} {hi : Nat → Int32} {wi : Nat → Int32} {kp : Nat → Int32} {va : Nat → Int64} {i : Nat} (h : i < 2304) (x : Int64) : sJ (E G S N T R (th, hi, wi, kp, va) U L C H) 48 (nI i) x = some (E G S N T R (th, hi, wi, kp, vp_updL va i x) U L C H) := by
  rw [pz_sJ x (by decide) E_48 h (by decide)]
  exact congrArg some (E_uva _)
theorem e_a49 {G : TG} {S : TS} {N : TN} {T : TT} {R : TR} {B : TB} {U : TU} {L : TL} {C : TC} {H : TH} {i : Nat} (h : i < 64) : aI (E G S N T R B U L C H) 49 (nI i) = some ((U.2.1) i) := pz_aI (by decide) E_49 h (by decide)
theorem e_s49 {G : TG} {S : TS} {N : TN} {T : TT} {R : TR} {B : TB} {L : TL} {C : TC} {H : TH} {mt : Int32} {ta : Nat → Int32} {tw : Nat → Int64} {i : Nat} (h : i < 64) (x : Int32) : sI (E G S N T R B (mt, ta, tw) L C H) 49 (nI i) x = some (E G S N T R B (mt, upd ta i x, tw) L C H) := by
  rw [pz_sI x (by decide) E_49 h (by decide)]
  exact congrArg some (E_uta _)
theorem e_a50 {G : TG} {S : TS} {N : TN} {T : TT} {R : TR} {B : TB} {U : TU} {L : TL} {C : TC} {H : TH} {i : Nat} (h : i < 64) : aJ (E G S N T R B U L C H) 50 (nI i) = some ((U.2.2) i) := pz_aJ (by decide) E_50 h (by decide)
theorem e_s50 {G : TG} {S : TS} {N : TN} {T : TT} {R : TR} {B : TB} {L : TL} {C : TC} {H : TH} {mt : Int32} {ta : Nat → Int32} {tw : Nat → Int64} {i : Nat} (h : i < 64) (x : Int64) : sJ (E G S N T R B (mt, ta, tw) L C H) 50 (nI i) x = some (E G S N T R B (mt, ta, vp_updL tw i x) L C H) := by
  rw [pz_sJ x (by decide) E_50 h (by decide)]
  exact congrArg some (E_utw _)
theorem e_a51 {G : TG} {S : TS} {N : TN} {T : TT} {R : TR} {B : TB} {U : TU} {L : TL} {C : TC} {H : TH} {i : Nat} (h : i < 16) : aI (E G S N T R B U L C H) 51 (nI i) = some ((L.2) i) := pz_aI (by decide) E_51 h (by decide)
theorem e_s51 {G : TG} {S : TS} {N : TN} {T : TT} {R : TR} {B : TB} {U : TU} {C : TC} {H : TH} {ml : Int32} {lo : Nat → Int32} {i : Nat} (h : i < 16) (x : Int32) : sI (E G S N T R B U (ml, lo) C H) 51 (nI i) x = some (E G S N T R B U (ml, upd lo i x) C H) := by
  rw [pz_sI x (by decide) E_51 h (by decide)]
  exact congrArg some (E_ulo _)
theorem e_a52 {G : TG} {S : TS} {N : TN} {T : TT} {R : TR} {B : TB} {U : TU} {L : TL} {C : TC} {H : TH} {i : Nat} (h : i < 3000) : aJ (E G S N T R B U L C H) 52 (nI i) = some ((C.1) i) := pz_aJ (by decide) E_52 h (by decide)
theorem e_s52 {G : TG} {S : TS} {N : TN} {T : TT} {R : TR} {B : TB} {U : TU} {L : TL} {H : TH} {ce : Nat → Int64} {ld : Int32} {i : Nat} (h : i < 3000) (x : Int64) : sJ (E G S N T R B U L (ce, ld) H) 52 (nI i) x = some (E G S N T R B U L (vp_updL ce i x, ld) H) := by
  rw [pz_sJ x (by decide) E_52 h (by decide)]
  exact congrArg some (E_uce _)
theorem e_a53 {G : TG} {S : TS} {N : TN} {T : TT} {R : TR} {B : TB} {U : TU} {L : TL} {C : TC} {H : TH} {i : Nat} (h : i < 16) : aJ (E G S N T R B U L C H) 53 (nI i) = some ((H.1) i) := pz_aJ (by decide) E_53 h (by decide)
theorem e_s53 {G : TG} {S : TS} {N : TN} {T : TT} {R : TR} {B : TB} {U : TU} {L : TL} {C : TC} {he : Nat → Int64} {ny : Nat → Int64} {i : Nat} (h : i < 16) (x : Int64) : sJ (E G S N T R B U L C (he, ny)) 53 (nI i) x = some (E G S N T R B U L C (vp_updL he i x, ny)) := by
  rw [pz_sJ x (by decide) E_53 h (by decide)]
  exact congrArg some (E_uhe _)
theorem e_a54 {G : TG} {S : TS} {N : TN} {T : TT} {R : TR} {B : TB} {U : TU} {L : TL} {C : TC} {H : TH} {i : Nat} (h : i < 16) : aJ (E G S N T R B U L C H) 54 (nI i) = some ((H.2) i) := pz_aJ (by decide) E_54 h (by decide)
theorem e_s54 {G : TG} {S : TS} {N : TN} {T : TT} {R : TR} {B : TB} {U : TU} {L : TL} {C : TC} {he : Nat → Int64} {ny : Nat → Int64} {i : Nat} (h : i < 16) (x : Int64) : sJ (E G S N T R B U L C (he, ny)) 54 (nI i) x = some (E G S N T R B U L C (he, vp_updL ny i x)) := by
  rw [pz_sJ x (by decide) E_54 h (by decide)]
  exact congrArg some (E_uny _)
theorem e_aL {G : TG} {S : TS} {N : TN} {T : TT} {R : TR} {B : TB} {U : TU} {L : TL} {C : TC} {H : TH} {a i : Nat} (ha : a = 10 ∨ a = 11) (h : i < 16) : aJ (E G S N T R B U L C H) a (nI i) = some ((R.2.2.2.2.1) a i) := pz_aJ (by unfold NC; omega) (E_L ha) h (by decide)
theorem e_sL {G : TG} {S : TS} {N : TN} {T : TT} {B : TB} {U : TU} {L : TL} {C : TC} {H : TH} {gz : Int32} {ar : Nat → Int32} {ne : Nat → Int32} {re : Nat → Int32} {sj : Nat → Nat → Int64} {st : Nat} {nx : Nat} {a i : Nat} (ha : a = 10 ∨ a = 11) (h : i < 16) (x : Int64) : sJ (E G S N T (gz, ar, ne, re, sj, st, nx) B U L C H) a (nI i) x = some (E G S N T (gz, ar, ne, re, va_up sj a (vp_updL (sj a) i x), st, nx) B U L C H) := by
  rw [pz_sJ x (by unfold NC; omega) (E_L ha) h (by decide)]
  exact congrArg some (E_usj ha _)
theorem e_gIN {G : TG} {S : TS} {N : TN} {T : TT} {R : TR} {B : TB} {U : TU} {L : TL} {C : TC} {H : TH} {a : Nat} (ha : a = 15 ∨ a = 17) : gI 2 (E G S N T R B U L C H) a 0 = some ((N.2.2.1) a) := pz_gI (by unfold NC; omega) (E_N ha) rfl
theorem e_gRN {G : TG} {S : TS} {N : TN} {T : TT} {R : TR} {B : TB} {U : TU} {L : TL} {C : TC} {H : TH} {a : Nat} (ha : a = 15 ∨ a = 17) : gR 2 (E G S N T R B U L C H) a 1 = some (a + 1) := pz_gR (by unfold NC; omega) (E_N ha) rfl
theorem e_pIN {G : TG} {S : TS} {T : TT} {R : TR} {B : TB} {U : TU} {L : TL} {C : TC} {H : TH} {nu : Nat} {dn : Nat} {nl : Nat → Int32} {it : Nat → Nat → Int32} {a : Nat} (ha : a = 15 ∨ a = 17) (y : Int32) : pI 2 (E G S (nu, dn, nl, it) T R B U L C H) a 0 y = some (E G S (nu, dn, va_up nl a y, it) T R B U L C H) := by
  unfold pI
  rw [pz_pV _ (by unfold NC; omega) (E_N ha) (by simp)]
  exact congrArg some (E_unl ha _)
theorem e_aN {G : TG} {S : TS} {N : TN} {T : TT} {R : TR} {B : TB} {U : TU} {L : TL} {C : TC} {H : TH} {a i : Nat} (ha : a = 15 ∨ a = 17) (h : i < 16) : aI (E G S N T R B U L C H) (a + 1) (nI i) = some ((N.2.2.2) a i) := pz_aI (by unfold NC; omega) (E_Ni ha) h (by decide)
theorem e_sN {G : TG} {S : TS} {T : TT} {R : TR} {B : TB} {U : TU} {L : TL} {C : TC} {H : TH} {nu : Nat} {dn : Nat} {nl : Nat → Int32} {it : Nat → Nat → Int32} {a i : Nat} (ha : a = 15 ∨ a = 17) (h : i < 16) (x : Int32) : sI (E G S (nu, dn, nl, it) T R B U L C H) (a + 1) (nI i) x = some (E G S (nu, dn, nl, va_up it a (upd (it a) i x)) T R B U L C H) := by
  rw [pz_sI x (by unfold NC; omega) (E_Ni ha) h (by decide)]
  exact congrArg some (E_uit ha _)
theorem e_gIrc {G : TG} {S : TS} {N : TN} {T : TT} {R : TR} {B : TB} {U : TU} {L : TL} {C : TC} {H : TH} {a : Nat} (ha : isG a = true) : gI 1 (E G S N T R B U L C H) a 0 = some ((G.1) a) := pz_gI (by have := isG_lo ha; omega) (E_G ha) rfl
theorem e_gIcc {G : TG} {S : TS} {N : TN} {T : TT} {R : TR} {B : TB} {U : TU} {L : TL} {C : TC} {H : TH} {a : Nat} (ha : isG a = true) : gI 1 (E G S N T R B U L C H) a 1 = some ((G.2.1) a) := pz_gI (by have := isG_lo ha; omega) (E_G ha) rfl
theorem e_gRkc {G : TG} {S : TS} {N : TN} {T : TT} {R : TR} {B : TB} {U : TU} {L : TL} {C : TC} {H : TH} {a : Nat} (ha : isG a = true) : gR 1 (E G S N T R B U L C H) a 2 = some (a + 1) := pz_gR (by have := isG_lo ha; omega) (E_G ha) rfl
theorem e_gRvs {G : TG} {S : TS} {N : TN} {T : TT} {R : TR} {B : TB} {U : TU} {L : TL} {C : TC} {H : TH} {a : Nat} (ha : isG a = true) : gR 1 (E G S N T R B U L C H) a 3 = some (a + 2) := pz_gR (by have := isG_lo ha; omega) (E_G ha) rfl
theorem e_pIrc {S : TS} {N : TN} {T : TT} {R : TR} {B : TB} {U : TU} {L : TL} {C : TC} {H : TH} {rc : Nat → Int32} {cc : Nat → Int32} {kc : Nat → Nat → Int32} {vs : Nat → Nat → Int64} {a : Nat} (ha : isG a = true) (y : Int32) : pI 1 (E (rc, cc, kc, vs) S N T R B U L C H) a 0 y = some (E (va_up rc a y, cc, kc, vs) S N T R B U L C H) := by
  unfold pI
  rw [pz_pV _ (by have := isG_lo ha; omega) (E_G ha) (by simp)]
  exact congrArg some (E_urc ha _)
theorem e_pIcc {S : TS} {N : TN} {T : TT} {R : TR} {B : TB} {U : TU} {L : TL} {C : TC} {H : TH} {rc : Nat → Int32} {cc : Nat → Int32} {kc : Nat → Nat → Int32} {vs : Nat → Nat → Int64} {a : Nat} (ha : isG a = true) (y : Int32) : pI 1 (E (rc, cc, kc, vs) S N T R B U L C H) a 1 y = some (E (rc, va_up cc a y, kc, vs) S N T R B U L C H) := by
  unfold pI
  rw [pz_pV _ (by have := isG_lo ha; omega) (E_G ha) (by simp)]
  exact congrArg some (E_ucc ha _)
theorem e_aK {G : TG} {S : TS} {N : TN} {T : TT} {R : TR} {B : TB} {U : TU} {L : TL} {C : TC} {H : TH} {a i : Nat} (ha : isG a = true) (h : i < 16) : aI (E G S N T R B U L C H) (a + 1) (nI i) = some ((G.2.2.1) a i) := pz_aI (by have := isG_lo ha; omega) (E_Gk ha) h (by decide)
theorem e_sK {S : TS} {N : TN} {T : TT} {R : TR} {B : TB} {U : TU} {L : TL} {C : TC} {H : TH} {rc : Nat → Int32} {cc : Nat → Int32} {kc : Nat → Nat → Int32} {vs : Nat → Nat → Int64} {a i : Nat} (ha : isG a = true) (h : i < 16) (x : Int32) : sI (E (rc, cc, kc, vs) S N T R B U L C H) (a + 1) (nI i) x = some (E (rc, cc, va_up kc a (upd (kc a) i x), vs) S N T R B U L C H) := by
  rw [pz_sI x (by have := isG_lo ha; omega) (E_Gk ha) h (by decide)]
  exact congrArg some (E_ukc ha _)
theorem e_aV {G : TG} {S : TS} {N : TN} {T : TT} {R : TR} {B : TB} {U : TU} {L : TL} {C : TC} {H : TH} {a i : Nat} (ha : isG a = true) (h : i < 256) : aJ (E G S N T R B U L C H) (a + 2) (nI i) = some ((G.2.2.2) a i) := pz_aJ (by have := isG_lo ha; omega) (E_Gv ha) h (by decide)
theorem e_sV {S : TS} {N : TN} {T : TT} {R : TR} {B : TB} {U : TU} {L : TL} {C : TC} {H : TH} {rc : Nat → Int32} {cc : Nat → Int32} {kc : Nat → Nat → Int32} {vs : Nat → Nat → Int64} {a i : Nat} (ha : isG a = true) (h : i < 256) (x : Int64) : sJ (E (rc, cc, kc, vs) S N T R B U L C H) (a + 2) (nI i) x = some (E (rc, cc, kc, va_up vs a (vp_updL (vs a) i x)) S N T R B U L C H) := by
  rw [pz_sJ x (by have := isG_lo ha; omega) (E_Gv ha) h (by decide)]
  exact congrArg some (E_uvs ha _)
theorem e_aG {G : TG} {S : TS} {N : TN} {T : TT} {R : TR} {B : TB} {U : TU} {L : TL} {C : TC} {H : TH} {i : Nat} (h : i < 8) : aG (E G S N T R B U L C H) 1 (nI i) = some ((S.1) i) := pz_aG (by decide) E_1 h (by decide)
theorem e_sG {G : TG} {N : TN} {T : TT} {R : TR} {B : TB} {U : TU} {L : TL} {C : TC} {H : TH} {sl : Nat → Option Nat} {d : Nat} {i b : Nat} (hb : isG b = true) (h : i < 8) : sG (E G (sl, d) N T R B U L C H) 1 (nI i) b = some (E G (va_up sl i (some b), d) N T R B U L C H) := by
  rw [pz_sG (by decide) E_1 (by have := isG_lo hb; omega) (E_G hb) h (by decide)]
  exact congrArg some (E_usl _)
theorem e_cpK {S : TS} {N : TN} {T : TT} {R : TR} {B : TB} {U : TU} {L : TL} {C : TC} {H : TH} {rc : Nat → Int32} {cc : Nat → Int32} {kc : Nat → Nat → Int32} {vs : Nat → Nat → Int64} {a b : Nat} (ha : isG a = true) (hb : isG b = true) : cpI (E (rc, cc, kc, vs) S N T R B U L C H) (a + 1) 0 (b + 1) 0 16 = some (E (rc, cc, va_up kc b (va_cpy (kc a) (kc b) 0 0 16), vs) S N T R B U L C H) := by
  have h1 : a + 1 < NC ∧ b + 1 < NC := ⟨by have := isG_lo ha; omega, by have := isG_lo hb; omega⟩
  have c16 : (16 : Int32).toNatClampNeg = 16 := by decide
  have c0 : (0 : Int32).toNatClampNeg = 0 := by decide
  have n0 : ¬ ((0 : Int32) < 0) := by decide
  have n16 : ¬ ((16 : Int32) < 0) := by decide
  simp only [cpI, if_pos h1, E_Gk ha, E_Gk hb, c16, c0, n0, n16, false_or]
  rw [if_neg (by omega)]
  exact congrArg some (E_ukc hb _)
theorem e_cpV {S : TS} {N : TN} {T : TT} {R : TR} {B : TB} {U : TU} {L : TL} {C : TC} {H : TH} {rc : Nat → Int32} {cc : Nat → Int32} {kc : Nat → Nat → Int32} {vs : Nat → Nat → Int64} {a b : Nat} (ha : isG a = true) (hb : isG b = true) : cpJ (E (rc, cc, kc, vs) S N T R B U L C H) (a + 2) 0 (b + 2) 0 256 = some (E (rc, cc, kc, va_up vs b (va_cpy (vs a) (vs b) 0 0 256)) S N T R B U L C H) := by
  have h1 : a + 2 < NC ∧ b + 2 < NC := ⟨by have := isG_lo ha; omega, by have := isG_lo hb; omega⟩
  have c16 : (256 : Int32).toNatClampNeg = 256 := by decide
  have c0 : (0 : Int32).toNatClampNeg = 0 := by decide
  have n0 : ¬ ((0 : Int32) < 0) := by decide
  have n16 : ¬ ((256 : Int32) < 0) := by decide
  simp only [cpJ, if_pos h1, E_Gv ha, E_Gv hb, c16, c0, n0, n16, false_or]
  rw [if_neg (by omega)]
  exact congrArg some (E_uvs hb _)
