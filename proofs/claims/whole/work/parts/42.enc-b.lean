theorem E_usl {G : TG} {N : TN} {T : TT} {R : TR} {B : TB} {U : TU} {L : TL} {C : TC} {H : TH} {sl : Nat → Option Nat} {d : Nat} (y : Nat → Option Nat) : va_up (E G (sl, d) N T R B U L C H) 1 (.inr (8, .inr (.inr (.inr y)))) = E G (y, d) N T R B U L C H := by
  funext b
  by_cases hb : b = 1
  · subst hb; rw [va_up_self]; rfl
  · rw [va_up_ne _ _ hb]; simp only [E, if_neg hb]
theorem E_ud {G : TG} {N : TN} {T : TT} {R : TR} {B : TB} {U : TU} {L : TL} {C : TC} {H : TH} {sl : Nat → Option Nat} {d : Nat} (y : Nat) : va_up (E G (sl, d) N T R B U L C H) 0 (.inl (4, [.ref 1, .ref 2, .ref 6, .ref y, .ref (N.1), .ref (N.2.1)])) = E G (sl, y) N T R B U L C H := by
  funext b
  by_cases hb : b = 0
  · subst hb; rw [va_up_self]; rfl
  · rw [va_up_ne _ _ hb]; simp only [E, if_neg hb]
theorem E_unu {G : TG} {S : TS} {T : TT} {R : TR} {B : TB} {U : TU} {L : TL} {C : TC} {H : TH} {nu : Nat} {dn : Nat} {nl : Nat → Int32} {it : Nat → Nat → Int32} (y : Nat) : va_up (E G S (nu, dn, nl, it) T R B U L C H) 0 (.inl (4, [.ref 1, .ref 2, .ref 6, .ref (S.2), .ref y, .ref dn])) = E G S (y, dn, nl, it) T R B U L C H := by
  funext b
  by_cases hb : b = 0
  · subst hb; rw [va_up_self]; rfl
  · rw [va_up_ne _ _ hb]; simp only [E, if_neg hb]
theorem E_udn {G : TG} {S : TS} {T : TT} {R : TR} {B : TB} {U : TU} {L : TL} {C : TC} {H : TH} {nu : Nat} {dn : Nat} {nl : Nat → Int32} {it : Nat → Nat → Int32} (y : Nat) : va_up (E G S (nu, dn, nl, it) T R B U L C H) 0 (.inl (4, [.ref 1, .ref 2, .ref 6, .ref (S.2), .ref nu, .ref y])) = E G S (nu, y, nl, it) T R B U L C H := by
  funext b
  by_cases hb : b = 0
  · subst hb; rw [va_up_self]; rfl
  · rw [va_up_ne _ _ hb]; simp only [E, if_neg hb]
theorem E_utl {G : TG} {S : TS} {N : TN} {R : TR} {B : TB} {U : TU} {L : TL} {C : TC} {H : TH} {tl : Int32} {tr : Nat → Int32} {tc : Nat → Int32} {tv : Nat → Int64} (y : Int32) : va_up (E G S N (tl, tr, tc, tv) R B U L C H) 2 (.inl (3, [.int y, .ref 3, .ref 4, .ref 5])) = E G S N (y, tr, tc, tv) R B U L C H := by
  funext b
  by_cases hb : b = 2
  · subst hb; rw [va_up_self]; rfl
  · rw [va_up_ne _ _ hb]; simp only [E, if_neg hb]
theorem E_utr {G : TG} {S : TS} {N : TN} {R : TR} {B : TB} {U : TU} {L : TL} {C : TC} {H : TH} {tl : Int32} {tr : Nat → Int32} {tc : Nat → Int32} {tv : Nat → Int64} (y : Nat → Int32) : va_up (E G S N (tl, tr, tc, tv) R B U L C H) 3 (.inr (64, .inl y)) = E G S N (tl, y, tc, tv) R B U L C H := by
  funext b
  by_cases hb : b = 3
  · subst hb; rw [va_up_self]; rfl
  · rw [va_up_ne _ _ hb]; simp only [E, if_neg hb]
theorem E_utc {G : TG} {S : TS} {N : TN} {R : TR} {B : TB} {U : TU} {L : TL} {C : TC} {H : TH} {tl : Int32} {tr : Nat → Int32} {tc : Nat → Int32} {tv : Nat → Int64} (y : Nat → Int32) : va_up (E G S N (tl, tr, tc, tv) R B U L C H) 4 (.inr (64, .inl y)) = E G S N (tl, tr, y, tv) R B U L C H := by
  funext b
  by_cases hb : b = 4
  · subst hb; rw [va_up_self]; rfl
  · rw [va_up_ne _ _ hb]; simp only [E, if_neg hb]
theorem E_utv {G : TG} {S : TS} {N : TN} {R : TR} {B : TB} {U : TU} {L : TL} {C : TC} {H : TH} {tl : Int32} {tr : Nat → Int32} {tc : Nat → Int32} {tv : Nat → Int64} (y : Nat → Int64) : va_up (E G S N (tl, tr, tc, tv) R B U L C H) 5 (.inr (64, .inr (.inl y))) = E G S N (tl, tr, tc, y) R B U L C H := by
  funext b
  by_cases hb : b = 5
  · subst hb; rw [va_up_self]; rfl
  · rw [va_up_ne _ _ hb]; simp only [E, if_neg hb]
theorem E_ugz {G : TG} {S : TS} {N : TN} {T : TT} {B : TB} {U : TU} {L : TL} {C : TC} {H : TH} {gz : Int32} {ar : Nat → Int32} {ne : Nat → Int32} {re : Nat → Int32} {sj : Nat → Nat → Int64} {st : Nat} {nx : Nat} (y : Int32) : va_up (E G S N T (gz, ar, ne, re, sj, st, nx) B U L C H) 6 (.inl (0, [.int y, .ref 7, .ref 8, .ref 9, .ref st, .ref nx])) = E G S N T (y, ar, ne, re, sj, st, nx) B U L C H := by
  funext b
  by_cases hb : b = 6
  · subst hb; rw [va_up_self]; rfl
  · rw [va_up_ne _ _ hb]; simp only [E, if_neg hb]
theorem E_ust {G : TG} {S : TS} {N : TN} {T : TT} {B : TB} {U : TU} {L : TL} {C : TC} {H : TH} {gz : Int32} {ar : Nat → Int32} {ne : Nat → Int32} {re : Nat → Int32} {sj : Nat → Nat → Int64} {st : Nat} {nx : Nat} (y : Nat) : va_up (E G S N T (gz, ar, ne, re, sj, st, nx) B U L C H) 6 (.inl (0, [.int gz, .ref 7, .ref 8, .ref 9, .ref y, .ref nx])) = E G S N T (gz, ar, ne, re, sj, y, nx) B U L C H := by
  funext b
  by_cases hb : b = 6
  · subst hb; rw [va_up_self]; rfl
  · rw [va_up_ne _ _ hb]; simp only [E, if_neg hb]
theorem E_unx {G : TG} {S : TS} {N : TN} {T : TT} {B : TB} {U : TU} {L : TL} {C : TC} {H : TH} {gz : Int32} {ar : Nat → Int32} {ne : Nat → Int32} {re : Nat → Int32} {sj : Nat → Nat → Int64} {st : Nat} {nx : Nat} (y : Nat) : va_up (E G S N T (gz, ar, ne, re, sj, st, nx) B U L C H) 6 (.inl (0, [.int gz, .ref 7, .ref 8, .ref 9, .ref st, .ref y])) = E G S N T (gz, ar, ne, re, sj, st, y) B U L C H := by
  funext b
  by_cases hb : b = 6
  · subst hb; rw [va_up_self]; rfl
  · rw [va_up_ne _ _ hb]; simp only [E, if_neg hb]
theorem E_uar {G : TG} {S : TS} {N : TN} {T : TT} {B : TB} {U : TU} {L : TL} {C : TC} {H : TH} {gz : Int32} {ar : Nat → Int32} {ne : Nat → Int32} {re : Nat → Int32} {sj : Nat → Nat → Int64} {st : Nat} {nx : Nat} (y : Nat → Int32) : va_up (E G S N T (gz, ar, ne, re, sj, st, nx) B U L C H) 7 (.inr (16, .inl y)) = E G S N T (gz, y, ne, re, sj, st, nx) B U L C H := by
  funext b
  by_cases hb : b = 7
  · subst hb; rw [va_up_self]; rfl
  · rw [va_up_ne _ _ hb]; simp only [E, if_neg hb]
theorem E_une {G : TG} {S : TS} {N : TN} {T : TT} {B : TB} {U : TU} {L : TL} {C : TC} {H : TH} {gz : Int32} {ar : Nat → Int32} {ne : Nat → Int32} {re : Nat → Int32} {sj : Nat → Nat → Int64} {st : Nat} {nx : Nat} (y : Nat → Int32) : va_up (E G S N T (gz, ar, ne, re, sj, st, nx) B U L C H) 8 (.inr (16, .inl y)) = E G S N T (gz, ar, y, re, sj, st, nx) B U L C H := by
  funext b
  by_cases hb : b = 8
  · subst hb; rw [va_up_self]; rfl
  · rw [va_up_ne _ _ hb]; simp only [E, if_neg hb]
theorem E_ure {G : TG} {S : TS} {N : TN} {T : TT} {B : TB} {U : TU} {L : TL} {C : TC} {H : TH} {gz : Int32} {ar : Nat → Int32} {ne : Nat → Int32} {re : Nat → Int32} {sj : Nat → Nat → Int64} {st : Nat} {nx : Nat} (y : Nat → Int32) : va_up (E G S N T (gz, ar, ne, re, sj, st, nx) B U L C H) 9 (.inr (16, .inl y)) = E G S N T (gz, ar, ne, y, sj, st, nx) B U L C H := by
  funext b
  by_cases hb : b = 9
  · subst hb; rw [va_up_self]; rfl
  · rw [va_up_ne _ _ hb]; simp only [E, if_neg hb]
theorem E_umt {G : TG} {S : TS} {N : TN} {T : TT} {R : TR} {B : TB} {L : TL} {C : TC} {H : TH} {mt : Int32} {ta : Nat → Int32} {tw : Nat → Int64} (y : Int32) : va_up (E G S N T R B (mt, ta, tw) L C H) 43 (.inl (5, [.ref 44, .ref 45, .ref 46, .ref 47, .ref 48, .int y, .ref 49, .ref 50, .int (L.1), .ref 51, .ref 52, .int (C.2), .ref 53, .ref 54])) = E G S N T R B (y, ta, tw) L C H := by
  funext b
  by_cases hb : b = 43
  · subst hb; rw [va_up_self]; rfl
  · rw [va_up_ne _ _ hb]; simp only [E, if_neg hb]
theorem E_uml {G : TG} {S : TS} {N : TN} {T : TT} {R : TR} {B : TB} {U : TU} {C : TC} {H : TH} {ml : Int32} {lo : Nat → Int32} (y : Int32) : va_up (E G S N T R B U (ml, lo) C H) 43 (.inl (5, [.ref 44, .ref 45, .ref 46, .ref 47, .ref 48, .int (U.1), .ref 49, .ref 50, .int y, .ref 51, .ref 52, .int (C.2), .ref 53, .ref 54])) = E G S N T R B U (y, lo) C H := by
  funext b
  by_cases hb : b = 43
  · subst hb; rw [va_up_self]; rfl
  · rw [va_up_ne _ _ hb]; simp only [E, if_neg hb]
theorem E_uld {G : TG} {S : TS} {N : TN} {T : TT} {R : TR} {B : TB} {U : TU} {L : TL} {H : TH} {ce : Nat → Int64} {ld : Int32} (y : Int32) : va_up (E G S N T R B U L (ce, ld) H) 43 (.inl (5, [.ref 44, .ref 45, .ref 46, .ref 47, .ref 48, .int (U.1), .ref 49, .ref 50, .int (L.1), .ref 51, .ref 52, .int y, .ref 53, .ref 54])) = E G S N T R B U L (ce, y) H := by
  funext b
  by_cases hb : b = 43
  · subst hb; rw [va_up_self]; rfl
  · rw [va_up_ne _ _ hb]; simp only [E, if_neg hb]
theorem E_uth {G : TG} {S : TS} {N : TN} {T : TT} {R : TR} {U : TU} {L : TL} {C : TC} {H : TH} {th : Nat → Int32} {hi : Nat → Int32} {wi : Nat → Int32} {kp : Nat → Int32} {va : Nat → Int64} (y : Nat → Int32) : va_up (E G S N T R (th, hi, wi, kp, va) U L C H) 44 (.inr (9, .inr (.inr (.inl y)))) = E G S N T R (y, hi, wi, kp, va) U L C H := by
  funext b
  by_cases hb : b = 44
  · subst hb; rw [va_up_self]; rfl
  · rw [va_up_ne _ _ hb]; simp only [E, if_neg hb]
theorem E_uhi {G : TG} {S : TS} {N : TN} {T : TT} {R : TR} {U : TU} {L : TL} {C : TC} {H : TH} {th : Nat → Int32} {hi : Nat → Int32} {wi : Nat → Int32} {kp : Nat → Int32} {va : Nat → Int64} (y : Nat → Int32) : va_up (E G S N T R (th, hi, wi, kp, va) U L C H) 45 (.inr (9, .inl y)) = E G S N T R (th, y, wi, kp, va) U L C H := by
  funext b
  by_cases hb : b = 45
  · subst hb; rw [va_up_self]; rfl
  · rw [va_up_ne _ _ hb]; simp only [E, if_neg hb]
theorem E_uwi {G : TG} {S : TS} {N : TN} {T : TT} {R : TR} {U : TU} {L : TL} {C : TC} {H : TH} {th : Nat → Int32} {hi : Nat → Int32} {wi : Nat → Int32} {kp : Nat → Int32} {va : Nat → Int64} (y : Nat → Int32) : va_up (E G S N T R (th, hi, wi, kp, va) U L C H) 46 (.inr (9, .inl y)) = E G S N T R (th, hi, y, kp, va) U L C H := by
  funext b
  by_cases hb : b = 46
  · subst hb; rw [va_up_self]; rfl
  · rw [va_up_ne _ _ hb]; simp only [E, if_neg hb]
theorem E_ukp {G : TG} {S : TS} {N : TN} {T : TT} {R : TR} {U : TU} {L : TL} {C : TC} {H : TH} {th : Nat → Int32} {hi : Nat → Int32} {wi : Nat → Int32} {kp : Nat → Int32} {va : Nat → Int64} (y : Nat → Int32) : va_up (E G S N T R (th, hi, wi, kp, va) U L C H) 47 (.inr (2304, .inr (.inr (.inl y)))) = E G S N T R (th, hi, wi, y, va) U L C H := by
  funext b
  by_cases hb : b = 47
  · subst hb; rw [va_up_self]; rfl
  · rw [va_up_ne _ _ hb]; simp only [E, if_neg hb]
theorem E_uva {G : TG} {S : TS} {N : TN} {T : TT} {R : TR} {U : TU} {L : TL} {C : TC} {H : TH} {th : Nat → Int32} {hi : Nat → Int32} {wi : Nat → Int32} {kp : Nat → Int32} {va : Nat → Int64} (y : Nat → Int64) : va_up (E G S N T R (th, hi, wi, kp, va) U L C H) 48 (.inr (2304, .inr (.inl y))) = E G S N T R (th, hi, wi, kp, y) U L C H := by
  funext b
  by_cases hb : b = 48
  · subst hb; rw [va_up_self]; rfl
  · rw [va_up_ne _ _ hb]; simp only [E, if_neg hb]
theorem E_uta {G : TG} {S : TS} {N : TN} {T : TT} {R : TR} {B : TB} {L : TL} {C : TC} {H : TH} {mt : Int32} {ta : Nat → Int32} {tw : Nat → Int64} (y : Nat → Int32) : va_up (E G S N T R B (mt, ta, tw) L C H) 49 (.inr (64, .inl y)) = E G S N T R B (mt, y, tw) L C H := by
  funext b
  by_cases hb : b = 49
  · subst hb; rw [va_up_self]; rfl
  · rw [va_up_ne _ _ hb]; simp only [E, if_neg hb]
theorem E_utw {G : TG} {S : TS} {N : TN} {T : TT} {R : TR} {B : TB} {L : TL} {C : TC} {H : TH} {mt : Int32} {ta : Nat → Int32} {tw : Nat → Int64} (y : Nat → Int64) : va_up (E G S N T R B (mt, ta, tw) L C H) 50 (.inr (64, .inr (.inl y))) = E G S N T R B (mt, ta, y) L C H := by
  funext b
  by_cases hb : b = 50
  · subst hb; rw [va_up_self]; rfl
  · rw [va_up_ne _ _ hb]; simp only [E, if_neg hb]
theorem E_ulo {G : TG} {S : TS} {N : TN} {T : TT} {R : TR} {B : TB} {U : TU} {C : TC} {H : TH} {ml : Int32} {lo : Nat → Int32} (y : Nat → Int32) : va_up (E G S N T R B U (ml, lo) C H) 51 (.inr (16, .inl y)) = E G S N T R B U (ml, y) C H := by
  funext b
  by_cases hb : b = 51
  · subst hb; rw [va_up_self]; rfl
  · rw [va_up_ne _ _ hb]; simp only [E, if_neg hb]
theorem E_uce {G : TG} {S : TS} {N : TN} {T : TT} {R : TR} {B : TB} {U : TU} {L : TL} {H : TH} {ce : Nat → Int64} {ld : Int32} (y : Nat → Int64) : va_up (E G S N T R B U L (ce, ld) H) 52 (.inr (3000, .inr (.inl y))) = E G S N T R B U L (y, ld) H := by
  funext b
  by_cases hb : b = 52
  · subst hb; rw [va_up_self]; rfl
  · rw [va_up_ne _ _ hb]; simp only [E, if_neg hb]
theorem E_uhe {G : TG} {S : TS} {N : TN} {T : TT} {R : TR} {B : TB} {U : TU} {L : TL} {C : TC} {he : Nat → Int64} {ny : Nat → Int64} (y : Nat → Int64) : va_up (E G S N T R B U L C (he, ny)) 53 (.inr (16, .inr (.inl y))) = E G S N T R B U L C (y, ny) := by
  funext b
  by_cases hb : b = 53
  · subst hb; rw [va_up_self]; rfl
  · rw [va_up_ne _ _ hb]; simp only [E, if_neg hb]
theorem E_uny {G : TG} {S : TS} {N : TN} {T : TT} {R : TR} {B : TB} {U : TU} {L : TL} {C : TC} {he : Nat → Int64} {ny : Nat → Int64} (y : Nat → Int64) : va_up (E G S N T R B U L C (he, ny)) 54 (.inr (16, .inr (.inl y))) = E G S N T R B U L C (he, y) := by
  funext b
  by_cases hb : b = 54
  · subst hb; rw [va_up_self]; rfl
  · rw [va_up_ne _ _ hb]; simp only [E, if_neg hb]
theorem E_usj {G : TG} {S : TS} {N : TN} {T : TT} {B : TB} {U : TU} {L : TL} {C : TC} {H : TH} {gz : Int32} {ar : Nat → Int32} {ne : Nat → Int32} {re : Nat → Int32} {sj : Nat → Nat → Int64} {st : Nat} {nx : Nat} {a : Nat} (h : a = 10 ∨ a = 11) (y : Nat → Int64) : va_up (E G S N T (gz, ar, ne, re, sj, st, nx) B U L C H) a (.inr (16, .inr (.inl y))) = E G S N T (gz, ar, ne, re, va_up sj a y, st, nx) B U L C H := by
  funext b
  by_cases hb : b = a
  · subst hb
    rw [va_up_self, E_L h]
    simp only [va_up_self]
  · rw [va_up_ne _ _ hb]
    have hne : b ≠ a := by exact hb
    have e : va_up sj a y b = sj b := va_up_ne _ _ hne
    simp only [E, e]
theorem E_unl {G : TG} {S : TS} {T : TT} {R : TR} {B : TB} {U : TU} {L : TL} {C : TC} {H : TH} {nu : Nat} {dn : Nat} {nl : Nat → Int32} {it : Nat → Nat → Int32} {a : Nat} (h : a = 15 ∨ a = 17) (y : Int32) : va_up (E G S (nu, dn, nl, it) T R B U L C H) a (.inl (2, [.int y, .ref (a + 1)])) = E G S (nu, dn, va_up nl a y, it) T R B U L C H := by
  funext b
  by_cases hb : b = a
  · subst hb
    rw [va_up_self, E_N h]
    simp only [va_up_self]
  · rw [va_up_ne _ _ hb]
    have hne : b ≠ a := by exact hb
    have e : va_up nl a y b = nl b := va_up_ne _ _ hne
    simp only [E, e]
theorem E_uit {G : TG} {S : TS} {T : TT} {R : TR} {B : TB} {U : TU} {L : TL} {C : TC} {H : TH} {nu : Nat} {dn : Nat} {nl : Nat → Int32} {it : Nat → Nat → Int32} {a : Nat} (h : a = 15 ∨ a = 17) (y : Nat → Int32) : va_up (E G S (nu, dn, nl, it) T R B U L C H) (a + 1) (.inr (16, .inl y)) = E G S (nu, dn, nl, va_up it a y) T R B U L C H := by
  funext b
  by_cases hb : b = (a + 1)
  · subst hb
    rw [va_up_self, E_Ni h]
    simp only [va_up_self]
  · rw [va_up_ne _ _ hb]
    have hne : (b - 1) ≠ a := by omega
    have e : va_up it a y (b - 1) = it (b - 1) := va_up_ne _ _ hne
    simp only [E, e]
theorem E_urc {S : TS} {N : TN} {T : TT} {R : TR} {B : TB} {U : TU} {L : TL} {C : TC} {H : TH} {rc : Nat → Int32} {cc : Nat → Int32} {kc : Nat → Nat → Int32} {vs : Nat → Nat → Int64} {a : Nat} (h : isG a = true) (y : Int32) : va_up (E (rc, cc, kc, vs) S N T R B U L C H) a (.inl (1, [.int y, .int (cc a), .ref (a + 1), .ref (a + 2)])) = E (va_up rc a y, cc, kc, vs) S N T R B U L C H := by
  funext b
  by_cases hb : b = a
  · subst hb
    rw [va_up_self, E_G h]
    simp only [va_up_self]
  · rw [va_up_ne _ _ hb]
    have hne : b ≠ a := by exact hb
    have e : va_up rc a y b = rc b := va_up_ne _ _ hne
    simp only [E, e]
theorem E_ucc {S : TS} {N : TN} {T : TT} {R : TR} {B : TB} {U : TU} {L : TL} {C : TC} {H : TH} {rc : Nat → Int32} {cc : Nat → Int32} {kc : Nat → Nat → Int32} {vs : Nat → Nat → Int64} {a : Nat} (h : isG a = true) (y : Int32) : va_up (E (rc, cc, kc, vs) S N T R B U L C H) a (.inl (1, [.int (rc a), .int y, .ref (a + 1), .ref (a + 2)])) = E (rc, va_up cc a y, kc, vs) S N T R B U L C H := by
  funext b
  by_cases hb : b = a
  · subst hb
    rw [va_up_self, E_G h]
    simp only [va_up_self]
  · rw [va_up_ne _ _ hb]
    have hne : b ≠ a := by exact hb
    have e : va_up cc a y b = cc b := va_up_ne _ _ hne
    simp only [E, e]
theorem E_ukc {S : TS} {N : TN} {T : TT} {R : TR} {B : TB} {U : TU} {L : TL} {C : TC} {H : TH} {rc : Nat → Int32} {cc : Nat → Int32} {kc : Nat → Nat → Int32} {vs : Nat → Nat → Int64} {a : Nat} (h : isG a = true) (y : Nat → Int32) : va_up (E (rc, cc, kc, vs) S N T R B U L C H) (a + 1) (.inr (16, .inl y)) = E (rc, cc, va_up kc a y, vs) S N T R B U L C H := by
  funext b
  by_cases hb : b = (a + 1)
  · subst hb
    rw [va_up_self, E_Gk h]
    simp only [va_up_self]
  · rw [va_up_ne _ _ hb]
    have hne : (b - 1) ≠ a := by have := isG_lo h; omega
    have e : va_up kc a y (b - 1) = kc (b - 1) := va_up_ne _ _ hne
    simp only [E, e]
theorem E_uvs {S : TS} {N : TN} {T : TT} {R : TR} {B : TB} {U : TU} {L : TL} {C : TC} {H : TH} {rc : Nat → Int32} {cc : Nat → Int32} {kc : Nat → Nat → Int32} {vs : Nat → Nat → Int64} {a : Nat} (h : isG a = true) (y : Nat → Int64) : va_up (E (rc, cc, kc, vs) S N T R B U L C H) (a + 2) (.inr (256, .inr (.inl y))) = E (rc, cc, kc, va_up vs a y) S N T R B U L C H := by
  funext b
  by_cases hb : b = (a + 2)
  · subst hb
    rw [va_up_self, E_Gv h]
    simp only [va_up_self]
  · rw [va_up_ne _ _ hb]
    have hne : (b - 2) ≠ a := by have := isG_lo h; omega
    have e : va_up vs a y (b - 2) = vs (b - 2) := va_up_ne _ _ hne
    simp only [E, e]
