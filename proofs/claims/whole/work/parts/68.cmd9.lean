theorem tail3 {rc : Nat → Int32} {cc : Nat → Int32} {kc : Nat → Nat → Int32} {vs : Nat → Nat → Int64} {sl : Nat → Option Nat} {d : Nat} {N : TN} {T : TT} {R : TR} {B : TB} {U : TU} {L : TL} {C : TC} {H : TH} {U0 : TU} {L0 : TL} {g tR tC : Nat → Nat} {tk : Nat → Nat → Nat → Bool} {tv : Nat → Nat → Nat → Int64} {nT : Nat} {qr qc : Nat → Nat} {qv : Nat → Int64} {nL : Nat} {ql : Nat → Nat} {t R0 C0 : Nat} {kA : Nat → Int32} {vA : Nat → Int64} {k : Nat → Nat → Bool} {v : Nat → Nat → Int64} {h : HP} {fx fm : HP → Option (HP × Int32)}
    (hK : KG (rc, cc, kc, vs) (sl, d) g tR tC tk tv) (hw : WFt tR tC tk tv) (hr : Rst N T R U L nT qr qc qv nL ql) (ht : t < 8) (hR : 1 ≤ R0 ∧ R0 ≤ 16) (hC : 1 ≤ C0 ∧ C0 ≤ 16) (hin : ∀ r c, r < 16 → c < 16 → k r c = true → r < R0 ∧ c < C0) (hz : ∀ r c, r < 16 → c < 16 → k r c = false → v r c = 0) (hg : GC kA vA k v)
    (hfx : fx h = (f_X5_putDraft (E (va_up rc d (nI R0), va_up cc d (nI C0), va_up kc d kA, va_up vs d vA) (sl, d) N T R B U0 L0 C H) 0 (nI t)).bind fun z => some z)
    (hfm : ∀ G1 S1, ∃ B', MG B' tR tC tk tv ∧ MS B' R0 C0 k v ∧ fm (E G1 S1 N T R B U0 L0 C H) = (f_X6_putAt (E G1 S1 N T R B' U L C H) 43 (nI t)).bind fun z => some z) : S2 h fx fm := by
  obtain ⟨S', g', e1, hK'⟩ := kt_putDraft (N := N) (T := T) (R := R) (B := B) (U := U0) (L := L0) (C := C) (H := H) (R0 := R0) (C0 := C0) hK hg ht
  by_cases q : ahead k 16 ≤ 128
  · rw [if_pos q] at e1
    obtain ⟨⟨th, hi, wi, kp, va⟩, m1, m2, m3⟩ := hfm (va_up rc d (nI R0), va_up cc d (nI C0), va_up kc d kA, va_up vs d vA) S'
    obtain ⟨B2, p1, p2⟩ := md_putAt (G := (va_up rc d (nI R0), va_up cc d (nI C0), va_up kc d kA, va_up vs d vA)) (S := S') (N := N) (T := T) (R := R) (U := U) (L := L) (C := C) (H := H) m1 m2 hR.1 ht
    rw [if_pos q] at p1
    exact S2.mk (r := nI (ahead k 16)) _ _ (by rw [hfx, e1]; rfl) isE_E (by rw [m3, p1]; rfl) (OK.mk hK' (hw.up hR.2 hC hin hz q) p2 hr)
  · rw [if_neg q] at e1
    obtain ⟨⟨th, hi, wi, kp, va⟩, m1, m2, m3⟩ := hfm (va_up rc d (nI R0), va_up cc d (nI C0), va_up kc d kA, va_up vs d vA) (sl, d)
    obtain ⟨B2, p1, p2⟩ := md_putAt (G := (va_up rc d (nI R0), va_up cc d (nI C0), va_up kc d kA, va_up vs d vA)) (S := (sl, d)) (N := N) (T := T) (R := R) (U := U) (L := L) (C := C) (H := H) m1 m2 hR.1 ht
    rw [if_neg q] at p1
    exact S2.mk (r := -4) _ _ (by rw [hfx, e1]; rfl) isE_E (by rw [m3, p1]; rfl) (OK.mk (hK.draft _ _ _ _) hw m1 hr)
/-! join -/
def jk (k : Nat → Nat → Bool) (qr qc : Nat → Nat) : Nat → Nat → Nat → Bool
  | 0 => k
  | n + 1 => k2 (jk k qr qc n) (qr n) (qc n) true
def jv (v : Nat → Nat → Int64) (qr qc : Nat → Nat) (qv : Nat → Int64) : Nat → Nat → Nat → Int64
  | 0 => v
  | n + 1 => v2 (jv v qr qc qv n) (qr n) (qc n) (jv v qr qc qv n (qr n) (qc n) + qv n)
theorem jk_in {k : Nat → Nat → Bool} {qr qc : Nat → Nat} {R0 C0 : Nat} (hk : ∀ r c, r < 16 → c < 16 → k r c = true → r < R0 ∧ c < C0) : ∀ n, (∀ i, i < n → qr i < R0 ∧ qc i < C0) → ∀ r c, r < 16 → c < 16 → jk k qr qc n r c = true → r < R0 ∧ c < C0 := by
  intro n
  induction n with
  | zero => intro _; exact hk
  | succ n ih =>
    intro hq r c hr hc z
    by_cases e : r = qr n ∧ c = qc n
    · rw [e.1, e.2]; exact hq n (by omega)
    · simp only [jk, k2, if_neg e] at z
      exact ih (fun i hi => hq i (by omega)) r c hr hc z
theorem jv_z {k : Nat → Nat → Bool} {v : Nat → Nat → Int64} {qr qc : Nat → Nat} {qv : Nat → Int64} (hk : ∀ r c, r < 16 → c < 16 → k r c = false → v r c = 0) : ∀ n, ∀ r c, r < 16 → c < 16 → jk k qr qc n r c = false → jv v qr qc qv n r c = 0 := by
  intro n
  induction n with
  | zero => exact hk
  | succ n ih =>
    intro r c hr hc z
    by_cases e : r = qr n ∧ c = qc n
    · simp only [jk, k2, if_pos e] at z; cases z
    · simp only [jk, k2, if_neg e] at z
      simp only [jv, v2, if_neg e]
      exact ih r c hr hc z
theorem ge64 {i : Nat} (h : i < 64) : ¬ (64 : Int32) ≤ nI i := pz_ge (L := 64) (N := 64) rfl (by decide) h
/-- leaving a counted loop at n or at its bound -/
theorem t_cov {G : TG} {S : TS} {N : TN} {T : TT} {R : TR} {B : TB} {U : TU} {L : TL} {C : TC} {H : TH} {a R0 C0 nT i : Nat} {qr qc : Nat → Nat} (ha : isG a = true) (h1 : G.1 a = nI R0) (h2 : G.2.1 a = nI C0) (hR : R0 ≤ 16) (hC : C0 ≤ 16) (t1 : nT ≤ 64) (t2 : T.1 = nI nT) (t4 : ∀ i, i < nT → qr i < 16 ∧ qc i < 16 ∧ T.2.1 i = nI (qr i) ∧ T.2.2.1 i = nI (qc i)) (hi : i < nT) (n : Nat) (k : Option Int32) : L_X4_lieIn_2 (E G S N T R B U L C H) 2 a (n + 1) k (nI i) = if qr i < R0 ∧ qc i < C0 then L_X4_lieIn_2 (E G S N T R B U L C H) 2 a n k (nI (i + 1)) else some 0 := by
  obtain ⟨a1, a2, a3, a4⟩ := t4 i hi
  rw [L_X4_lieIn_2, if_neg (ge64 (by omega)), e_gI2_0, Option.bind_some, t2, if_neg (nI_ge hi (by omega)), e_gR2_1, Option.bind_some, e_a3 (by omega), Option.bind_some, e_gR2_2, Option.bind_some, e_a4 (by omega), Option.bind_some, e_ckG ha, a3, a4, g_covers ha h1 h2, Option.bind_some, ix_in (by omega) (by omega), ix_in (by omega) (by omega), nI_1]
  by_cases q : qr i < R0 ∧ qc i < C0
  · rw [if_pos q, if_neg (by simp [q.1, q.2, bI])]
  · rw [if_neg q, if_pos]
    by_cases q1 : qr i < R0
    · have : ¬ qc i < C0 := fun z => q ⟨q1, z⟩
      simp [this, bI]
    · simp [q1, bI]
theorem t_end {G : TG} {S : TS} {N : TN} {T : TT} {R : TR} {B : TB} {U : TU} {L : TL} {C : TC} {H : TH} {a nT : Nat} (t1 : nT ≤ 64) (t2 : T.1 = nI nT) (n : Nat) (k : Option Int32) : L_X4_lieIn_2 (E G S N T R B U L C H) 2 a (n + 1) k (nI nT) = k := by
  rw [L_X4_lieIn_2]
  by_cases q : nT < 64
  · rw [if_neg (ge64 q), e_gI2_0, Option.bind_some, t2, if_pos (Int32.le_refl _)]
  · rw [show nT = 64 by omega, if_pos (by decide)]
theorem t_lieIn {G : TG} {S : TS} {N : TN} {T : TT} {R : TR} {B : TB} {U : TU} {L : TL} {C : TC} {H : TH} {a R0 C0 nT : Nat} {qr qc : Nat → Nat} (ha : isG a = true) (h1 : G.1 a = nI R0) (h2 : G.2.1 a = nI C0) (hR : R0 ≤ 16) (hC : C0 ≤ 16) (t1 : nT ≤ 64) (t2 : T.1 = nI nT) (t4 : ∀ i, i < nT → qr i < 16 ∧ qc i < 16 ∧ T.2.1 i = nI (qr i) ∧ T.2.2.1 i = nI (qc i)) : (f_X4_lieIn (E G S N T R B U L C H) 2 a = some 1 ∧ ∀ i, i < nT → qr i < R0 ∧ qc i < C0) ∨ (f_X4_lieIn (E G S N T R B U L C H) 2 a = some 0 ∧ ∃ p, p < nT ∧ ¬ (qr p < R0 ∧ qc p < C0) ∧ ∀ i, i < p → qr i < R0 ∧ qc i < C0) := by
  by_cases hq : ∃ p, p < nT ∧ ¬ (qr p < R0 ∧ qc p < C0)
  · right
    obtain ⟨p, ⟨p1, p2⟩, p3⟩ := pk_least _ hq
    have p4 : ∀ i, i < p → qr i < R0 ∧ qc i < C0 := by
      intro i hi
      have := p3 i hi
      by_cases q : qr i < R0 ∧ qc i < C0
      · exact q
      · exact absurd ⟨by omega, q⟩ this
    refine ⟨?_, p, p1, p2, p4⟩
    have key := pz_lpf (fun n (_ : Unit) i => L_X4_lieIn_2 (E G S N T R B U L C H) 2 a n (some 1) i) (some 0) p (fun _ => ())
      (fun n => by rw [t_cov ha h1 h2 hR hC t1 t2 t4 p1, if_neg p2])
      (fun n i hi => by rw [t_cov ha h1 h2 hR hC t1 t2 t4 (by omega), if_pos (p4 i hi)]) p 0 FU (by omega) (pz_FU (by omega))
    exact key
  · left
    have p4 : ∀ i, i < nT → qr i < R0 ∧ qc i < C0 := by
      intro i hi
      by_cases q : qr i < R0 ∧ qc i < C0
      · exact q
      · exact absurd ⟨i, hi, q⟩ hq
    refine ⟨?_, p4⟩
    have key := pz_lpf (fun n (_ : Unit) i => L_X4_lieIn_2 (E G S N T R B U L C H) 2 a n (some 1) i) (some 1) nT (fun _ => ())
      (fun n => t_end t1 t2 n _)
      (fun n i hi => by rw [t_cov ha h1 h2 hR hC t1 t2 t4 hi, if_pos (p4 i hi)]) nT 0 FU (by omega) (pz_FU (by omega))
    exact key
theorem t_addTo {rc : Nat → Int32} {cc : Nat → Int32} {kc : Nat → Nat → Int32} {vs : Nat → Nat → Int64} {S : TS} {N : TN} {T : TT} {R : TR} {B : TB} {U : TU} {L : TL} {C : TC} {H : TH} {a nT : Nat} {qr qc : Nat → Nat} {qv : Nat → Int64} {kA : Nat → Int32} {vA : Nat → Int64} {k : Nat → Nat → Bool} {v : Nat → Nat → Int64} {x0 y0 : Int32} (ha : isG a = true) (g0 : GC kA vA k v) (t1 : nT ≤ 64) (t2 : T.1 = nI nT) (t4 : ∀ i, i < nT → qr i < 16 ∧ qc i < 16 ∧ T.2.1 i = nI (qr i) ∧ T.2.2.1 i = nI (qc i) ∧ T.2.2.2 i = qv i) : ∃ kA' vA', f_X4_addTo (E (va_up rc a x0, va_up cc a y0, va_up kc a kA, va_up vs a vA) S N T R B U L C H) 2 a = some (E (va_up rc a x0, va_up cc a y0, va_up kc a kA', va_up vs a vA') S N T R B U L C H) ∧ GC kA' vA' (jk k qr qc nT) (jv v qr qc qv nT) := by
  obtain ⟨s', ⟨kA', vA', e, hg⟩, e2⟩ := pz_lp (fun n h i => L_X4_addTo_2 2 a n (fun h13 => some h13) h i) (fun h13 => some h13) nT
    (fun i h => ∃ kA vA, h = (E (va_up rc a x0, va_up cc a y0, va_up kc a kA, va_up vs a vA) S N T R B U L C H) ∧ GC kA vA (jk k qr qc i) (jv v qr qc qv i))
    (fun n s hI => by
      obtain ⟨kA, vA, rfl, hg⟩ := hI
      rw [L_X4_addTo_2]
      by_cases q : nT < 64
      · rw [if_neg (ge64 q), e_gI2_0, Option.bind_some, t2, if_pos (Int32.le_refl _)]
      · rw [show nT = 64 by omega, if_pos (by decide)])
    (fun n i s hi hI => by
      obtain ⟨kA, vA, rfl, hg⟩ := hI
      obtain ⟨a1, a2, a3, a4, a5⟩ := t4 i hi
      refine ⟨_, ⟨_, _, rfl, hg.put a1 a2 (jv v qr qc qv i (qr i) (qc i) + qv i)⟩, ?_⟩
      rw [L_X4_addTo_2, if_neg (ge64 (by omega)), e_gI2_0, Option.bind_some, t2, if_neg (nI_ge hi (by omega)), e_gR2_1, Option.bind_some, e_a3 (by omega), Option.bind_some, e_gR2_2, Option.bind_some, e_a4 (by omega), Option.bind_some, e_gR2_3, Option.bind_some, e_a5 (by omega), Option.bind_some, e_ckG ha, a3, a4, a5, g_putSum ha hg a1 a2, Option.bind_some, nI_1])
    nT 0 FU (E (va_up rc a x0, va_up cc a y0, va_up kc a kA, va_up vs a vA) S N T R B U L C H) (by omega) (pz_FU (by omega)) ⟨kA, vA, rfl, g0⟩
  subst e
  exact ⟨kA', vA', e2, hg⟩
theorem MS.put {th hi wi kp : Nat → Int32} {va : Nat → Int64} {tR tC : Nat → Nat} {tk : Nat → Nat → Nat → Bool} {tv : Nat → Nat → Nat → Int64} {R0 C0 r c : Nat} {k : Nat → Nat → Bool} {v : Nat → Nat → Int64} (hM : MG (th, hi, wi, kp, va) tR tC tk tv) (hS : MS (th, hi, wi, kp, va) R0 C0 k v) (hr : r < 16) (hc : c < 16) (x : Int64) : MG (th, hi, wi, upd kp (2048 + (16 * r + c)) 1, vp_updL va (2048 + (16 * r + c)) x) tR tC tk tv ∧ MS (th, hi, wi, upd kp (2048 + (16 * r + c)) 1, vp_updL va (2048 + (16 * r + c)) x) R0 C0 (k2 k r c true) (v2 v r c x) := by
  refine ⟨hM.scratch (fun t ht => rfl) (fun t ht => rfl) (fun p hp => pk_un (by omega)) (fun p hp => pk_uLn (by omega)), hS.1, hS.2.1, fun r' c' hr' hc' => ?_⟩
  by_cases e : r' = r ∧ c' = c
  · obtain ⟨rfl, rfl⟩ := e
    refine ⟨?_, ?_⟩
    · show upd kp _ 1 (2048 + (16 * r' + c')) = _
      rw [pk_us]; simp [k2, bI]
    · show vp_updL va _ x (2048 + (16 * r' + c')) = _
      rw [pk_uLs]; simp [v2]
  · have hne : 2048 + (16 * r' + c') ≠ 2048 + (16 * r + c) := fun z => e ⟨by omega, by omega⟩
    refine ⟨?_, ?_⟩
    · show upd kp _ 1 (2048 + (16 * r' + c')) = _
      rw [pk_un hne]; simp only [k2, if_neg e]; exact (hS.2.2 r' c' hr' hc').1
    · show vp_updL va _ x (2048 + (16 * r' + c')) = _
      rw [pk_uLn hne]; simp only [v2, if_neg e]; exact (hS.2.2 r' c' hr' hc').2
/-- the reference's loop over the triples, up to the p-th -/
theorem md_join {G : TG} {S : TS} {N : TN} {T : TT} {R : TR} {th : Nat → Int32} {hi : Nat → Int32} {wi : Nat → Int32} {kp : Nat → Int32} {va : Nat → Int64} {U : TU} {L : TL} {C : TC} {H : TH} {tR tC : Nat → Nat} {tk : Nat → Nat → Nat → Bool} {tv : Nat → Nat → Nat → Int64} {a nT p : Nat} {qr qc : Nat → Nat} {qv : Nat → Int64} (kk0 kk : HP → Option (HP × Int32)) (hM : MG (th, hi, wi, kp, va) tR tC tk tv) (ha : a < 8) (hRa : 1 ≤ tR a) (hw : WFt tR tC tk tv) (hS : MS (th, hi, wi, kp, va) (tR a) (tC a) (tk a) (tv a)) (hp : p ≤ nT) (t1 : nT ≤ 64)
    (t4 : ∀ i, i < nT → qr i < 16 ∧ qc i < 16 ∧ U.2.1 i = nI (16 * qr i + qc i) ∧ U.2.2 i = qv i) (hq : ∀ i, i < p → qr i < tR a ∧ qc i < tC a)
    (hx : ∀ n B, MG B tR tC tk tv → L_X6_join_27 43 (nI a) (nI nT) (n + 1) kk0 (E G S N T R B U L C H) (nI p) = kk (E G S N T R B U L C H)) : ∃ B', MG B' tR tC tk tv ∧ MS B' (tR a) (tC a) (jk (tk a) qr qc p) (jv (tv a) qr qc qv p) ∧ L_X6_join_27 43 (nI a) (nI nT) FU kk0 (E G S N T R (th, hi, wi, kp, va) U L C H) 0 = kk (E G S N T R B' U L C H) := by
  obtain ⟨w1, w2⟩ := hw a ha
  obtain ⟨w3, w4, w5, w6, w7⟩ := w2 hRa
  obtain ⟨s', ⟨B', e, m1, m2⟩, e2⟩ := pz_lp (fun n h i => L_X6_join_27 43 (nI a) (nI nT) n kk0 h i) kk p
    (fun i h => ∃ B, h = (E G S N T R B U L C H) ∧ MG B tR tC tk tv ∧ MS B (tR a) (tC a) (jk (tk a) qr qc i) (jv (tv a) qr qc qv i))
    (fun n s hI => by
      obtain ⟨B, rfl, hB, -⟩ := hI
      exact hx n B hB)
    (fun n i s hi' hI => by
      obtain ⟨⟨th, hi, wi, kp, va⟩, rfl, hB, hS⟩ := hI
      obtain ⟨c1, c2, c3⟩ := (hB a ha).2 hRa
      obtain ⟨a1, a2, a3, a4⟩ := t4 i (by omega)
      have q := hq i hi'
      obtain ⟨f1, f2⟩ := hS.put hB a1 a2 (jv (tv a) qr qc qv i (qr i) (qc i) + qv i)
      refine ⟨_, ⟨_, rfl, f1, f2⟩, ?_⟩
      have ed : nI (16 * qr i + qc i) / 16 = nI (qr i) := by
        rw [show (16 : Int32) = nI 16 from rfl, pk_div (by omega) (by decide) (by decide), show (16 * qr i + qc i) / 16 = qr i by omega]
      have er : nI (16 * qr i + qc i) - nI (16 * qr i + qc i) / 16 * 16 = nI (qc i) := by
        rw [show (16 : Int32) = nI 16 from rfl, pk_rem (by omega) (by decide) (by decide), show (16 * qr i + qc i) % 16 = qc i by omega]
      have ea : (2048 : Int32) + nI (16 * qr i + qc i) = nI (2048 + (16 * qr i + qc i)) := by rw [show (2048 : Int32) = nI 2048 from rfl, nI_add]
      have ev : va (2048 + (16 * qr i + qc i)) = jv (tv a) qr qc qv i (qr i) (qc i) := (hS.2.2 (qr i) (qc i) a1 a2).2
      simp only [L_X6_join_27, if_neg (show ¬ nI nT ≤ nI i from nI_ge (by omega) (by omega)), e_gR43_6, Option.bind_some, e_a49 (show i < 64 by omega), a3]
      rw [er, ed, e_ck43, md_isIn (by omega) c1 c2, Option.bind_some, ix_nI (by omega) q.1, ix_nI (by omega) q.2, if_neg (show ¬ bI ((some (qr i) : Option Nat).isSome && (some (qc i) : Option Nat).isSome) = 0 by show ¬ (1 : Int32) = 0; decide), e_gR43_3, Option.bind_some, ea, e_s47 (by omega), Option.bind_some, pz_nz1, e_gR43_4, Option.bind_some, Option.bind_some, e_a48 (by omega), Option.bind_some, e_gR43_7, Option.bind_some, e_a50 (by omega), Option.bind_some, a4, e_s48 (by omega), Option.bind_some, nI_1]
      show L_X6_join_27 43 (nI a) (nI nT) n kk0 (E G S N T R (th, hi, wi, upd kp (2048 + (16 * qr i + qc i)) 1, vp_updL va (2048 + (16 * qr i + qc i)) (va (2048 + (16 * qr i + qc i)) + qv i)) U L C H) _ = _
      rw [ev])
    p 0 FU (E G S N T R (th, hi, wi, kp, va) U L C H) (by omega) (pz_FU (by omega)) ⟨_, rfl, hM, hS⟩
  subst e
  exact ⟨B', m1, m2, e2⟩
theorem cmd_join {h : HP} (o : OK h) (x1 : Int32) : S2 h (fun h => f_X5_join h 0 x1) (fun h => f_X6_join h 43 x1) := by
  have oo := o
  obtain ⟨⟨rc, cc, kc, vs⟩, ⟨sl, d⟩, N, ⟨tl, tr, tc, tw'⟩, R, B, ⟨mt, ta, tw⟩, L, C, H, g, tR, tC, tk, tv, nT, qr, qc, qv, nL, ql, rfl, hK, hw, hM, hr⟩ := o
  obtain ⟨t1, t2, t3, t4⟩ := hr.1
  have hr0 : Rst N (0, tr, tc, tw') R (0, ta, tw) L 0 qr qc qv nL ql := hr.tri ⟨by omega, rfl, rfl, fun i hi => absurd hi (by omega)⟩
  cases h1 : tix tR x1 with
  | none =>
    refine S2.same (r := -1) oo ?_ ?_
    · show f_X5_join _ 0 x1 = _
      unfold f_X5_join
      rw [e_ck0, kt_gridAt hK hw, h1, Option.bind_some]; rfl
    · show f_X6_join _ 43 x1 = _
      unfold f_X6_join
      rw [e_ck43, md_isTable hM, h1, Option.bind_some, if_pos bN]
  | some a =>
    obtain ⟨ha, rfl, hRa⟩ := tix_some h1
    obtain ⟨w1, w2⟩ := hw a ha
    obtain ⟨w3, w4, w5, w6, w7⟩ := w2 hRa
    obtain ⟨s1, s2, s3, s4, s5⟩ := hK.1 a ha
    obtain ⟨s6, s7⟩ := s5 hRa
    obtain ⟨b1, b2, b3⟩ := (hM a ha).2 hRa
    obtain ⟨th, hi, wi, kp, va⟩ := B
    have tk3 : ∀ i, i < nT → qr i < 16 ∧ qc i < 16 ∧ tr i = nI (qr i) ∧ tc i = nI (qc i) := fun i hi => ⟨(t4 i hi).1, (t4 i hi).2.1, (t4 i hi).2.2.1, (t4 i hi).2.2.2.1⟩
    have tm4 : ∀ i, i < nT → qr i < 16 ∧ qc i < 16 ∧ ta i = nI (16 * qr i + qc i) ∧ tw i = qv i := fun i hi => ⟨(t4 i hi).1, (t4 i hi).2.1, (t4 i hi).2.2.2.2.2.1, (t4 i hi).2.2.2.2.2.2⟩
    have emm : ∀ (G1 : TG) (S1 : TS), ∃ B1, MG B1 tR tC tk tv ∧ MS B1 (tR a) (tC a) (tk a) (tv a) ∧ f_X6_join (E G1 S1 N (0, tr, tc, tw') R (th, hi, wi, kp, va) (mt, ta, tw) L C H) 43 (nI a) = L_X6_join_27 43 (nI a) (nI nT) FU (fun h29 => ck 5 h29 43 <| (f_X6_putAt h29 43 (nI a)).bind fun (h31, v32) => some (h31, v32)) (E G1 S1 N (0, tr, tc, tw') R B1 (0, ta, tw) L C H) 0 := by
      intro G1 S1
      obtain ⟨B1, e2, m1, m2⟩ := md_take (G := G1) (S := S1) (N := N) (T := (0, tr, tc, tw')) (R := R) (U := (0, ta, tw)) (L := L) (C := C) (H := H) hM ha hRa
      refine ⟨B1, m1, m2, ?_⟩
      unfold f_X6_join
      rw [e_ck43, md_isTable hM, h1, Option.bind_some, if_neg bS, e_gI43_5, Option.bind_some, e_pI43_5, Option.bind_some, e_ck43, e2, Option.bind_some]
      show L_X6_join_27 43 (nI a) mt FU _ _ 0 = _
      rw [show mt = nI nT from t3]
    rcases t_lieIn (S := (sl, d)) (N := N) (T := (tl, tr, tc, tw')) (R := R) (B := (th, hi, wi, kp, va)) (U := (mt, ta, tw)) (L := L) (C := C) (H := H) s2 s4 s6 w1 w4 t1 t2 tk3 with ⟨f1, f2⟩ | ⟨f1, p, p1, p2, p3⟩
    · obtain ⟨kA0, vA0, e0, g0⟩ := g_become (a := d) (rc := rc) (cc := cc) (kc := kc) (vs := vs) (S := (sl, d)) (N := N) (T := (tl, tr, tc, tw')) (R := R) (B := (th, hi, wi, kp, va)) (U := (mt, ta, tw)) (L := L) (C := C) (H := H) hK.2.1 s2 s3 s7
      rw [show cc (g a) = nI (tC a) from s6, show rc (g a) = nI (tR a) from s4] at e0
      obtain ⟨kA, vA, e1, gA⟩ := t_addTo (rc := rc) (cc := cc) (kc := kc) (vs := vs) (S := (sl, d)) (N := N) (T := (tl, tr, tc, tw')) (R := R) (B := (th, hi, wi, kp, va)) (U := (mt, ta, tw)) (L := L) (C := C) (H := H) (x0 := nI (tR a)) (y0 := nI (tC a)) hK.2.1 g0 t1 t2 (fun i hi => ⟨(t4 i hi).1, (t4 i hi).2.1, (t4 i hi).2.2.1, (t4 i hi).2.2.2.1, (t4 i hi).2.2.2.2.1⟩)
      refine tail3 (B := (th, hi, wi, kp, va)) (C := C) (H := H) (T := (0, tr, tc, tw')) (U0 := (mt, ta, tw)) (U := (0, ta, tw)) (L0 := L) (R0 := tR a) (C0 := tC a) (k := jk (tk a) qr qc nT) (v := jv (tv a) qr qc qv nT) hK hw hr0 ha ⟨hRa, w1⟩ ⟨w3, w4⟩ (jk_in w5 nT f2) (jv_z w6 nT) gA ?_ ?_
      · show f_X5_join _ 0 (nI a) = _
        unfold f_X5_join
        rw [e_ck0, kt_gridAt hK hw, h1, Option.bind_some, Option.map_some, om_s, e_gR0_1, Option.bind_some, e_ck2, f1, Option.bind_some, if_neg one_ne, e_gR0_3, Option.bind_some, e_ckG hK.2.1]
        show (f_X2_become _ d (g a)).bind _ = _
        rw [e0, Option.bind_some, e_gR0_1, Option.bind_some, e_gR0_3, Option.bind_some, e_ck2]
        show (f_X4_addTo _ 2 d).bind _ = _
        rw [e1, Option.bind_some, e_gR0_1, Option.bind_some, e_ck2]
        unfold f_X4_clear
        rw [e_pI2_0, Option.bind_some, Option.bind_some, if_neg one_ne, e_ck0, bindp]
      · intro G1 S1
        obtain ⟨⟨th1, hi1, wi1, kp1, va1⟩, m1, m2, e3⟩ := emm G1 S1
        obtain ⟨B2, m3, m4, e4⟩ := md_join (G := G1) (S := S1) (N := N) (T := (0, tr, tc, tw')) (R := R) (U := (0, ta, tw)) (L := L) (C := C) (H := H) (p := nT) (fun h29 => ck 5 h29 43 <| (f_X6_putAt h29 43 (nI a)).bind fun (h31, v32) => some (h31, v32)) (fun h29 => ck 5 h29 43 <| (f_X6_putAt h29 43 (nI a)).bind fun (h31, v32) => some (h31, v32)) m1 ha hRa hw m2 (Nat.le_refl _) t1 tm4 f2 (fun n B _ => by rw [L_X6_join_27, if_pos (Int32.le_refl _)])
        refine ⟨B2, m3, m4, ?_⟩
        refine (e3.trans e4).trans ?_
        rw [e_ck43, bindp]
    · obtain ⟨⟨th1, hi1, wi1, kp1, va1⟩, m1, m2, e3⟩ := emm (rc, cc, kc, vs) (sl, d)
      obtain ⟨B2, m3, m4, e4⟩ := md_join (G := (rc, cc, kc, vs)) (S := (sl, d)) (N := N) (T := (0, tr, tc, tw')) (R := R) (U := (0, ta, tw)) (L := L) (C := C) (H := H) (p := p) (nT := nT) (fun h29 => ck 5 h29 43 <| (f_X6_putAt h29 43 (nI a)).bind fun (h31, v32) => some (h31, v32)) (fun h => some (h, -3)) m1 ha hRa hw m2 (by omega) t1 tm4 p3 (fun n B hB => by
        obtain ⟨c1, c2, c3⟩ := (hB a ha).2 hRa
        obtain ⟨a1, a2, a3, a4⟩ := tm4 p p1
        have ed : nI (16 * qr p + qc p) / 16 = nI (qr p) := by
          rw [show (16 : Int32) = nI 16 from rfl, pk_div (by omega) (by decide) (by decide), show (16 * qr p + qc p) / 16 = qr p by omega]
        have er : nI (16 * qr p + qc p) - nI (16 * qr p + qc p) / 16 * 16 = nI (qc p) := by
          rw [show (16 : Int32) = nI 16 from rfl, pk_rem (by omega) (by decide) (by decide), show (16 * qr p + qc p) % 16 = qc p by omega]
        simp only [L_X6_join_27, if_neg (show ¬ nI nT ≤ nI p from nI_ge (by omega) (by omega)), e_gR43_6, Option.bind_some, e_a49 (show p < 64 by omega)]
        show (ck 5 _ 43 <| (f_X6_isIn _ 43 (nI a) (ta p / 16) (ta p - ta p / 16 * 16)).bind _) = _
        rw [a3, er, ed, e_ck43, md_isIn (by omega) c1 c2, Option.bind_some, ix_in (by omega) (by omega), ix_in (by omega) (by omega), if_pos]
        by_cases q1 : qr p < tR a
        · have : ¬ qc p < tC a := fun z => p2 ⟨q1, z⟩
          simp [this, bI]
        · simp [q1, bI])
      refine S2.mk (r := -3) (E (rc, cc, kc, vs) (sl, d) N (0, tr, tc, tw') R (th, hi, wi, kp, va) (mt, ta, tw) L C H) (E (rc, cc, kc, vs) (sl, d) N (0, tr, tc, tw') R B2 (0, ta, tw) L C H) ?_ isE_E (e3.trans e4) (OK.mk hK hw m3 hr0)
      show f_X5_join _ 0 (nI a) = _
      unfold f_X5_join
      rw [e_ck0, kt_gridAt hK hw, h1, Option.bind_some, Option.map_some, om_s, e_gR0_1, Option.bind_some, e_ck2, f1, Option.bind_some, if_pos rfl, Option.bind_some, e_ck2]
      unfold f_X4_clear
      rw [e_pI2_0, Option.bind_some, Option.bind_some, if_pos rfl]
