/-! slants: the slant e is the one that begins at column e - 15 -/
theorem dI_s {e : Nat} : nI e + (-15 : Int32) + 1 = nI (e + 1) + (-15 : Int32) := by
  rw [Int32.add_assoc, Int32.add_comm (-15 : Int32) 1, ← Int32.add_assoc, nI_1]
theorem dI_ge : ∀ e, e < 31 → ¬ (16 : Int32) ≤ nI e + (-15) := by decide
theorem dI_gt : ∀ e, e < 31 → ¬ (15 : Int32) < nI e + (-15) := by decide
def kx (k : Nat → Nat → Bool) (x y : Int32) : Bool := ((ix 16 x).bind fun r => (ix 16 y).map fun c => k r c).getD false
theorem g_keepsx {G : TG} {S : TS} {N : TN} {T : TT} {R : TR} {B : TB} {U : TU} {L : TL} {C : TC} {H : TH} {a : Nat} {k : Nat → Nat → Bool} {v : Nat → Nat → Int64} (ha : isG a = true) (hg : GC (G.2.2.1 a) (G.2.2.2 a) k v) (x y : Int32) : f_X2_keeps (E G S N T R B U L C H) a x y = some (bI (kx k x y)) := by
  unfold kx
  cases e1 : ix 16 x with
  | none =>
    unfold f_X2_keeps
    rw [pz_lineNo (ix_none e1), Option.bind_some, if_pos rfl]; rfl
  | some r =>
    obtain ⟨hr, rfl⟩ := ix_some (by decide) e1
    cases e2 : ix 16 y with
    | none =>
      unfold f_X2_keeps
      rw [pz_line hr, Option.bind_some, if_neg one_ne, pz_lineNo (ix_none e2), Option.bind_some, if_pos rfl]; rfl
    | some c =>
      obtain ⟨hc, rfl⟩ := ix_some (by decide) e2
      exact g_keeps ha hg hr hc
def sk (k : Nat → Nat → Bool) (e : Nat) : Bool := orJ (fun r => kx k (nI r) (nI r + (nI e + (-15)))) 16
theorem lst_orJ {f : Nat → Bool} {n : Nat} : lst f n < n ↔ orJ f n = true := by
  constructor
  · intro h; exact orJ_true.2 ⟨_, h, lst_yes f n h⟩
  · intro h
    obtain ⟨i, hi, h2⟩ := orJ_true.1 h
    by_cases q : lst f n < n
    · exact q
    · have := lst_no f n i (by omega)
      rw [this] at h2; cases h2
theorem c_onSlant {G : TG} {S : TS} {N : TN} {T : TT} {R : TR} {B : TB} {U : TU} {L : TL} {C : TC} {H : TH} {a e : Nat} {k : Nat → Nat → Bool} {v : Nat → Nat → Int64} (ha : isG a = true) (hg : GC (G.2.2.1 a) (G.2.2.2 a) k v) : f_X2_keepsOnSlant (E G S N T R B U L C H) a (nI e + (-15)) = some (bI (sk k e)) := by
  have key := pz_srch (fun n (_ : Unit) l => L_X2_keepsOnSlant_2 (E G S N T R B U L C H) a (nI e + (-15)) n (some 0) l) (fun r => kx k (nI r) (nI r + (nI e + (-15)))) 16 (some 0) (fun _ => some 1) (fun _ _ => True)
    (fun n s _ => by rw [L_X2_keepsOnSlant_2, if_pos ex16])
    (fun n d s hd _ z => ⟨(), trivial, by rw [L_X2_keepsOnSlant_2, if_neg (ge16 hd), e_ckG ha, g_keepsx ha hg, Option.bind_some, z, if_pos (by decide), nI_1]⟩)
    (fun n d s hd _ z => by rw [L_X2_keepsOnSlant_2, if_neg (ge16 hd), e_ckG ha, g_keepsx ha hg, Option.bind_some, z, if_neg (by decide)])
    FU () (pz_FU (by decide)) trivial
  unfold f_X2_keepsOnSlant
  refine key.trans ?_
  unfold sk
  cases q : orJ (fun r => kx k (nI r) (nI r + (nI e + (-15)))) 16 with
  | true => rw [if_pos (lst_orJ.2 q)]; rfl
  | false => rw [if_neg (fun z => by rw [lst_orJ.1 z] at q; cases q)]; rfl
theorem c_slantCount {G : TG} {S : TS} {N : TN} {T : TT} {R : TR} {B : TB} {U : TU} {L : TL} {C : TC} {H : TH} {a : Nat} {k : Nat → Nat → Bool} {v : Nat → Nat → Int64} (ha : isG a = true) (hg : GC (G.2.2.1 a) (G.2.2.2 a) k v) : f_X0_slantCount (E G S N T R B U L C H) a = some (nI (cnt (sk k) 31)) := by
  have key := pz_lpf (fun n s l => L_X0_slantCount_5 (E G S N T R B U L C H) a n (fun x6 => some x6) s (l + (-15))) (some (nI (cnt (sk k) 31))) 31 (fun e => nI (cnt (sk k) e))
    (fun n => by rw [L_X0_slantCount_5, if_pos (by decide)])
    (fun n e he => by
      rw [L_X0_slantCount_5, if_neg (dI_ge e he), e_ckG ha, c_onSlant ha hg, Option.bind_some, dI_s, nI_1, cnt_step]
      cases sk k e with
      | true => rw [if_neg (by decide), if_pos rfl]
      | false => rw [if_pos (by decide), if_neg (by decide)]; rfl)
    31 0 FU (by omega) (pz_FU (by decide))
  unfold f_X0_slantCount
  exact key
def W5 (R0 : Nat) (k : Nat → Nat → Bool) (v : Nat → Nat → Int64) (m : Nat) : Int64 := if m % (R0 + 1) = 0 then Int32.toInt64 (nI (sel (sk k) 31 (m / (R0 + 1))) + (-15)) else vx v 16 16 (nI (m % (R0 + 1) - 1)) (nI (m % (R0 + 1) - 1) + (nI (sel (sk k) 31 (m / (R0 + 1))) + (-15)))
theorem c_slants {G : TG} {S : TS} {N : TN} {T : TT} {R : TR} {B : TB} {U : TU} {L : TL} {C : TC} {H : TH} {a R0 m : Nat} {k : Nat → Nat → Bool} {v : Nat → Nat → Int64} (ha : isG a = true) (hg : GC (G.2.2.1 a) (G.2.2.2 a) k v) (h1 : G.1 a = nI R0) (hR : R0 ≤ 16) (hm : m < cnt (sk k) 31 * (R0 + 1)) : f_X0_slantsCell (E G S N T R B U L C H) a (nI m) = some (W5 R0 k v m) := by
  have hc := cnt_le (sk k) 31
  have hb : cnt (sk k) 31 * (R0 + 1) ≤ 31 * 17 := Nat.mul_le_mul hc (by omega)
  have hj : m / (R0 + 1) < cnt (sk k) 31 := Nat.div_lt_of_lt_mul (by rw [Nat.mul_comm]; exact hm)
  obtain ⟨j1, j2, j3⟩ := sel_spec hj
  have hdm := Nat.div_add_mod m (R0 + 1)
  have hml : m % (R0 + 1) < R0 + 1 := Nat.mod_lt _ (by omega)
  have hle : ∀ e, e ≤ sel (sk k) 31 (m / (R0 + 1)) → cnt (sk k) e * (R0 + 1) ≤ m := by
    intro e he
    have a1 := cnt_mono (sk k) he
    rw [j3] at a1
    have a2 : cnt (sk k) e * (R0 + 1) ≤ m / (R0 + 1) * (R0 + 1) := Nat.mul_le_mul_right _ a1
    rw [Nat.mul_comm (m / (R0 + 1))] at a2
    omega
  have key := pz_lpf (fun n s l => L_X0_slantsCell_5 (E G S N T R B U L C H) a n (some 0) s (l + (-15))) (some (W5 R0 k v m)) (sel (sk k) 31 (m / (R0 + 1))) (fun e => nI (m - cnt (sk k) e * (R0 + 1)))
    (fun n => by
      have el : m - cnt (sk k) (sel (sk k) 31 (m / (R0 + 1))) * (R0 + 1) = m % (R0 + 1) := by rw [j3, Nat.mul_comm]; omega
      show L_X0_slantsCell_5 (E G S N T R B U L C H) a (n + 1) (some 0) (nI (m - cnt (sk k) (sel (sk k) 31 (m / (R0 + 1))) * (R0 + 1))) _ = _
      rw [el, L_X0_slantsCell_5, if_neg (dI_ge _ j1), e_ckG ha, c_onSlant ha hg, Option.bind_some, j2, if_neg (by decide)]
      unfold W5
      by_cases q : m % (R0 + 1) = 0
      · rw [if_pos (by rw [q]; rfl), if_pos q]
      · rw [if_neg (nI_ne0 (by omega) (by omega)), if_neg q, e_gIrc ha, Option.bind_some, h1, if_neg (nI_nlt (by omega) (by omega)), e_ckG ha, show (1 : Int32) = nI 1 from rfl, pk_sub (by omega), g_valuex ha hg, Option.bind_some])
    (fun n e he => by
      have l1 := hle e (by omega)
      have l2 := hle (e + 1) (by omega)
      show L_X0_slantsCell_5 (E G S N T R B U L C H) a (n + 1) (some 0) (nI (m - cnt (sk k) e * (R0 + 1))) (nI e + (-15)) = L_X0_slantsCell_5 (E G S N T R B U L C H) a n (some 0) (nI (m - cnt (sk k) (e + 1) * (R0 + 1))) (nI (e + 1) + (-15))
      rw [L_X0_slantsCell_5, if_neg (dI_ge e (by omega)), e_ckG ha, c_onSlant ha hg, Option.bind_some, dI_s]
      cases q : sk k e with
      | false =>
        have : cnt (sk k) (e + 1) = cnt (sk k) e := by rw [cnt_step, q]; rfl
        rw [if_pos (by decide), this]
      | true =>
        have : cnt (sk k) (e + 1) * (R0 + 1) = cnt (sk k) e * (R0 + 1) + (R0 + 1) := by rw [cnt_step, q, if_pos rfl, Nat.add_mul, Nat.one_mul]
        rw [if_neg (by decide), if_neg (nI_ne0 (by omega) (by omega)), e_gIrc ha, Option.bind_some, h1, if_pos (nI_lt (by omega) (by omega)), Option.bind_some, nI_1, pk_sub (by omega), this, Nat.sub_sub])
    (sel (sk k) 31 (m / (R0 + 1))) 0 FU (by omega) (pz_FU (by omega))
  unfold f_X0_slantsCell
  have k2 : L_X0_slantsCell_5 (E G S N T R B U L C H) a FU (some 0) (nI (m - cnt (sk k) 0 * (R0 + 1))) (nI 0 + (-15)) = some (W5 R0 k v m) := key
  rw [show m - cnt (sk k) 0 * (R0 + 1) = m by show m - 0 * (R0 + 1) = m; omega] at k2
  exact k2
theorem ix_16 {R0 : Nat} {x : Int32} (hR : R0 ≤ 16) : (∃ r, r < R0 ∧ x = nI r ∧ ix R0 x = some r ∧ ix 16 x = some r) ∨ (ix R0 x = none ∧ ∀ r, ix 16 x = some r → R0 ≤ r ∧ r < 16) := by
  cases e : ix R0 x with
  | some r =>
    obtain ⟨hr, rfl⟩ := ix_some (by omega) e
    exact Or.inl ⟨r, hr, rfl, rfl, ix_nI (by decide) (by omega)⟩
  | none =>
    refine Or.inr ⟨rfl, fun r h => ?_⟩
    obtain ⟨hr, rfl⟩ := ix_some (by decide) h
    refine ⟨?_, hr⟩
    by_cases q : r < R0
    · rw [ix_nI (by omega) q] at e; cases e
    · omega
theorem vx_eq {v : Nat → Nat → Int64} {R0 C0 : Nat} (hR : R0 ≤ 16) (hC : C0 ≤ 16) (h0 : ∀ r c, r < 16 → c < 16 → ¬ (r < R0 ∧ c < C0) → v r c = 0) (x y : Int32) : vx v R0 C0 x y = vx v 16 16 x y := by
  unfold vx
  rcases ix_16 (x := x) hR with ⟨r, hr, -, e1, e2⟩ | ⟨e1, e2⟩
  · rw [e1, e2]
    rcases ix_16 (x := y) hC with ⟨c, hc, -, e3, e4⟩ | ⟨e3, e4⟩
    · rw [e3, e4]
    · rw [e3]
      cases e5 : ix 16 y with
      | none => rfl
      | some c =>
        obtain ⟨h1, h2⟩ := e4 c e5
        show (0 : Int64) = v r c
        rw [h0 r c (by omega) h2 (by omega)]
  · rw [e1]
    cases e5 : ix 16 x with
    | none => rfl
    | some r =>
      obtain ⟨h1, h2⟩ := e2 r e5
      cases e6 : ix 16 y with
      | none => rfl
      | some c =>
        obtain ⟨hc, -⟩ := ix_some (by decide) e6
        show (0 : Int64) = v r c
        rw [h0 r c h2 hc (by omega)]
theorem md_onSlant {G : TG} {S : TS} {N : TN} {T : TT} {R : TR} {B : TB} {U : TU} {L : TL} {C : TC} {H : TH} {t R0 C0 e : Nat} {k : Nat → Nat → Bool} {v : Nat → Nat → Int64} (hm : MC B.2.2.2.1 B.2.2.2.2 t k v) (ht : t < 8) (h1 : B.2.1 t = nI R0) (h2 : B.2.2.1 t = nI C0) (hR : R0 ≤ 16) (hC : C0 ≤ 16) (hin : ∀ r c, r < 16 → c < 16 → k r c = true → r < R0 ∧ c < C0) (kk : Int32 → Option HP) : L_X6_slants_14 (E G S N T R B U L C H) 43 (nI t) (nI e + (-15)) FU kk 0 0 = kk (bI (sk k e)) := by
  have key := pz_lpf (fun n s l => L_X6_slants_14 (E G S N T R B U L C H) 43 (nI t) (nI e + (-15)) n kk s l) (kk (bI (orJ (fun r => kx k (nI r) (nI r + (nI e + (-15)))) R0))) R0 (fun i => bI (orJ (fun r => kx k (nI r) (nI r + (nI e + (-15)))) i))
    (fun n => by rw [L_X6_slants_14, e_gR43_1, Option.bind_some, e_a45 (by omega), Option.bind_some, h1, if_pos (Int32.le_refl _)])
    (fun n i hi => by
      have hi16 : i < 16 := by omega
      have hkx : ∀ y : Int32, ((f_X6_isIn (E G S N T R B U L C H) 43 (nI t) (nI i) y).bind fun v7 => if v7 = 0 then L_X6_slants_14 (E G S N T R B U L C H) 43 (nI t) (nI e + (-15)) n kk 0 (nI (i + 1)) else ck 5 (E G S N T R B U L C H) 43 <| (f_X6_has (E G S N T R B U L C H) 43 (nI t) (nI i) y).bind fun v11 => if v11 = 0 then L_X6_slants_14 (E G S N T R B U L C H) 43 (nI t) (nI e + (-15)) n kk 0 (nI (i + 1)) else L_X6_slants_14 (E G S N T R B U L C H) 43 (nI t) (nI e + (-15)) n kk 1 (nI (i + 1))) = L_X6_slants_14 (E G S N T R B U L C H) 43 (nI t) (nI e + (-15)) n kk (bI (kx k (nI i) y)) (nI (i + 1)) := by
        intro y
        rw [md_isIn (by omega) h1 h2, Option.bind_some, ix_nI (by omega) hi]
        unfold kx
        rw [ix_nI (by decide) hi16]
        rcases ix_16 (x := y) hC with ⟨c, hc, rfl, e3, e4⟩ | ⟨e3, e4⟩
        · rw [e3, e4, if_neg (by show ¬ (1 : Int32) = 0; decide), e_ck43, md_has hm (by omega) hi16 (by omega), Option.bind_some]
          show _ = L_X6_slants_14 (E G S N T R B U L C H) 43 (nI t) (nI e + (-15)) n kk (bI (k i c)) (nI (i + 1))
          cases k i c with
          | true => rw [if_neg (by decide)]; rfl
          | false => rw [if_pos (by decide)]; rfl
        · rw [e3, if_pos (by rfl)]
          cases e5 : ix 16 y with
          | none => rfl
          | some c =>
            obtain ⟨z1, z2⟩ := e4 c e5
            have : k i c = false := by
              cases q : k i c with
              | false => rfl
              | true => have := (hin i c hi16 z2 q).2; omega
            show _ = L_X6_slants_14 (E G S N T R B U L C H) 43 (nI t) (nI e + (-15)) n kk (bI (k i c)) (nI (i + 1))
            rw [this]; rfl
      rw [L_X6_slants_14, e_gR43_1, Option.bind_some, e_a45 (by omega), Option.bind_some, h1, if_neg (nI_ge hi (by omega)), nI_1, e_ck43, hkx]
      show _ = L_X6_slants_14 (E G S N T R B U L C H) 43 (nI t) (nI e + (-15)) n kk (bI (orJ (fun r => kx k (nI r) (nI r + (nI e + (-15)))) i || kx k (nI i) (nI i + (nI e + (-15))))) (nI (i + 1))
      cases orJ (fun r => kx k (nI r) (nI r + (nI e + (-15)))) i with
      | true => rw [if_neg (by decide)]; rfl
      | false => rw [if_pos (by decide), Bool.false_or])
    R0 0 FU (by omega) (pz_FU (by omega))
  have es : sk k e = orJ (fun r => kx k (nI r) (nI r + (nI e + (-15)))) R0 := orJ_more hR (fun r r1 r2 => by
    unfold kx
    rw [ix_nI (by decide) r2]
    cases e5 : ix 16 (nI r + (nI e + (-15))) with
    | none => rfl
    | some c =>
      obtain ⟨hc, -⟩ := ix_some (by decide) e5
      show k r c = false
      cases q : k r c with
      | false => rfl
      | true => have := (hin r c r2 hc q).1; omega)
  rw [es]
  exact key
theorem md_slants {G : TG} {S : TS} {N : TN} {T : TT} {R : TR} {B : TB} {U : TU} {L : TL} {C : TC} {H : TH} {t R0 C0 : Nat} {k : Nat → Nat → Bool} {v : Nat → Nat → Int64} (hm : MC B.2.2.2.1 B.2.2.2.2 t k v) (ht : t < 8) (h1 : B.2.1 t = nI R0) (h2 : B.2.2.1 t = nI C0) (hR : R0 ≤ 16) (hC : C0 ≤ 16) (hin : ∀ r c, r < 16 → c < 16 → k r c = true → r < R0 ∧ c < C0) (hz : ∀ r c, r < 16 → c < 16 → k r c = false → v r c = 0) (hL0 : Laid C 0 (W5 R0 k v)) : ∃ C', f_X6_slants (E G S N T R B U L C H) 43 (nI t) = some (E G S N T R B U L C' H) ∧ Laid C' (cnt (sk k) 31 * (R0 + 1)) (W5 R0 k v) := by
  have h0 : ∀ r c, r < 16 → c < 16 → ¬ (r < R0 ∧ c < C0) → v r c = 0 := by
    intro r c hr hc hh
    cases q : k r c with
    | true => exact absurd (hin r c hr hc q) hh
    | false => exact hz r c hr hc q
  obtain ⟨s', ⟨C3, e, f3⟩, e3⟩ := pz_lp (fun n h l => L_X6_slants_3 43 (nI t) n (fun h29 => some h29) h (l + (-15))) (fun h29 => some h29) 31
    (fun e h => ∃ C3, h = E G S N T R B U L C3 H ∧ Laid C3 (cnt (sk k) e * (R0 + 1)) (W5 R0 k v))
    (fun n s _ => by rw [L_X6_slants_3, if_pos (by decide)])
    (fun n e s he hI => by
      obtain ⟨C3, rfl, f3⟩ := hI
      have hce := cnt_le (sk k) e
      have hb : cnt (sk k) e * (R0 + 1) ≤ 31 * 17 := Nat.mul_le_mul (by omega) (by omega)
      have e0 : L_X6_slants_3 43 (nI t) (n + 1) (fun h29 => some h29) (E G S N T R B U L C3 H) (nI e + (-15)) = if sk k e = true then ((f_X6_lay (E G S N T R B U L C3 H) 43 (Int32.toInt64 (nI e + (-15)))).bind fun h17 => L_X6_slants_82 43 (nI t) (nI e + (-15)) FU (fun h28 => L_X6_slants_3 43 (nI t) n (fun h29 => some h29) h28 (nI (e + 1) + (-15))) h17 0) else L_X6_slants_3 43 (nI t) n (fun h29 => some h29) (E G S N T R B U L C3 H) (nI (e + 1) + (-15)) := by
        rw [L_X6_slants_3, if_neg (dI_gt e he), md_onSlant hm ht h1 h2 hR hC hin, dI_s, e_ck43]
        cases sk k e with
        | true => rw [if_neg (by decide), if_pos rfl]
        | false => rw [if_pos (by decide), if_neg (by decide)]
      by_cases q : sk k e = true
      · have hse : sel (sk k) 31 (cnt (sk k) e) = e := sel_cnt he q
        have a0 : W5 R0 k v (cnt (sk k) e * (R0 + 1)) = Int32.toInt64 (nI e + (-15)) := by
          unfold W5
          rw [if_pos (Nat.mul_mod_left _ _), Nat.mul_div_cancel _ (by omega), hse]
        obtain ⟨C4, e4, f4⟩ := md_lay (G := G) (S := S) (N := N) (T := T) (R := R) (B := B) (U := U) (L := L) (H := H) f3 (by omega) a0.symm
        obtain ⟨s2, ⟨C5, e5, f5⟩, e6⟩ := pz_lp (fun m h l => L_X6_slants_82 43 (nI t) (nI e + (-15)) m (fun h28 => L_X6_slants_3 43 (nI t) n (fun h29 => some h29) h28 (nI (e + 1) + (-15))) h l) (fun h28 => L_X6_slants_3 43 (nI t) n (fun h29 => some h29) h28 (nI (e + 1) + (-15))) R0
          (fun r h => ∃ C5, h = E G S N T R B U L C5 H ∧ Laid C5 (cnt (sk k) e * (R0 + 1) + 1 + r) (W5 R0 k v))
          (fun m s hI => by
            obtain ⟨C5, rfl, f5⟩ := hI
            rw [L_X6_slants_82, e_gR43_1, Option.bind_some, e_a45 (by omega), Option.bind_some, h1, if_pos (Int32.le_refl _)])
          (fun m r s hr hI => by
            obtain ⟨C5, rfl, f5⟩ := hI
            have em : (cnt (sk k) e * (R0 + 1) + 1 + r) % (R0 + 1) = 1 + r := by
              rw [Nat.add_assoc, Nat.mul_comm, Nat.mul_add_mod, Nat.mod_eq_of_lt (by omega)]
            have ed : (cnt (sk k) e * (R0 + 1) + 1 + r) / (R0 + 1) = cnt (sk k) e := by
              rw [Nat.add_assoc, Nat.mul_comm, Nat.mul_add_div (by omega), Nat.div_eq_of_lt (by omega)]; rfl
            have a1 : W5 R0 k v (cnt (sk k) e * (R0 + 1) + 1 + r) = vx v R0 C0 (nI r) (nI r + (nI e + (-15))) := by
              unfold W5
              rw [em, ed, hse, if_neg (by omega), show 1 + r - 1 = r by omega, vx_eq hR hC h0]
            obtain ⟨C6, e7, f6⟩ := md_lay (G := G) (S := S) (N := N) (T := T) (R := R) (B := B) (U := U) (L := L) (H := H) f5 (by omega) a1.symm
            refine ⟨_, ⟨C6, rfl, f6⟩, ?_⟩
            rw [L_X6_slants_82, e_gR43_1, Option.bind_some, e_a45 (by omega), Option.bind_some, h1, if_neg (nI_ge hr (by omega)), e_ck43, md_holdsx hm (by omega) h1 h2 hR hC hz, Option.bind_some, e_ck43, e7, Option.bind_some, nI_1])
          R0 0 FU (E G S N T R B U L C4 H) (by omega) (pz_FU (by omega)) ⟨C4, rfl, f4⟩
        subst e5
        refine ⟨_, ⟨C5, rfl, ?_⟩, ?_⟩
        · rw [cnt_step, if_pos q, Nat.add_mul, Nat.one_mul, show cnt (sk k) e * (R0 + 1) + (R0 + 1) = cnt (sk k) e * (R0 + 1) + 1 + R0 by omega]; exact f5
        · rw [e0, if_pos q, e4, Option.bind_some]
          exact e6
      · refine ⟨_, ⟨C3, rfl, by rw [cnt_step, if_neg q]; exact f3⟩, ?_⟩
        rw [e0, if_neg q])
    31 0 FU (E G S N T R B U L C H) rfl (pz_FU (by decide)) ⟨C, rfl, by rw [show cnt (sk k) 0 * (R0 + 1) = 0 by show 0 * (R0 + 1) = 0; omega]; exact hL0⟩
  subst e
  exact ⟨C3, e3, f3⟩
