/-! the two sides together -/
def Rst (N : TN) (T : TT) (R : TR) (U : TU) (L : TL) (nT : Nat) (qr qc : Nat → Nat) (qv : Nat → Int64) (nL : Nat) (ql : Nat → Nat) : Prop :=
  (nT ≤ 64 ∧ T.1 = nI nT ∧ U.1 = nI nT ∧ ∀ i, i < nT → qr i < 16 ∧ qc i < 16 ∧ T.2.1 i = nI (qr i) ∧ T.2.2.1 i = nI (qc i) ∧ T.2.2.2 i = qv i ∧ U.2.1 i = nI (16 * qr i + qc i) ∧ U.2.2 i = qv i) ∧
  (nL ≤ 16 ∧ ((N.1 = 15 ∧ N.2.1 = 17) ∨ (N.1 = 17 ∧ N.2.1 = 15)) ∧ N.2.2.1 N.1 = nI nL ∧ L.1 = nI nL ∧ ∀ i, i < nL → ql i < 16 ∧ N.2.2.2 N.1 i = nI (ql i) ∧ L.2 i = nI (ql i)) ∧
  ((R.2.2.2.2.2.1 = 10 ∧ R.2.2.2.2.2.2 = 11) ∨ (R.2.2.2.2.2.1 = 11 ∧ R.2.2.2.2.2.2 = 10))
def isE (h : HP) : Prop := ∃ G S N T R B U L C H, h = E G S N T R B U L C H
def OK (h : HP) : Prop := ∃ G S N T R B U L C H g tR tC tk tv nT qr qc qv nL ql, h = E G S N T R B U L C H ∧ KG G S g tR tC tk tv ∧ WFt tR tC tk tv ∧ MG B tR tC tk tv ∧ Rst N T R U L nT qr qc qv nL ql
theorem OK.isE {h : HP} (o : OK h) : isE h := by
  obtain ⟨G, S, N, T, R, B, U, L, C, H, -, -, -, -, -, -, -, -, -, -, -, e, -⟩ := o
  exact ⟨G, S, N, T, R, B, U, L, C, H, e⟩
/-- one command that both sides may write for: equal answers, and both hold the same tables again -/
def S2 {ρ : Type} (h : HP) (fx fm : HP → Option (HP × ρ)) : Prop := ∃ h1 h2 r, fx h = some (h1, r) ∧ isE h1 ∧ fm h1 = some (h2, r) ∧ OK h2
theorem S2.same {ρ : Type} {h : HP} {fx fm : HP → Option (HP × ρ)} {r : ρ} (o : OK h) (h1 : fx h = some (h, r)) (h2 : fm h = some (h, r)) : S2 h fx fm := ⟨h, h, r, h1, o.isE, h2, o⟩
theorem WFt.up {tR tC : Nat → Nat} {tk : Nat → Nat → Nat → Bool} {tv : Nat → Nat → Nat → Int64} (hw : WFt tR tC tk tv) {t R0 C0 : Nat} {k : Nat → Nat → Bool} {v : Nat → Nat → Int64} (hR : R0 ≤ 16) (hC : 1 ≤ C0 ∧ C0 ≤ 16) (hin : ∀ r c, r < 16 → c < 16 → k r c = true → r < R0 ∧ c < C0) (hz : ∀ r c, r < 16 → c < 16 → k r c = false → v r c = 0) (hn : ahead k 16 ≤ 128) : WFt (va_up tR t R0) (va_up tC t C0) (va_up tk t k) (va_up tv t v) := by
  intro t' ht'
  by_cases e : t' = t
  · subst e
    rw [va_up_self, va_up_self, va_up_self, va_up_self]
    exact ⟨hR, fun _ => ⟨hC.1, hC.2, hin, hz, hn⟩⟩
  · have e2 : va_up tR t R0 t' = tR t' := va_up_ne _ _ e
    have e3 : va_up tC t C0 t' = tC t' := va_up_ne _ _ e
    have e4 : va_up tk t k t' = tk t' := va_up_ne _ _ e
    have e5 : va_up tv t v t' = tv t' := va_up_ne _ _ e
    rw [e2, e3, e4, e5]
    exact hw t' ht'
theorem tail2 {rc : Nat → Int32} {cc : Nat → Int32} {kc : Nat → Nat → Int32} {vs : Nat → Nat → Int64} {sl : Nat → Option Nat} {d : Nat} {N : TN} {T : TT} {R : TR} {B : TB} {U : TU} {L : TL} {C : TC} {H : TH} {g tR tC : Nat → Nat} {tk : Nat → Nat → Nat → Bool} {tv : Nat → Nat → Nat → Int64} {nT : Nat} {qr qc : Nat → Nat} {qv : Nat → Int64} {nL : Nat} {ql : Nat → Nat} {t R0 C0 : Nat} {kA : Nat → Int32} {vA : Nat → Int64} {k : Nat → Nat → Bool} {v : Nat → Nat → Int64} {h : HP} {fx fm : HP → Option (HP × Int32)}
    (hK : KG (rc, cc, kc, vs) (sl, d) g tR tC tk tv) (hw : WFt tR tC tk tv) (hr : Rst N T R U L nT qr qc qv nL ql) (ht : t < 8) (hR : 1 ≤ R0 ∧ R0 ≤ 16) (hC : 1 ≤ C0 ∧ C0 ≤ 16) (hin : ∀ r c, r < 16 → c < 16 → k r c = true → r < R0 ∧ c < C0) (hz : ∀ r c, r < 16 → c < 16 → k r c = false → v r c = 0) (hg : GC kA vA k v)
    (hfx : fx h = (f_X5_putDraft (E (va_up rc d (nI R0), va_up cc d (nI C0), va_up kc d kA, va_up vs d vA) (sl, d) N T R B U L C H) 0 (nI t)).bind fun z => some z)
    (hfm : ∀ G1 S1, ∃ B', MG B' tR tC tk tv ∧ MS B' R0 C0 k v ∧ fm (E G1 S1 N T R B U L C H) = (f_X6_putAt (E G1 S1 N T R B' U L C H) 43 (nI t)).bind fun z => some z) : S2 h fx fm := by
  obtain ⟨S', g', e1, hK'⟩ := kt_putDraft (N := N) (T := T) (R := R) (B := B) (U := U) (L := L) (C := C) (H := H) (R0 := R0) (C0 := C0) hK hg ht
  by_cases q : ahead k 16 ≤ 128
  · rw [if_pos q] at e1
    obtain ⟨⟨th, hi, wi, kp, va⟩, m1, m2, m3⟩ := hfm (va_up rc d (nI R0), va_up cc d (nI C0), va_up kc d kA, va_up vs d vA) S'
    obtain ⟨B2, p1, p2⟩ := md_putAt (G := (va_up rc d (nI R0), va_up cc d (nI C0), va_up kc d kA, va_up vs d vA)) (S := S') (N := N) (T := T) (R := R) (U := U) (L := L) (C := C) (H := H) m1 m2 hR.1 ht
    rw [if_pos q] at p1
    refine ⟨_, _, nI (ahead k 16), by rw [hfx, e1]; rfl, ⟨_, _, _, _, _, _, _, _, _, _, rfl⟩, by rw [m3, p1]; rfl, _, _, _, _, _, _, _, _, _, _, g', _, _, _, _, nT, qr, qc, qv, nL, ql, rfl, hK', hw.up hR.2 hC hin hz q, p2, hr⟩
  · rw [if_neg q] at e1
    obtain ⟨⟨th, hi, wi, kp, va⟩, m1, m2, m3⟩ := hfm (va_up rc d (nI R0), va_up cc d (nI C0), va_up kc d kA, va_up vs d vA) (sl, d)
    obtain ⟨B2, p1, p2⟩ := md_putAt (G := (va_up rc d (nI R0), va_up cc d (nI C0), va_up kc d kA, va_up vs d vA)) (S := (sl, d)) (N := N) (T := T) (R := R) (U := U) (L := L) (C := C) (H := H) m1 m2 hR.1 ht
    rw [if_neg q] at p1
    refine ⟨_, _, -4, by rw [hfx, e1]; rfl, ⟨_, _, _, _, _, _, _, _, _, _, rfl⟩, by rw [m3, p1]; rfl, _, _, _, _, _, _, _, _, _, _, g, tR, tC, tk, tv, nT, qr, qc, qv, nL, ql, rfl, hK.draft _ _ _ _, hw, m1, hr⟩
theorem bindp {α β : Type} (o : Option (α × β)) : (o.bind fun (a, b) => some (a, b)) = o.bind fun z => some z := by
  cases o <;> rfl
theorem bI_and_t {a b : Bool} : bI (a && b) = 0 ↔ ¬ (a = true ∧ b = true) := by cases a <;> cases b <;> decide
/-! turn -/
theorem cmd_turn {h : HP} (o : OK h) (x1 x2 : Int32) : S2 h (fun h => f_X5_turn h 0 x1 x2) (fun h => f_X6_turn h 43 x1 x2) := by
  have oo := o
  obtain ⟨⟨rc, cc, kc, vs⟩, ⟨sl, d⟩, N, T, R, B, U, L, C, H, g, tR, tC, tk, tv, nT, qr, qc, qv, nL, ql, rfl, hK, hw, hM, hr⟩ := o
  cases h1 : tix tR x1 with
  | none =>
    refine S2.same (r := -1) oo ?_ ?_
    · show f_X5_turn _ 0 x1 x2 = _
      unfold f_X5_turn
      rw [e_ck0, kt_gridAt hK hw, h1, Option.bind_some]
      rfl
    · show f_X6_turn _ 43 x1 x2 = _
      unfold f_X6_turn
      rw [md_isNumber, Option.bind_some, e_ck43, md_isTable hM, h1, Option.bind_some, if_pos bN]
      split <;> rfl
  | some a =>
    obtain ⟨ha, rfl, hRa⟩ := tix_some h1
    obtain ⟨w1, w2⟩ := hw a ha
    obtain ⟨w3, w4, w5, w6, w7⟩ := w2 hRa
    obtain ⟨s1, s2, s3, s4, s5⟩ := hK.1 a ha
    obtain ⟨s6, s7⟩ := s5 hRa
    cases h2 : ix 8 x2 with
    | none =>
      refine S2.same (r := -1) oo ?_ ?_
      · show f_X5_turn _ 0 (nI a) x2 = _
        unfold f_X5_turn
        rw [e_ck0, kt_gridAt hK hw, h1, Option.bind_some, Option.map_some, om_s, kt_slot, h2, Option.bind_some, if_pos bN]
      · show f_X6_turn _ 43 (nI a) x2 = _
        unfold f_X6_turn
        rw [md_isNumber, h2, Option.bind_some, if_pos bN]
    | some t =>
      obtain ⟨ht, rfl⟩ := ix_some (by decide) h2
      obtain ⟨kA, vA, e1, gA⟩ := g_turned (a := d) (rc := rc) (cc := cc) (kc := kc) (vs := vs) (S := (sl, d)) (N := N) (T := T) (R := R) (B := B) (U := U) (L := L) (C := C) (H := H) hK.2.1 s2 s3 s7 w6
      rw [show cc (g a) = nI (tC a) from s6, show rc (g a) = nI (tR a) from s4] at e1
      refine tail2 (B := B) (C := C) (H := H) (R0 := tC a) (C0 := tR a) (k := fun r c => tk a c r) (v := fun r c => tv a c r) hK hw hr ht ⟨w3, w4⟩ ⟨hRa, w1⟩ (fun r c hr hc z => by have := w5 c r hc hr z; omega) (fun r c hr hc z => w6 c r hc hr z) gA ?_ ?_
      · show f_X5_turn _ 0 (nI a) (nI t) = _
        unfold f_X5_turn
        rw [e_ck0, kt_gridAt hK hw, h1, Option.bind_some, Option.map_some, om_s, kt_slot, h2, Option.bind_some, if_neg bS, e_gR0_3, Option.bind_some, e_ckG hK.2.1]
        show (f_X2_becomeTurned _ d (g a)).bind _ = _
        rw [e1, Option.bind_some, e_ck0, bindp]
      · intro G1 S1
        obtain ⟨th, hi, wi, kp, va⟩ := B
        obtain ⟨b1, b2, b3⟩ := (hM a ha).2 hRa
        obtain ⟨B1, e2, m1, m2⟩ := md_begin (G := G1) (S := S1) (N := N) (T := T) (R := R) (U := U) (L := L) (C := C) (H := H) (R0 := tC a) (C0 := tR a) hM
        obtain ⟨B2, m3, m4, e3⟩ := mopT (G := G1) (S := S1) (N := N) (T := T) (R := R) (U := U) (L := L) (C := C) (H := H) (fun n h x => L_X6_turn_35 43 (nI a) n (fun h32 => ck 5 h32 43 <| (f_X6_putAt h32 43 (nI t)).bind fun (h34, v35) => some (h34, v35)) h x) (fun x n k' h y => L_X6_turn_48 43 (nI a) x n k' h y) (fun h32 => ck 5 h32 43 <| (f_X6_putAt h32 43 (nI t)).bind fun (h34, v35) => some (h34, v35))
          (fun x n k h y => ck 5 h 43 <| (f_X6_has h 43 (nI a) x y).bind fun v22 => if v22 = 0 then L_X6_turn_48 43 (nI a) x n k h (y + 1) else ck 5 h 43 <| (f_X6_holds h 43 (nI a) x y).bind fun v26 => ck 5 h 43 <| (f_X6_keep h 43 y x v26).bind fun h29 => L_X6_turn_48 43 (nI a) x n k h29 (y + 1))
          a (tC a) (tR a) ha hRa w1 w4 (tk a) (tv a)
          (fun n h x => by rw [L_X6_turn_35]) (fun x n k' h y => by rw [L_X6_turn_48])
          (fun r c n k' B hr hc hB => by
            obtain ⟨c1, c2, c3⟩ := (hB a ha).2 hRa
            rw [e_ck43, md_has c3 (by omega) (by omega) (by omega), Option.bind_some]
            by_cases q : tk a r c = true
            · rw [if_neg (by rw [q]; decide), if_pos q, e_ck43, md_holds c3 (by omega) c1 c2 w1 w4 w5 w6 (by omega) (by omega), Option.bind_some, e_ck43]
            · rw [if_pos (by rw [show tk a r c = false by simpa using q]; rfl), if_neg q]) m1 m2
        refine ⟨B2, m3, m4.congr (fun r c hr hc => ?_) (fun r c hr hc => ?_), ?_⟩
        · by_cases q : tk a c r = true
          · have := w5 c r hc hr q; simp [q, this.1, this.2]
          · simp [q]
        · by_cases q : tk a c r = true
          · have := w5 c r hc hr q; simp [q, this.1, this.2]
          · simp [q, w6 c r hc hr (by simpa using q)]
        · show f_X6_turn _ 43 (nI a) (nI t) = _
          unfold f_X6_turn
          rw [md_isNumber, h2, Option.bind_some, if_neg bS, e_ck43, md_isTable hM, h1, Option.bind_some, if_neg bS, e_gR43_2, Option.bind_some, e_a46 (by omega), Option.bind_some, e_gR43_1, Option.bind_some, e_a45 (by omega), Option.bind_some, e_ck43]
          show (f_X6_begin _ 43 (wi a) (hi a)).bind _ = _
          rw [show wi a = nI (tC a) from b2, show hi a = nI (tR a) from b1, e2, Option.bind_some]
          refine e3.trans ?_
          rw [e_ck43, bindp]
