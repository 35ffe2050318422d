theorem GC.empty {kA : Nat → Int32} {vA : Nat → Int64} (h1 : ∀ r, r < 16 → kA r = 0) (h2 : ∀ p, p < 256 → vA p = 0) : GC kA vA (fun _ _ => false) (fun _ _ => 0) :=
  ⟨fun r hr => ⟨0, by rw [h1 r hr]; rfl, by decide, fun c _ => by simp⟩, fun r c hr hc => h2 _ (by omega)⟩
theorem g_begin {rc : Nat → Int32} {cc : Nat → Int32} {kc : Nat → Nat → Int32} {vs : Nat → Nat → Int64} {S : TS} {N : TN} {T : TT} {R : TR} {B : TB} {U : TU} {L : TL} {C : TC} {H : TH} {a : Nat} (ha : isG a = true) (x y : Int32) : ∃ kA vA, f_X2_begin (E (rc, cc, kc, vs) S N T R B U L C H) a x y = some (E (va_up rc a x, va_up cc a y, va_up kc a kA, va_up vs a vA) S N T R B U L C H) ∧ GC kA vA (fun _ _ => false) (fun _ _ => 0) := by
  obtain ⟨s1, ⟨kA, e1, hk⟩, q1⟩ := pz_lp (fun n h i => L_X2_begin_12 a n (fun h6 => L_X2_begin_33 a FU (fun h10 => some h10) h6 0) h i) (fun h6 => L_X2_begin_33 a FU (fun h10 => some h10) h6 0) 16
    (fun i h => ∃ kA, h = (E (va_up rc a x, va_up cc a y, va_up kc a kA, vs) S N T R B U L C H) ∧ ∀ j, j < i → kA j = 0)
    (fun n s _ => by simp only [L_X2_begin_12, if_pos ex16])
    (fun n i s hi hI => by
      obtain ⟨kA, rfl, hk⟩ := hI
      refine ⟨_, ⟨upd kA i 0, rfl, fun j hj => ?_⟩, ?_⟩
      · by_cases e : j = i
        · subst e; exact pk_us
        · rw [pk_un e]; exact hk j (by omega)
      · simp only [L_X2_begin_12, if_neg (ge16 hi), e_gRkc ha, Option.bind_some, e_sK ha hi, va_up_self, bx_uu, nI_1]) 16 0 FU (E (va_up rc a x, va_up cc a y, va_up kc a (kc a), vs) S N T R B U L C H) rfl (pz_FU (by decide)) ⟨kc a, rfl, fun j hj => absurd hj (by omega)⟩
  subst e1
  obtain ⟨s2, ⟨vA, e2, hv⟩, q2⟩ := pz_lp (fun n h i => L_X2_begin_33 a n (fun h10 => some h10) h i) (fun h10 => some h10) 256
    (fun i h => ∃ vA, h = (E (va_up rc a x, va_up cc a y, va_up kc a kA, va_up vs a vA) S N T R B U L C H) ∧ ∀ j, j < i → vA j = 0)
    (fun n s _ => by simp only [L_X2_begin_33, if_pos ex256])
    (fun n i s hi hI => by
      obtain ⟨vA, rfl, hk⟩ := hI
      refine ⟨_, ⟨vp_updL vA i 0, rfl, fun j hj => ?_⟩, ?_⟩
      · by_cases e : j = i
        · subst e; exact pk_uLs
        · rw [pk_uLn e]; exact hk j (by omega)
      · simp only [L_X2_begin_33, if_neg (ge256 hi), e_gRvs ha, Option.bind_some, e_sV ha hi, va_up_self, bx_uu, nI_1]) 256 0 FU (E (va_up rc a x, va_up cc a y, va_up kc a kA, va_up vs a (vs a)) S N T R B U L C H) rfl (pz_FU (by decide)) ⟨vs a, rfl, fun j hj => absurd hj (by omega)⟩
  subst e2
  refine ⟨kA, vA, ?_, GC.empty hk hv⟩
  unfold f_X2_begin
  rw [e_pIrc ha, Option.bind_some, e_pIcc ha, Option.bind_some]
  rw [upeta] at q1 q2
  exact q1.trans q2
theorem tmI {q r c : Nat} (e : q = 16 * r + c) (hc : c < 16) : ∀ r' c', r' < 16 → c' < 16 → 16 * r' + c' = q → r' = r ∧ c' = c := fun r' c' _ _ z => ⟨by omega, by omega⟩
theorem ne_up {α : Type} {f : Nat → α} {a b : Nat} {x : α} (h : b ≠ a) : va_up f a x b = f b := va_up_ne f x h
theorem g_rdk {rc : Nat → Int32} {cc : Nat → Int32} {kc : Nat → Nat → Int32} {vs : Nat → Nat → Int64} {S : TS} {N : TN} {T : TT} {R : TR} {B : TB} {U : TU} {L : TL} {C : TC} {H : TH} {a b r c : Nat} {x y : Int32} {kA : Nat → Int32} {vA : Nat → Int64} {k : Nat → Nat → Bool} {v : Nat → Nat → Int64} (hb : isG b = true) (hne : b ≠ a) (hg : GC (kc b) (vs b) k v) (hr : r < 16) (hc : c < 16) : f_X2_keeps (E (va_up rc a x, va_up cc a y, va_up kc a kA, va_up vs a vA) S N T R B U L C H) b (nI r) (nI c) = some (bI (k r c)) := g_keeps (k := k) (v := v) hb (by simpa only [ne_up hne] using hg) hr hc
theorem g_rdv {rc : Nat → Int32} {cc : Nat → Int32} {kc : Nat → Nat → Int32} {vs : Nat → Nat → Int64} {S : TS} {N : TN} {T : TT} {R : TR} {B : TB} {U : TU} {L : TL} {C : TC} {H : TH} {a b r c : Nat} {x y : Int32} {kA : Nat → Int32} {vA : Nat → Int64} {k : Nat → Nat → Bool} {v : Nat → Nat → Int64} (hb : isG b = true) (hne : b ≠ a) (hg : GC (kc b) (vs b) k v) (hr : r < 16) (hc : c < 16) : f_X2_value (E (va_up rc a x, va_up cc a y, va_up kc a kA, va_up vs a vA) S N T R B U L C H) b (nI r) (nI c) = some (v r c) := g_value (k := k) (v := v) hb (by simpa only [ne_up hne] using hg) hr hc
theorem bI_t : bI true = 1 := rfl
theorem bI_f : bI false = 0 := rfl
theorem g_each {rc : Nat → Int32} {cc : Nat → Int32} {kc : Nat → Nat → Int32} {vs : Nat → Nat → Int64} {S : TS} {N : TN} {T : TT} {R : TR} {B : TB} {U : TU} {L : TL} {C : TC} {H : TH} {a p q : Nat} {k1 k2' : Nat → Nat → Bool} {v1 v2' : Nat → Nat → Int64} (ha : isG a = true) (hp : isG p = true) (hq : isG q = true) (hpa : p ≠ a) (hqa : q ≠ a) (g1 : GC (kc p) (vs p) k1 v1) (g2 : GC (kc q) (vs q) k2' v2') : ∃ kA vA, f_X2_becomeEach (E (rc, cc, kc, vs) S N T R B U L C H) a p q = some (E (va_up rc a (rc p), va_up cc a (cc p), va_up kc a kA, va_up vs a vA) S N T R B U L C H) ∧ GC kA vA (fun r c => k1 r c && k2' r c) (fun r c => if (k1 r c && k2' r c) = true then v1 r c * v2' r c else 0) := by
  obtain ⟨kB, vB, e0, gB⟩ := g_begin (rc := rc) (cc := cc) (kc := kc) (vs := vs) (S := S) (N := N) (T := T) (R := R) (B := B) (U := U) (L := L) (C := C) (H := H) ha (rc p) (cc p)
  obtain ⟨kA, vA, hA, e1⟩ := dbl (fun n h r => L_X2_becomeEach_14 a p q n (fun h26 => some h26) h r) (fun r n k' h c => L_X2_becomeEach_23 a p q r n k' h c) (fun h26 => some h26) (fun kA vA => (E (va_up rc a (rc p), va_up cc a (cc p), va_up kc a kA, va_up vs a vA) S N T R B U L C H)) (fun r c => k1 r c && k2' r c) (fun _ _ => false) (fun r c => if (k1 r c && k2' r c) = true then v1 r c * v2' r c else 0) (fun _ _ => 0) (fun r c => 16 * r + c)
    (fun n h => by simp only [L_X2_becomeEach_14, if_pos ex16])
    (fun n h r hr => by simp only [L_X2_becomeEach_14, if_neg (ge16 hr), nI_1]; rfl)
    (fun r n k' h => by simp only [L_X2_becomeEach_23, if_pos ex16])
    (fun r c hr hc => by omega)
    (fun r c n k' kA vA hr hc hg => by
      by_cases hb : (k1 r c && k2' r c) = true
      · have hb' := hb
        rw [Bool.and_eq_true] at hb'
        refine ⟨_, _, dbl_put hg hr hc rfl (tmI rfl hc) hb, ?_⟩
        simp only [L_X2_becomeEach_23, if_neg (ge16 hc), e_ckG hp, e_ckG hq, e_ckG ha, g_rdk hp hpa g1 hr hc, g_rdk hq hqa g2 hr hc, g_rdv hp hpa g1 hr hc, g_rdv hq hqa g2 hr hc, Option.bind_some, hb'.1, hb'.2, bI_t, if_neg one_ne, g_put ha hr hc, nI_1]
        rfl
      · refine ⟨kA, vA, dbl_skip hg (tmI rfl hc) (by simpa using hb) (by simp [hb]), ?_⟩
        by_cases hk1 : k1 r c = true
        · have hk2 : k2' r c = false := by simpa [hk1] using hb
          simp only [L_X2_becomeEach_23, if_neg (ge16 hc), e_ckG hp, e_ckG hq, g_rdk hp hpa g1 hr hc, g_rdk hq hqa g2 hr hc, Option.bind_some, hk1, hk2, bI_t, bI_f, if_neg one_ne, if_true, nI_1]
        · have hk1' : k1 r c = false := by simpa using hk1
          simp only [L_X2_becomeEach_23, if_neg (ge16 hc), e_ckG hp, g_rdk hp hpa g1 hr hc, Option.bind_some, hk1', bI_f, if_true, nI_1])
    kB vB gB
  refine ⟨kA, vA, ?_, hA⟩
  unfold f_X2_becomeEach
  rw [e_gIrc hp, Option.bind_some, e_gIcc hp, Option.bind_some, e_ckG ha, e0, Option.bind_some]
  exact e1
theorem bI_eq {a b : Bool} : bI a = bI b ↔ a = b := by cases a <;> cases b <;> decide
theorem g_masked {rc : Nat → Int32} {cc : Nat → Int32} {kc : Nat → Nat → Int32} {vs : Nat → Nat → Int64} {S : TS} {N : TN} {T : TT} {R : TR} {B : TB} {U : TU} {L : TL} {C : TC} {H : TH} {a p q : Nat} {b : Bool} {k1 k2' : Nat → Nat → Bool} {v1 v2' : Nat → Nat → Int64} (ha : isG a = true) (hp : isG p = true) (hq : isG q = true) (hpa : p ≠ a) (hqa : q ≠ a) (g1 : GC (kc p) (vs p) k1 v1) (g2 : GC (kc q) (vs q) k2' v2') : ∃ kA vA, f_X2_becomeMasked (E (rc, cc, kc, vs) S N T R B U L C H) a p q (bI b) = some (E (va_up rc a (rc p), va_up cc a (cc p), va_up kc a kA, va_up vs a vA) S N T R B U L C H) ∧ GC kA vA (fun r c => k1 r c && (k2' r c == b)) (fun r c => if (k1 r c && (k2' r c == b)) = true then v1 r c else 0) := by
  obtain ⟨kB, vB, e0, gB⟩ := g_begin (rc := rc) (cc := cc) (kc := kc) (vs := vs) (S := S) (N := N) (T := T) (R := R) (B := B) (U := U) (L := L) (C := C) (H := H) ha (rc p) (cc p)
  obtain ⟨kA, vA, hA, e1⟩ := dbl (fun n h r => L_X2_becomeMasked_15 a p q (bI b) n (fun h26 => some h26) h r) (fun r n k' h c => L_X2_becomeMasked_25 a p q (bI b) r n k' h c) (fun h26 => some h26) (fun kA vA => (E (va_up rc a (rc p), va_up cc a (cc p), va_up kc a kA, va_up vs a vA) S N T R B U L C H)) (fun r c => k1 r c && (k2' r c == b)) (fun _ _ => false) (fun r c => if (k1 r c && (k2' r c == b)) = true then v1 r c else 0) (fun _ _ => 0) (fun r c => 16 * r + c)
    (fun n h => by simp only [L_X2_becomeMasked_15, if_pos ex16])
    (fun n h r hr => by simp only [L_X2_becomeMasked_15, if_neg (ge16 hr), nI_1]; rfl)
    (fun r n k' h => by simp only [L_X2_becomeMasked_25, if_pos ex16])
    (fun r c hr hc => by omega)
    (fun r c n k' kA vA hr hc hg => by
      by_cases hb : (k1 r c && (k2' r c == b)) = true
      · have hb' := hb
        rw [Bool.and_eq_true, beq_iff_eq] at hb'
        refine ⟨_, _, dbl_put hg hr hc rfl (tmI rfl hc) hb, ?_⟩
        simp only [L_X2_becomeMasked_25, if_neg (ge16 hc), e_ckG hp, e_ckG hq, e_ckG ha, g_rdk hp hpa g1 hr hc, g_rdk hq hqa g2 hr hc, g_rdv hp hpa g1 hr hc, Option.bind_some, hb'.1, bI_t, if_neg one_ne, if_pos (bI_eq.mpr hb'.2), g_put ha hr hc, nI_1]
        simp [hb'.2]
      · refine ⟨kA, vA, dbl_skip hg (tmI rfl hc) (by simpa using hb) (by simp [hb]), ?_⟩
        by_cases hk1 : k1 r c = true
        · have hk2 : ¬ k2' r c = b := by simpa [hk1] using hb
          simp only [L_X2_becomeMasked_25, if_neg (ge16 hc), e_ckG hp, e_ckG hq, g_rdk hp hpa g1 hr hc, g_rdk hq hqa g2 hr hc, Option.bind_some, hk1, bI_t, if_neg one_ne, if_neg (fun z => hk2 (bI_eq.mp z)), nI_1]
        · have hk1' : k1 r c = false := by simpa using hk1
          simp only [L_X2_becomeMasked_25, if_neg (ge16 hc), e_ckG hp, g_rdk hp hpa g1 hr hc, Option.bind_some, hk1', bI_f, if_true, nI_1])
    kB vB gB
  refine ⟨kA, vA, ?_, hA⟩
  unfold f_X2_becomeMasked
  rw [e_gIrc hp, Option.bind_some, e_gIcc hp, Option.bind_some, e_ckG ha, e0, Option.bind_some]
  exact e1
theorem tmT {q r c : Nat} (e : q = 16 * r + c) (hc : c < 16) : ∀ r' c', r' < 16 → c' < 16 → 16 * c' + r' = q → r' = c ∧ c' = r := fun r' c' _ _ z => ⟨by omega, by omega⟩
theorem g_turned {rc : Nat → Int32} {cc : Nat → Int32} {kc : Nat → Nat → Int32} {vs : Nat → Nat → Int64} {S : TS} {N : TN} {T : TT} {R : TR} {B : TB} {U : TU} {L : TL} {C : TC} {H : TH} {a p : Nat} {k1 : Nat → Nat → Bool} {v1 : Nat → Nat → Int64} (ha : isG a = true) (hp : isG p = true) (hpa : p ≠ a) (g1 : GC (kc p) (vs p) k1 v1) (hz : ∀ r c, r < 16 → c < 16 → k1 r c = false → v1 r c = 0) : ∃ kA vA, f_X2_becomeTurned (E (rc, cc, kc, vs) S N T R B U L C H) a p = some (E (va_up rc a (cc p), va_up cc a (rc p), va_up kc a kA, va_up vs a vA) S N T R B U L C H) ∧ GC kA vA (fun r c => k1 c r) (fun r c => v1 c r) := by
  obtain ⟨kB, vB, e0, gB⟩ := g_begin (rc := rc) (cc := cc) (kc := kc) (vs := vs) (S := S) (N := N) (T := T) (R := R) (B := B) (U := U) (L := L) (C := C) (H := H) ha (cc p) (rc p)
  obtain ⟨kA, vA, hA, e1⟩ := dbl (fun n h r => L_X2_becomeTurned_14 a p n (fun h26 => some h26) h r) (fun r n k' h c => L_X2_becomeTurned_22 a p r n k' h c) (fun h26 => some h26) (fun kA vA => (E (va_up rc a (cc p), va_up cc a (rc p), va_up kc a kA, va_up vs a vA) S N T R B U L C H)) (fun r c => k1 c r) (fun _ _ => false) (fun r c => v1 c r) (fun _ _ => 0) (fun r c => 16 * c + r)
    (fun n h => by simp only [L_X2_becomeTurned_14, if_pos ex16])
    (fun n h r hr => by simp only [L_X2_becomeTurned_14, if_neg (ge16 hr), nI_1]; rfl)
    (fun r n k' h => by simp only [L_X2_becomeTurned_22, if_pos ex16])
    (fun r c hr hc => by omega)
    (fun r c n k' kA vA hr hc hg => by
      by_cases hb : k1 r c = true
      · refine ⟨_, _, dbl_put hg hc hr rfl (tmT rfl hc) hb, ?_⟩
        simp only [L_X2_becomeTurned_22, if_neg (ge16 hc), e_ckG hp, e_ckG ha, g_rdk hp hpa g1 hr hc, g_rdv hp hpa g1 hr hc, Option.bind_some, hb, bI_t, if_neg one_ne, g_put ha hc hr, nI_1]
      · have hb' : k1 r c = false := by simpa using hb
        refine ⟨kA, vA, dbl_skip hg (tmT rfl hc) hb' (hz r c hr hc hb'), ?_⟩
        simp only [L_X2_becomeTurned_22, if_neg (ge16 hc), e_ckG hp, g_rdk hp hpa g1 hr hc, Option.bind_some, hb', bI_f, if_true, nI_1])
    kB vB gB
  refine ⟨kA, vA, ?_, hA⟩
  unfold f_X2_becomeTurned
  rw [e_gIcc hp, Option.bind_some, e_gIrc hp, Option.bind_some, e_ckG ha, e0, Option.bind_some]
  exact e1
theorem g_addMul {rc : Nat → Int32} {cc : Nat → Int32} {kc : Nat → Nat → Int32} {vs : Nat → Nat → Int64} {S : TS} {N : TN} {T : TT} {R : TR} {B : TB} {U : TU} {L : TL} {C : TC} {H : TH} {a p : Nat} {x : Int64} {kA : Nat → Int32} {vA : Nat → Int64} {k0 k1 : Nat → Nat → Bool} {v0 v1 : Nat → Nat → Int64} {x0 y0 : Int32} (ha : isG a = true) (hp : isG p = true) (hpa : p ≠ a) (g0 : GC kA vA k0 v0) (g1 : GC (kc p) (vs p) k1 v1) : ∃ kA' vA', f_X2_addMultiple (E (va_up rc a x0, va_up cc a y0, va_up kc a kA, va_up vs a vA) S N T R B U L C H) a p x = some (E (va_up rc a x0, va_up cc a y0, va_up kc a kA', va_up vs a vA') S N T R B U L C H) ∧ GC kA' vA' (fun r c => k0 r c || k1 r c) (fun r c => if k1 r c = true then v0 r c + x * v1 r c else v0 r c) := by
  obtain ⟨kA', vA', hA, e1⟩ := dbl (fun n h r => L_X2_addMultiple_3 a p x n (fun h26 => some h26) h r) (fun r n k' h c => L_X2_addMultiple_13 a p x r n k' h c) (fun h26 => some h26) (fun kA vA => (E (va_up rc a x0, va_up cc a y0, va_up kc a kA, va_up vs a vA) S N T R B U L C H)) (fun r c => k0 r c || k1 r c) k0 (fun r c => if k1 r c = true then v0 r c + x * v1 r c else v0 r c) v0 (fun r c => 16 * r + c)
    (fun n h => by simp only [L_X2_addMultiple_3, if_pos ex16])
    (fun n h r hr => by simp only [L_X2_addMultiple_3, if_neg (ge16 hr), nI_1]; rfl)
    (fun r n k' h => by simp only [L_X2_addMultiple_13, if_pos ex16])
    (fun r c hr hc => by omega)
    (fun r c n k' kA vA hr hc hg => by
      by_cases hb : k1 r c = true
      · refine ⟨_, _, dbl_put hg hr hc rfl (tmI rfl hc) (by simp [hb]), ?_⟩
        simp only [L_X2_addMultiple_13, if_neg (ge16 hc), e_ckG hp, e_ckG ha, g_rdk hp hpa g1 hr hc, g_rdv hp hpa g1 hr hc, Option.bind_some, hb, bI_t, if_neg one_ne, g_putSum ha hg hr hc, nI_1]
        simp [mixV]
      · have hb' : k1 r c = false := by simpa using hb
        refine ⟨kA, vA, dbl_skip hg (tmI rfl hc) (by simp [hb']) (by simp [hb']), ?_⟩
        simp only [L_X2_addMultiple_13, if_neg (ge16 hc), e_ckG hp, g_rdk hp hpa g1 hr hc, Option.bind_some, hb', bI_f, if_true, nI_1])
    kA vA g0
  exact ⟨kA', vA', e1, hA⟩
theorem g_prodRows {G : TG} {S : TS} {N : TN} {T : TT} {R : TR} {B : TB} {U : TU} {L : TL} {C : TC} {H : TH} {w b r j : Nat} {kw kb : Nat → Nat → Bool} {vw vb : Nat → Nat → Int64} (hw : isG w = true) (hb : isG b = true) (gw : GC (G.2.2.1 w) (G.2.2.2 w) kw vw) (gb : GC (G.2.2.1 b) (G.2.2.2 b) kb vb) (hr : r < 16) (hj : j < 16) : f_X2_productOfRows (E G S N T R B U L C H) w (nI r) b (nI j) = some (sumJ (fun x => vw r x * vb j x) 16) :=
  pz_lpf (fun n s i => L_X2_productOfRows_6 (E G S N T R B U L C H) w (nI r) b (nI j) n (fun x8 => some x8) s i) _ 16 (fun i => sumJ (fun x => vw r x * vb j x) i)
    (fun n => by simp only [L_X2_productOfRows_6, if_pos ex16])
    (fun n i hi => by simp only [L_X2_productOfRows_6, if_neg (ge16 hi), e_ckG hw, e_ckG hb, g_value hw gw hr hi, g_value hb gb hj hi, Option.bind_some, nI_1, sumJ]) 16 0 FU rfl (pz_FU (by decide))
theorem g_prodCols {G : TG} {S : TS} {N : TN} {T : TT} {R : TR} {B : TB} {U : TU} {L : TL} {C : TC} {H : TH} {w b r j : Nat} {kw kb : Nat → Nat → Bool} {vw vb : Nat → Nat → Int64} (hw : isG w = true) (hb : isG b = true) (gw : GC (G.2.2.1 w) (G.2.2.2 w) kw vw) (gb : GC (G.2.2.1 b) (G.2.2.2 b) kb vb) (hr : r < 16) (hj : j < 16) : f_X2_productOfColumns (E G S N T R B U L C H) w (nI r) b (nI j) = some (sumJ (fun x => vw x r * vb x j) 16) :=
  pz_lpf (fun n s i => L_X2_productOfColumns_6 (E G S N T R B U L C H) w (nI r) b (nI j) n (fun x8 => some x8) s i) _ 16 (fun i => sumJ (fun x => vw x r * vb x j) i)
    (fun n => by simp only [L_X2_productOfColumns_6, if_pos ex16])
    (fun n i hi => by simp only [L_X2_productOfColumns_6, if_neg (ge16 hi), e_ckG hw, e_ckG hb, g_value hw gw hi hr, g_value hb gb hi hj, Option.bind_some, nI_1, sumJ]) 16 0 FU rfl (pz_FU (by decide))
theorem g_rowSum {G : TG} {S : TS} {N : TN} {T : TT} {R : TR} {B : TB} {U : TU} {L : TL} {C : TC} {H : TH} {w r : Nat} {kw : Nat → Nat → Bool} {vw : Nat → Nat → Int64} (hw : isG w = true) (gw : GC (G.2.2.1 w) (G.2.2.2 w) kw vw) (hr : r < 16) : f_X2_rowSum (E G S N T R B U L C H) w (nI r) = some (sumJ (fun x => vw r x) 16) :=
  pz_lpf (fun n s i => L_X2_rowSum_5 (E G S N T R B U L C H) w (nI r) n (fun x8 => some x8) s i) _ 16 (fun i => sumJ (fun x => vw r x) i)
    (fun n => by simp only [L_X2_rowSum_5, if_pos ex16])
    (fun n i hi => by simp only [L_X2_rowSum_5, if_neg (ge16 hi), e_ckG hw, g_value hw gw hr hi, Option.bind_some, nI_1, sumJ]) 16 0 FU rfl (pz_FU (by decide))
theorem g_colSum {G : TG} {S : TS} {N : TN} {T : TT} {R : TR} {B : TB} {U : TU} {L : TL} {C : TC} {H : TH} {w r : Nat} {kw : Nat → Nat → Bool} {vw : Nat → Nat → Int64} (hw : isG w = true) (gw : GC (G.2.2.1 w) (G.2.2.2 w) kw vw) (hr : r < 16) : f_X2_columnSum (E G S N T R B U L C H) w (nI r) = some (sumJ (fun x => vw x r) 16) :=
  pz_lpf (fun n s i => L_X2_columnSum_5 (E G S N T R B U L C H) w (nI r) n (fun x8 => some x8) s i) _ 16 (fun i => sumJ (fun x => vw x r) i)
    (fun n => by simp only [L_X2_columnSum_5, if_pos ex16])
    (fun n i hi => by simp only [L_X2_columnSum_5, if_neg (ge16 hi), e_ckG hw, g_value hw gw hi hr, Option.bind_some, nI_1, sumJ]) 16 0 FU rfl (pz_FU (by decide))
theorem g_slopesL {rc : Nat → Int32} {cc : Nat → Int32} {kc : Nat → Nat → Int32} {vs : Nat → Nat → Int64} {S : TS} {N : TN} {T : TT} {R : TR} {B : TB} {U : TU} {L : TL} {C : TC} {H : TH} {a p q w : Nat} {k1 k2' k3 : Nat → Nat → Bool} {v1 v2' v3 : Nat → Nat → Int64} (ha : isG a = true) (hp : isG p = true) (hq : isG q = true) (hw : isG w = true) (hpa : p ≠ a) (hqa : q ≠ a) (hwa : w ≠ a) (g1 : GC (kc p) (vs p) k1 v1) (g2 : GC (kc q) (vs q) k2' v2') (g3 : GC (kc w) (vs w) k3 v3) : ∃ kA vA, f_X2_becomeSlopesOfLeft (E (rc, cc, kc, vs) S N T R B U L C H) a p q w = some (E (va_up rc a (rc p), va_up cc a (cc p), va_up kc a kA, va_up vs a vA) S N T R B U L C H) ∧ GC kA vA (fun r c => k1 r c) (fun r c => if k1 r c = true then sumJ (fun x => v3 r x * v2' c x) 16 else 0) := by
  obtain ⟨kB, vB, e0, gB⟩ := g_begin (rc := rc) (cc := cc) (kc := kc) (vs := vs) (S := S) (N := N) (T := T) (R := R) (B := B) (U := U) (L := L) (C := C) (H := H) ha (rc p) (cc p)
  obtain ⟨kA, vA, hA, e1⟩ := dbl (fun n h r => L_X2_becomeSlopesOfLeft_15 a p q w n (fun h26 => some h26) h r) (fun r n k' h c => L_X2_becomeSlopesOfLeft_25 a p q w r n k' h c) (fun h26 => some h26) (fun kA vA => (E (va_up rc a (rc p), va_up cc a (cc p), va_up kc a kA, va_up vs a vA) S N T R B U L C H)) (fun r c => k1 r c) (fun _ _ => false) (fun r c => if k1 r c = true then sumJ (fun x => v3 r x * v2' c x) 16 else 0) (fun _ _ => 0) (fun r c => 16 * r + c)
    (fun n h => by simp only [L_X2_becomeSlopesOfLeft_15, if_pos ex16])
    (fun n h r hr => by simp only [L_X2_becomeSlopesOfLeft_15, if_neg (ge16 hr), nI_1]; rfl)
    (fun r n k' h => by simp only [L_X2_becomeSlopesOfLeft_25, if_pos ex16])
    (fun r c hr hc => by omega)
    (fun r c n k' kA vA hr hc hg => by
      have pr := g_prodRows (G := (va_up rc a (rc p), va_up cc a (cc p), va_up kc a kA, va_up vs a vA)) (S := S) (N := N) (T := T) (R := R) (B := B) (U := U) (L := L) (C := C) (H := H) (kw := k3) (vw := v3) (kb := k2') (vb := v2') hw hq (by simpa only [ne_up hwa] using g3) (by simpa only [ne_up hqa] using g2) hr hc
      by_cases hb : k1 r c = true
      · refine ⟨_, _, dbl_put hg hr hc rfl (tmI rfl hc) hb, ?_⟩
        simp only [L_X2_becomeSlopesOfLeft_25, if_neg (ge16 hc), e_ckG hp, e_ckG hw, e_ckG ha, g_rdk hp hpa g1 hr hc, pr, Option.bind_some, hb, bI_t, if_neg one_ne, g_put ha hr hc, nI_1]
        rfl
      · have hb' : k1 r c = false := by simpa using hb
        refine ⟨kA, vA, dbl_skip hg (tmI rfl hc) hb' (by simp [hb']), ?_⟩
        simp only [L_X2_becomeSlopesOfLeft_25, if_neg (ge16 hc), e_ckG hp, g_rdk hp hpa g1 hr hc, Option.bind_some, hb', bI_f, if_true, nI_1])
    kB vB gB
  refine ⟨kA, vA, ?_, hA⟩
  unfold f_X2_becomeSlopesOfLeft
  rw [e_gIrc hp, Option.bind_some, e_gIcc hp, Option.bind_some, e_ckG ha, e0, Option.bind_some]
  exact e1
theorem g_slopesR {rc : Nat → Int32} {cc : Nat → Int32} {kc : Nat → Nat → Int32} {vs : Nat → Nat → Int64} {S : TS} {N : TN} {T : TT} {R : TR} {B : TB} {U : TU} {L : TL} {C : TC} {H : TH} {a p q w : Nat} {k1 k2' k3 : Nat → Nat → Bool} {v1 v2' v3 : Nat → Nat → Int64} (ha : isG a = true) (hp : isG p = true) (hq : isG q = true) (hw : isG w = true) (hpa : p ≠ a) (hqa : q ≠ a) (hwa : w ≠ a) (g1 : GC (kc p) (vs p) k1 v1) (g2 : GC (kc q) (vs q) k2' v2') (g3 : GC (kc w) (vs w) k3 v3) : ∃ kA vA, f_X2_becomeSlopesOfRight (E (rc, cc, kc, vs) S N T R B U L C H) a p q w = some (E (va_up rc a (rc q), va_up cc a (cc q), va_up kc a kA, va_up vs a vA) S N T R B U L C H) ∧ GC kA vA (fun r c => k2' r c) (fun r c => if k2' r c = true then sumJ (fun x => v3 x c * v1 x r) 16 else 0) := by
  obtain ⟨kB, vB, e0, gB⟩ := g_begin (rc := rc) (cc := cc) (kc := kc) (vs := vs) (S := S) (N := N) (T := T) (R := R) (B := B) (U := U) (L := L) (C := C) (H := H) ha (rc q) (cc q)
  obtain ⟨kA, vA, hA, e1⟩ := dbl (fun n h r => L_X2_becomeSlopesOfRight_15 a p q w n (fun h26 => some h26) h r) (fun r n k' h c => L_X2_becomeSlopesOfRight_25 a p q w r n k' h c) (fun h26 => some h26) (fun kA vA => (E (va_up rc a (rc q), va_up cc a (cc q), va_up kc a kA, va_up vs a vA) S N T R B U L C H)) (fun r c => k2' r c) (fun _ _ => false) (fun r c => if k2' r c = true then sumJ (fun x => v3 x c * v1 x r) 16 else 0) (fun _ _ => 0) (fun r c => 16 * r + c)
    (fun n h => by simp only [L_X2_becomeSlopesOfRight_15, if_pos ex16])
    (fun n h r hr => by simp only [L_X2_becomeSlopesOfRight_15, if_neg (ge16 hr), nI_1]; rfl)
    (fun r n k' h => by simp only [L_X2_becomeSlopesOfRight_25, if_pos ex16])
    (fun r c hr hc => by omega)
    (fun r c n k' kA vA hr hc hg => by
      have pr := g_prodCols (G := (va_up rc a (rc q), va_up cc a (cc q), va_up kc a kA, va_up vs a vA)) (S := S) (N := N) (T := T) (R := R) (B := B) (U := U) (L := L) (C := C) (H := H) (kw := k3) (vw := v3) (kb := k1) (vb := v1) hw hp (by simpa only [ne_up hwa] using g3) (by simpa only [ne_up hpa] using g1) hc hr
      by_cases hb : k2' r c = true
      · refine ⟨_, _, dbl_put hg hr hc rfl (tmI rfl hc) hb, ?_⟩
        simp only [L_X2_becomeSlopesOfRight_25, if_neg (ge16 hc), e_ckG hq, e_ckG hw, e_ckG ha, g_rdk hq hqa g2 hr hc, pr, Option.bind_some, hb, bI_t, if_neg one_ne, g_put ha hr hc, nI_1]
        rfl
      · have hb' : k2' r c = false := by simpa using hb
        refine ⟨kA, vA, dbl_skip hg (tmI rfl hc) hb' (by simp [hb']), ?_⟩
        simp only [L_X2_becomeSlopesOfRight_25, if_neg (ge16 hc), e_ckG hq, g_rdk hq hqa g2 hr hc, Option.bind_some, hb', bI_f, if_true, nI_1])
    kB vB gB
  refine ⟨kA, vA, ?_, hA⟩
  unfold f_X2_becomeSlopesOfRight
  rw [e_gIrc hq, Option.bind_some, e_gIcc hq, Option.bind_some, e_ckG ha, e0, Option.bind_some]
  exact e1
