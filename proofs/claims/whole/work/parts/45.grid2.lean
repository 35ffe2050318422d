/-! row by row: addRowMultiple, product, rows -/
def orJ (f : Nat → Bool) : Nat → Bool
  | 0 => false
  | n + 1 => orJ f n || f n
theorem orJ_true {f : Nat → Bool} {n : Nat} : orJ f n = true ↔ ∃ i, i < n ∧ f i = true := by
  induction n with
  | zero => simp [orJ]
  | succ n ih =>
    simp only [orJ, Bool.or_eq_true, ih]
    constructor
    · rintro (⟨i, h1, h2⟩ | h)
      · exact ⟨i, by omega, h2⟩
      · exact ⟨n, by omega, h⟩
    · rintro ⟨i, h1, h2⟩
      by_cases e : i = n
      · subst e; exact Or.inr h2
      · exact Or.inl ⟨i, by omega, h2⟩
theorem orJ_congr {f g : Nat → Bool} {n : Nat} (h : ∀ i, i < n → f i = g i) : orJ f n = orJ g n := by
  induction n with
  | zero => rfl
  | succ n ih => simp only [orJ]; rw [ih (fun i hi => h i (by omega)), h n (by omega)]
theorem orJ_more {f : Nat → Bool} {m n : Nat} (hmn : m ≤ n) (h : ∀ i, m ≤ i → i < n → f i = false) : orJ f n = orJ f m := by
  induction n with
  | zero => rw [show m = 0 by omega]
  | succ n ih =>
    by_cases e : m = n + 1
    · rw [e]
    · simp only [orJ]; rw [ih (by omega) (fun i h1 h2 => h i h1 (by omega)), h n (by omega) (by omega)]; simp
theorem g_addRow {rc : Nat → Int32} {cc : Nat → Int32} {kc : Nat → Nat → Int32} {vs : Nat → Nat → Int64} {S : TS} {N : TN} {T : TT} {R : TR} {B : TB} {U : TU} {L : TL} {C : TC} {H : TH} {a b r j : Nat} {x : Int64} {kA : Nat → Int32} {vA : Nat → Int64} {k kb : Nat → Nat → Bool} {v vb : Nat → Nat → Int64} {x0 y0 : Int32} (ha : isG a = true) (hb : isG b = true) (hba : b ≠ a) (g0 : GC kA vA k v) (gb : GC (kc b) (vs b) kb vb) (hr : r < 16) (hj : j < 16) : ∃ kA' vA', f_X2_addRowMultiple (E (va_up rc a x0, va_up cc a y0, va_up kc a kA, va_up vs a vA) S N T R B U L C H) a (nI r) b (nI j) x = some (E (va_up rc a x0, va_up cc a y0, va_up kc a kA', va_up vs a vA') S N T R B U L C H) ∧ GC kA' vA' (fun r' c => if r' = r then k r' c || kb j c else k r' c) (fun r' c => if r' = r ∧ kb j c = true then v r' c + x * vb j c else v r' c) := by
  obtain ⟨s', ⟨kA', vA', e, hg⟩, e2⟩ := pz_lp (fun n h c => L_X2_addRowMultiple_3 a (nI r) b (nI j) x n (fun h12 => some h12) h c) (fun h12 => some h12) 16
    (fun c h => ∃ kA vA, h = (E (va_up rc a x0, va_up cc a y0, va_up kc a kA, va_up vs a vA) S N T R B U L C H) ∧ GC kA vA (fun r' c' => if r' = r ∧ c' < c then k r' c' || kb j c' else k r' c') (fun r' c' => if (r' = r ∧ c' < c) ∧ kb j c' = true then v r' c' + x * vb j c' else v r' c'))
    (fun n s _ => by simp only [L_X2_addRowMultiple_3, if_pos ex16])
    (fun n c s hc hI => by
      obtain ⟨kA, vA, rfl, hg⟩ := hI
      by_cases hk : kb j c = true
      · have e := g_putSum (rc := va_up rc a x0) (cc := va_up cc a y0) (kc := kc) (vs := vs) (S := S) (N := N) (T := T) (R := R) (B := B) (U := U) (L := L) (C := C) (H := H) ha hg hr hc (x * vb j c)
        simp only [Nat.lt_irrefl, and_false, false_and, if_false] at e
        refine ⟨_, ⟨upd kA r (kA r ||| (1 <<< (nI c &&& 31))), vp_updL vA (16 * r + c) (v r c + x * vb j c), rfl, ?_⟩, ?_⟩
        rotate_left
        · simp only [L_X2_addRowMultiple_3, if_neg (ge16 hc), e_ckG hb, e_ckG ha, g_rdk hb hba gb hj hc, g_rdv hb hba gb hj hc, Option.bind_some, hk, bI_t, if_neg one_ne, e, nI_1]
        · refine (hg.put hr hc _).congr (fun r' c' _ _ => ?_) (fun r' c' _ _ => ?_)
          · by_cases e1 : r' = r
            · subst e1
              by_cases e2 : c' = c
              · subst e2; simp [k2, hk]
              · have : (c' < c + 1) ↔ c' < c := by omega
                simp [k2, e2, this]
            · simp [k2, e1]
          · by_cases e1 : r' = r
            · subst e1
              by_cases e2 : c' = c
              · subst e2; simp [v2, hk]
              · have : (c' < c + 1) ↔ c' < c := by omega
                simp [v2, e2, this]
            · simp [v2, e1]
      · have hk' : kb j c = false := by simpa using hk
        refine ⟨_, ⟨kA, vA, rfl, ?_⟩, ?_⟩
        · refine hg.congr (fun r' c' _ _ => ?_) (fun r' c' _ _ => ?_)
          · by_cases e2 : c' = c
            · subst e2; simp [hk']
            · have : (c' < c + 1) ↔ c' < c := by omega
              simp [this]
          · by_cases e2 : c' = c
            · subst e2; simp [hk']
            · have : (c' < c + 1) ↔ c' < c := by omega
              simp [this]
        · simp only [L_X2_addRowMultiple_3, if_neg (ge16 hc), e_ckG hb, g_rdk hb hba gb hj hc, Option.bind_some, hk', bI_f, if_true, nI_1]) 16 0 FU (E (va_up rc a x0, va_up cc a y0, va_up kc a kA, va_up vs a vA) S N T R B U L C H) rfl (pz_FU (by decide)) ⟨kA, vA, rfl, g0.congr (fun r' c' _ _ => by simp) (fun r' c' _ _ => by simp)⟩
  subst e
  refine ⟨kA', vA', e2, hg.congr (fun r' c' _ hc' => ?_) (fun r' c' _ hc' => ?_)⟩
  · simp [hc']
  · simp [hc']
theorem g_product {rc : Nat → Int32} {cc : Nat → Int32} {kc : Nat → Nat → Int32} {vs : Nat → Nat → Int64} {S : TS} {N : TN} {T : TT} {R : TR} {B : TB} {U : TU} {L : TL} {C : TC} {H : TH} {a p q : Nat} {k1 k2' : Nat → Nat → Bool} {v1 v2' : Nat → Nat → Int64} (ha : isG a = true) (hp : isG p = true) (hq : isG q = true) (hpa : p ≠ a) (hqa : q ≠ a) (g1 : GC (kc p) (vs p) k1 v1) (g2 : GC (kc q) (vs q) k2' v2') : ∃ kA vA, f_X2_becomeProduct (E (rc, cc, kc, vs) S N T R B U L C H) a p q = some (E (va_up rc a (rc p), va_up cc a (cc q), va_up kc a kA, va_up vs a vA) S N T R B U L C H) ∧ GC kA vA (fun r c => orJ (fun j => k1 r j && k2' j c) 16) (fun r c => sumJ (fun j => if (k1 r j && k2' j c) = true then v1 r j * v2' j c else 0) 16) := by
  obtain ⟨kB, vB, e0, gB⟩ := g_begin (rc := rc) (cc := cc) (kc := kc) (vs := vs) (S := S) (N := N) (T := T) (R := R) (B := B) (U := U) (L := L) (C := C) (H := H) ha (rc p) (cc q)
  have inner : ∀ r, r < 16 → ∀ (k' : HP → Option HP) kA vA, GC kA vA (fun r' c => if r' < r then orJ (fun j => k1 r' j && k2' j c) 16 else false) (fun r' c => if r' < r then sumJ (fun j => if (k1 r' j && k2' j c) = true then v1 r' j * v2' j c else 0) 16 else 0) →
      ∃ kA' vA', GC kA' vA' (fun r' c => if r' < r + 1 then orJ (fun j => k1 r' j && k2' j c) 16 else false) (fun r' c => if r' < r + 1 then sumJ (fun j => if (k1 r' j && k2' j c) = true then v1 r' j * v2' j c else 0) 16 else 0) ∧ L_X2_becomeProduct_23 a p q (nI r) FU k' (E (va_up rc a (rc p), va_up cc a (cc q), va_up kc a kA, va_up vs a vA) S N T R B U L C H) (nI 0) = k' (E (va_up rc a (rc p), va_up cc a (cc q), va_up kc a kA', va_up vs a vA') S N T R B U L C H) := by
    intro r hr k' kA vA hg0
    obtain ⟨s', ⟨kA', vA', e, hg⟩, e2⟩ := pz_lp (fun n h c => L_X2_becomeProduct_23 a p q (nI r) n k' h c) k' 16
      (fun j0 h => ∃ kA vA, h = (E (va_up rc a (rc p), va_up cc a (cc q), va_up kc a kA, va_up vs a vA) S N T R B U L C H) ∧ GC kA vA (fun r' c => if r' < r then orJ (fun j => k1 r' j && k2' j c) 16 else if r' = r then orJ (fun j => k1 r' j && k2' j c) j0 else false) (fun r' c => if r' < r then sumJ (fun j => if (k1 r' j && k2' j c) = true then v1 r' j * v2' j c else 0) 16 else if r' = r then sumJ (fun j => if (k1 r' j && k2' j c) = true then v1 r' j * v2' j c else 0) j0 else 0))
      (fun n s _ => by simp only [L_X2_becomeProduct_23, if_pos ex16])
      (fun n j s hj hI => by
        obtain ⟨kA, vA, rfl, hg⟩ := hI
        by_cases hk : k1 r j = true
        · obtain ⟨kC, vC, e3, g3⟩ := g_addRow (rc := rc) (cc := cc) (S := S) (N := N) (T := T) (R := R) (B := B) (U := U) (L := L) (C := C) (H := H) (x0 := rc p) (y0 := cc q) (x := v1 r j) ha hq hqa hg g2 hr hj
          refine ⟨_, ⟨kC, vC, rfl, g3.congr (fun r' c' _ _ => ?_) (fun r' c' _ _ => ?_)⟩, ?_⟩
          · by_cases e1 : r' = r
            · subst e1; simp [orJ, hk]
            · simp [e1]
          · by_cases e1 : r' = r
            · subst e1
              by_cases hb : k2' j c' = true
              · simp [sumJ, hk, hb]
              · simp [sumJ, hk, hb]
            · simp [e1]
          · simp only [L_X2_becomeProduct_23, if_neg (ge16 hj), e_ckG hp, e_ckG ha, g_rdk hp hpa g1 hr hj, g_rdv hp hpa g1 hr hj, Option.bind_some, hk, bI_t, if_neg one_ne, e3, nI_1]
        · have hk' : k1 r j = false := by simpa using hk
          refine ⟨_, ⟨kA, vA, rfl, hg.congr (fun r' c' _ _ => ?_) (fun r' c' _ _ => ?_)⟩, ?_⟩
          · by_cases e1 : r' = r
            · subst e1; simp [orJ, hk']
            · simp [e1]
          · by_cases e1 : r' = r
            · subst e1; simp [sumJ, hk']
            · simp [e1]
          · simp only [L_X2_becomeProduct_23, if_neg (ge16 hj), e_ckG hp, g_rdk hp hpa g1 hr hj, Option.bind_some, hk', bI_f, if_true, nI_1]) 16 0 FU (E (va_up rc a (rc p), va_up cc a (cc q), va_up kc a kA, va_up vs a vA) S N T R B U L C H) rfl (pz_FU (by decide)) ⟨kA, vA, rfl, hg0.congr (fun r' c' _ _ => by simp [orJ]) (fun r' c' _ _ => by simp [sumJ])⟩
    subst e
    refine ⟨kA', vA', hg.congr (fun r' c' _ _ => ?_) (fun r' c' _ _ => ?_), e2⟩
    · by_cases e1 : r' < r
      · simp [e1, show r' < r + 1 by omega]
      · by_cases e3 : r' = r
        · subst e3; simp
        · simp [e1, e3, show ¬ r' < r + 1 by omega]
    · by_cases e1 : r' < r
      · simp [e1, show r' < r + 1 by omega]
      · by_cases e3 : r' = r
        · subst e3; simp
        · simp [e1, e3, show ¬ r' < r + 1 by omega]
  obtain ⟨s', ⟨kA', vA', e, hg⟩, e2⟩ := pz_lp (fun n h c => L_X2_becomeProduct_14 a p q n (fun h19 => some h19) h c) (fun h19 => some h19) 16
    (fun r h => ∃ kA vA, h = (E (va_up rc a (rc p), va_up cc a (cc q), va_up kc a kA, va_up vs a vA) S N T R B U L C H) ∧ GC kA vA (fun r' c => if r' < r then orJ (fun j => k1 r' j && k2' j c) 16 else false) (fun r' c => if r' < r then sumJ (fun j => if (k1 r' j && k2' j c) = true then v1 r' j * v2' j c else 0) 16 else 0))
    (fun n s _ => by simp only [L_X2_becomeProduct_14, if_pos ex16])
    (fun n r s hr hI => by
      obtain ⟨kA, vA, rfl, hg⟩ := hI
      obtain ⟨kA', vA', h1, h2⟩ := inner r hr (fun h18 => L_X2_becomeProduct_14 a p q n (fun h19 => some h19) h18 (nI (r + 1))) kA vA hg
      refine ⟨_, ⟨kA', vA', rfl, h1⟩, ?_⟩
      rw [← h2]
      simp only [L_X2_becomeProduct_14, if_neg (ge16 hr), nI_1]
      rfl) 16 0 FU (E (va_up rc a (rc p), va_up cc a (cc q), va_up kc a kB, va_up vs a vB) S N T R B U L C H) rfl (pz_FU (by decide)) ⟨kB, vB, rfl, gB.congr (fun r' c' _ _ => by simp) (fun r' c' _ _ => by simp)⟩
  subst e
  refine ⟨kA', vA', ?_, hg.congr (fun r' c' hr' _ => by simp [hr']) (fun r' c' hr' _ => by simp [hr'])⟩
  unfold f_X2_becomeProduct
  rw [e_gIrc hp, Option.bind_some, e_gIcc hq, Option.bind_some, e_ckG ha, e0, Option.bind_some]
  exact e2
theorem g_become {rc : Nat → Int32} {cc : Nat → Int32} {kc : Nat → Nat → Int32} {vs : Nat → Nat → Int64} {S : TS} {N : TN} {T : TT} {R : TR} {B : TB} {U : TU} {L : TL} {C : TC} {H : TH} {a p : Nat} {k1 : Nat → Nat → Bool} {v1 : Nat → Nat → Int64} (ha : isG a = true) (hp : isG p = true) (hpa : p ≠ a) (g1 : GC (kc p) (vs p) k1 v1) : ∃ kA vA, f_X2_become (E (rc, cc, kc, vs) S N T R B U L C H) a p = some (E (va_up rc a (rc p), va_up cc a (cc p), va_up kc a kA, va_up vs a vA) S N T R B U L C H) ∧ GC kA vA k1 v1 := by
  refine ⟨va_cpy (kc p) (kc a) 0 0 16, va_cpy (vs p) (vs a) 0 0 256, ?_, fun r hr => ?_, fun r c hr hc => ?_⟩
  · unfold f_X2_become
    simp only [e_gIrc hp, e_gIcc hp, e_pIrc ha, e_pIcc ha, e_gRkc hp, e_gRkc ha, e_gRvs hp, e_gRvs ha, Option.bind_some, e_cpK hp ha, e_cpV hp ha]
  · rw [pk_cpy_in (by omega) (by omega), show 0 + (r - 0) = r by omega]; exact g1.1 r hr
  · rw [pk_cpy_in (by omega) (by omega), show 0 + (16 * r + c - 0) = 16 * r + c by omega]; exact g1.2 r c hr hc
/-! counting -/
def ahead (k : Nat → Nat → Bool) : Nat → Nat
  | 0 => 0
  | n + 1 => ahead k n + cnt (k n) 16
def kf (k : Nat → Nat → Bool) (p : Nat) : Bool := k (p / 16) (p % 16)
theorem kf_at {k : Nat → Nat → Bool} {r c : Nat} (hc : c < 16) : kf k (16 * r + c) = k r c := by
  unfold kf
  rw [show (16 * r + c) / 16 = r by omega, show (16 * r + c) % 16 = c by omega]
theorem cnt_add (p : Nat → Bool) (m : Nat) : ∀ n, cnt p (m + n) = cnt p m + cnt (fun i => p (m + i)) n := by
  intro n
  induction n with
  | zero => rfl
  | succ n ih => rw [← Nat.add_assoc]; simp only [cnt]; rw [ih]; omega
theorem cnt_kf (k : Nat → Nat → Bool) {r c : Nat} (hc : c ≤ 16) : cnt (kf k) (16 * r + c) = cnt (kf k) (16 * r) + cnt (k r) c := by
  rw [cnt_add]
  congr 1
  exact cnt_congr (fun i hi => kf_at (by omega))
theorem ahead_kf (k : Nat → Nat → Bool) : ∀ r, ahead k r = cnt (kf k) (16 * r) := by
  intro r
  induction r with
  | zero => rfl
  | succ r ih => rw [show 16 * (r + 1) = 16 * r + 16 by omega, cnt_kf k (Nat.le_refl 16), ← ih]; rfl
theorem ahead_le (k : Nat → Nat → Bool) (r : Nat) : ahead k r ≤ 16 * r := by rw [ahead_kf]; exact cnt_le _ _
theorem rowOK.pop {m : Int32} {k : Nat → Bool} (h : rowOK m k) : f_J6_bitCount_0f7a4 m = some (nI (cnt k 16)) := by
  obtain ⟨n, rfl, h2, h3⟩ := h
  rw [pz_bc h2]
  exact congrArg (fun z => some (nI z)) (cnt_congr (fun i hi => h3 i hi))
theorem g_ahead {G : TG} {S : TS} {N : TN} {T : TT} {R : TR} {B : TB} {U : TU} {L : TL} {C : TC} {H : TH} {a r : Nat} {k : Nat → Nat → Bool} {v : Nat → Nat → Int64} (ha : isG a = true) (hg : GC (G.2.2.1 a) (G.2.2.2 a) k v) (hr : r ≤ 16) : f_X2_keptAhead (E G S N T R B U L C H) a (nI r) = some (nI (ahead k r)) := by
  have key := pz_lpf (fun n s i => L_X2_keptAhead_4 (E G S N T R B U L C H) a (nI r) n (fun x => some x) s i) (some (nI (ahead k r))) r (fun i => nI (ahead k i))
    (fun n => by
      by_cases e : r = 16
      · subst e; simp only [L_X2_keptAhead_4, if_pos ex16]
      · simp only [L_X2_keptAhead_4, if_neg (ge16 (show r < 16 by omega)), if_pos (Int32.le_refl (nI r))])
    (fun n i hi => by
      have h16 : i < 16 := by omega
      simp only [L_X2_keptAhead_4, if_neg (ge16 h16), if_neg (nI_ge hi (by omega)), e_gRkc ha, e_aK ha h16, Option.bind_some, (hg.1 i h16).pop, nI_add, nI_1, ahead]) r 0 FU (by omega) (pz_FU (by omega))
  exact key
theorem g_count {G : TG} {S : TS} {N : TN} {T : TT} {R : TR} {B : TB} {U : TU} {L : TL} {C : TC} {H : TH} {a : Nat} {k : Nat → Nat → Bool} {v : Nat → Nat → Int64} (ha : isG a = true) (hg : GC (G.2.2.1 a) (G.2.2.2 a) k v) : f_X2_keptCount (E G S N T R B U L C H) a = some (nI (ahead k 16)) := by
  unfold f_X2_keptCount
  rw [e_ckG ha, show (16 : Int32) = nI 16 from rfl, g_ahead ha hg (Nat.le_refl 16)]
  rfl
