/-! walks -/
def wk (v : Nat → Nat → Int64) (a : Nat) : Nat → Nat → Int64
  | 0 => fun c => if c = a then 1 else 0
  | d + 1 => fun c => sumJ (fun r => wk v a d r * v r c) 16
theorem x_walkOn {G : TG} {S : TS} {N : TN} {T : TT} {gz : Int32} {ar : Nat → Int32} {ne : Nat → Int32} {re : Nat → Int32} {sj : Nat → Nat → Int64} {st : Nat} {nx : Nat} {B : TB} {U : TU} {L : TL} {C : TC} {H : TH} {b : Nat} {k : Nat → Nat → Bool} {v : Nat → Nat → Int64} {p : Nat → Int64} (hb : isG b = true) (hg : GC (G.2.2.1 b) (G.2.2.2 b) k v) (hst : (st = 10 ∧ nx = 11) ∨ (st = 11 ∧ nx = 10)) (hp : ∀ c, c < 16 → sj st c = p c) : ∃ sj', f_X1_walkOn (E G S N T (gz, ar, ne, re, sj, st, nx) B U L C H) 6 b = some (E G S N T (gz, ar, ne, re, sj', nx, st) B U L C H) ∧ ∀ c, c < 16 → sj' nx c = sumJ (fun r => p r * v r c) 16 := by
  have hs : st = 10 ∨ st = 11 := by omega
  have hn : nx = 10 ∨ nx = 11 := by omega
  have hne : st ≠ nx := by omega
  obtain ⟨s', ⟨sj1, e, f1, f2⟩, e1⟩ := pz_lp (fun m h i => L_X1_walkOn_2 6 m (fun h4 => L_X1_walkOn_23 6 b FU (fun h19 => (gR 0 h19 6 4).bind fun v20 => (gR 0 h19 6 5).bind fun v21 => (pR 0 h19 6 4 (some v21)).bind fun h22 => (pR 0 h22 6 5 (some v20)).bind fun h23 => some h23) h4 0) h i) (fun h4 => L_X1_walkOn_23 6 b FU (fun h19 => (gR 0 h19 6 4).bind fun v20 => (gR 0 h19 6 5).bind fun v21 => (pR 0 h19 6 4 (some v21)).bind fun h22 => (pR 0 h22 6 5 (some v20)).bind fun h23 => some h23) h4 0) 16
    (fun i h => ∃ sj', h = E G S N T (gz, ar, ne, re, sj', st, nx) B U L C H ∧ (∀ c, c < 16 → sj' st c = p c) ∧ ∀ c, c < i → sj' nx c = 0)
    (fun m s _ => by rw [L_X1_walkOn_2, if_pos ex16])
    (fun m i s hi hI => by
      obtain ⟨sj', rfl, f1, f2⟩ := hI
      refine ⟨_, ⟨va_up sj' nx (vp_updL (sj' nx) i 0), rfl, fun c hc => ?_, fun c hc => ?_⟩, ?_⟩
      · rw [va_up_ne _ _ hne]; exact f1 c hc
      · rw [va_up_self]
        by_cases e : c = i
        · subst e; exact pk_uLs
        · rw [pk_uLn e]; exact f2 c (by omega)
      · rw [L_X1_walkOn_2, if_neg (ge16 hi), e_gR6_5, Option.bind_some]
        show ((sJ _ nx (nI i) 0).bind _) = _
        rw [e_sL hn hi, Option.bind_some, nI_1])
    16 0 FU (E G S N T (gz, ar, ne, re, sj, st, nx) B U L C H) rfl (pz_FU (by decide)) ⟨sj, rfl, hp, fun c hc => absurd hc (by omega)⟩
  subst e
  obtain ⟨s', ⟨sj2, e, g1, g2⟩, e2⟩ := pz_lp (fun m h i => L_X1_walkOn_23 6 b m (fun h19 => (gR 0 h19 6 4).bind fun v20 => (gR 0 h19 6 5).bind fun v21 => (pR 0 h19 6 4 (some v21)).bind fun h22 => (pR 0 h22 6 5 (some v20)).bind fun h23 => some h23) h i) (fun h19 => (gR 0 h19 6 4).bind fun v20 => (gR 0 h19 6 5).bind fun v21 => (pR 0 h19 6 4 (some v21)).bind fun h22 => (pR 0 h22 6 5 (some v20)).bind fun h23 => some h23) 16
    (fun i h => ∃ sj', h = E G S N T (gz, ar, ne, re, sj', st, nx) B U L C H ∧ (∀ c, c < 16 → sj' st c = p c) ∧ ∀ c, c < 16 → sj' nx c = sumJ (fun r => p r * v r c) i)
    (fun m s _ => by rw [L_X1_walkOn_23, if_pos ex16])
    (fun m i s hi hI => by
      obtain ⟨sj', rfl, f1, f2⟩ := hI
      by_cases z : p i = 0
      · refine ⟨_, ⟨sj', rfl, f1, fun c hc => ?_⟩, ?_⟩
        · rw [f2 c hc]
          show _ = sumJ (fun r => p r * v r c) i + p i * v i c
          rw [z, Int64.zero_mul, Int64.add_zero]
        · rw [L_X1_walkOn_23, if_neg (ge16 hi), e_gR6_4, Option.bind_some]
          show ((aJ _ st (nI i)).bind _) = _
          rw [e_aL hs hi, Option.bind_some]
          show (if lg_cmp (sj' st i) 0 = 0 then _ else _) = _
          rw [f1 i hi, if_pos (lg_eq.2 z), nI_1]
      · obtain ⟨s2, ⟨sj3, e, h1, h2⟩, e3⟩ := pz_lp (fun m' h c => L_X1_walkOn_42 6 b (nI i) m' (fun h18 => L_X1_walkOn_23 6 b m (fun h19 => (gR 0 h19 6 4).bind fun v20 => (gR 0 h19 6 5).bind fun v21 => (pR 0 h19 6 4 (some v21)).bind fun h22 => (pR 0 h22 6 5 (some v20)).bind fun h23 => some h23) h18 (nI (i + 1))) h c) (fun h18 => L_X1_walkOn_23 6 b m (fun h19 => (gR 0 h19 6 4).bind fun v20 => (gR 0 h19 6 5).bind fun v21 => (pR 0 h19 6 4 (some v21)).bind fun h22 => (pR 0 h22 6 5 (some v20)).bind fun h23 => some h23) h18 (nI (i + 1))) 16
          (fun c h => ∃ sj', h = E G S N T (gz, ar, ne, re, sj', st, nx) B U L C H ∧ (∀ c, c < 16 → sj' st c = p c) ∧ ∀ c', c' < 16 → sj' nx c' = sumJ (fun r => p r * v r c') (if c' < c then i + 1 else i))
          (fun m' s _ => by rw [L_X1_walkOn_42, if_pos ex16])
          (fun m' c s hc hI => by
            obtain ⟨sj', rfl, f1, f2⟩ := hI
            have f3 := f2 c hc
            rw [if_neg (by omega)] at f3
            refine ⟨_, ⟨va_up sj' nx (vp_updL (sj' nx) c (sumJ (fun r => p r * v r c) i + p i * v i c)), rfl, fun c' hc' => ?_, fun c' hc' => ?_⟩, ?_⟩
            · rw [va_up_ne _ _ hne]; exact f1 c' hc'
            · rw [va_up_self]
              by_cases e : c' = c
              · subst e; rw [pk_uLs, if_pos (by omega)]; rfl
              · rw [pk_uLn e, f2 c' hc']
                by_cases z2 : c' < c
                · rw [if_pos z2, if_pos (by omega)]
                · rw [if_neg z2, if_neg (by omega)]
            · rw [L_X1_walkOn_42, if_neg (ge16 hc), e_gR6_5, Option.bind_some, e_gR6_4]
              show ((aJ _ nx (nI c)).bind fun v11 => (aJ _ st (nI i)).bind fun v13 => ck 1 _ b <| (f_X2_value _ b (nI i) (nI c)).bind fun v15 => (sJ _ nx (nI c) (v11 + (v13 * v15))).bind fun h17 => L_X1_walkOn_42 6 b (nI i) m' _ h17 (nI c + 1)) = _
              rw [e_aL hn hc, Option.bind_some, e_aL hs hi, Option.bind_some, e_ckG hb, g_value hb hg hi hc, Option.bind_some]
              show ((sJ _ nx (nI c) (sj' nx c + (sj' st i * v i c))).bind _) = _
              rw [f3, f1 i hi, e_sL hn hc, Option.bind_some, nI_1])
          16 0 FU (E G S N T (gz, ar, ne, re, sj', st, nx) B U L C H) rfl (pz_FU (by decide)) ⟨sj', rfl, f1, fun c' hc' => by rw [if_neg (by omega)]; exact f2 c' hc'⟩
        subst e
        refine ⟨_, ⟨sj3, rfl, h1, fun c hc => by have := h2 c hc; rwa [if_pos hc] at this⟩, ?_⟩
        rw [L_X1_walkOn_23, if_neg (ge16 hi), e_gR6_4, Option.bind_some]
        show ((aJ _ st (nI i)).bind _) = _
        rw [e_aL hs hi, Option.bind_some]
        show (if lg_cmp (sj' st i) 0 = 0 then _ else _) = _
        rw [f1 i hi, if_neg (fun y => z (lg_eq.1 y)), nI_1]
        exact e3)
    16 0 FU (E G S N T (gz, ar, ne, re, sj1, st, nx) B U L C H) rfl (pz_FU (by decide)) ⟨sj1, rfl, f1, fun c hc => f2 c hc⟩
  subst e
  refine ⟨sj2, ?_, g2⟩
  unfold f_X1_walkOn
  refine e1.trans (e2.trans ?_)
  show ((gR 0 (E G S N T (gz, ar, ne, re, sj2, st, nx) B U L C H) 6 4).bind _) = _
  rw [e_gR6_4, Option.bind_some, e_gR6_5, Option.bind_some]
  show ((pR 0 _ 6 4 (some nx)).bind fun h22 => (pR 0 h22 6 5 (some st)).bind _) = _
  rw [e_pR6_4, Option.bind_some, e_pR6_5, Option.bind_some]
theorem x_walkSum {G : TG} {S : TS} {N : TN} {T : TT} {gz : Int32} {ar : Nat → Int32} {ne : Nat → Int32} {re : Nat → Int32} {sj : Nat → Nat → Int64} {st : Nat} {nx : Nat} {B : TB} {U : TU} {L : TL} {C : TC} {H : TH} {b i j n : Nat} {k : Nat → Nat → Bool} {v : Nat → Nat → Int64} (hb : isG b = true) (hg : GC (G.2.2.1 b) (G.2.2.2 b) k v) (hst : (st = 10 ∧ nx = 11) ∨ (st = 11 ∧ nx = 10)) (hi : i < 16) (hj : j < 16) (hn : n ≤ 60) : ∃ sj' st' nx', f_X1_walkSum (E G S N T (gz, ar, ne, re, sj, st, nx) B U L C H) 6 b (nI i) (nI j) (nI n) = some (E G S N T (gz, ar, ne, re, sj', st', nx') B U L C H, wk v i n j) ∧ ((st' = 10 ∧ nx' = 11) ∨ (st' = 11 ∧ nx' = 10)) := by
  have hs : st = 10 ∨ st = 11 := by omega
  obtain ⟨s', ⟨sj1, e, f1⟩, e1⟩ := pz_lp (fun m h l => L_X1_walkSum_19 6 (nI i) m (fun h12 => L_X1_walkSum_53 6 b (nI n) FU (fun h18 => (gR 0 h18 6 4).bind fun v19 => (aJ h18 v19 (nI j)).bind fun v20 => some (h18, v20)) h12 0) h l) (fun h12 => L_X1_walkSum_53 6 b (nI n) FU (fun h18 => (gR 0 h18 6 4).bind fun v19 => (aJ h18 v19 (nI j)).bind fun v20 => some (h18, v20)) h12 0) 16
    (fun l h => ∃ sj', h = E G S N T (gz, ar, ne, re, sj', st, nx) B U L C H ∧ ∀ c, c < l → sj' st c = wk v i 0 c)
    (fun m s _ => by rw [L_X1_walkSum_19, if_pos ex16])
    (fun m l s hl hI => by
      obtain ⟨sj', rfl, f1⟩ := hI
      refine ⟨_, ⟨va_up sj' st (vp_updL (sj' st) l (wk v i 0 l)), rfl, fun c hc => ?_⟩, ?_⟩
      · rw [va_up_self]
        by_cases e : c = l
        · subst e; exact pk_uLs
        · rw [pk_uLn e]; exact f1 c (by omega)
      · rw [L_X1_walkSum_19, if_neg (ge16 hl), e_gR6_4, Option.bind_some, nI_1]
        by_cases z : l = i
        · subst z
          rw [if_pos rfl]
          show ((sJ _ st (nI l) 1).bind _) = _
          rw [e_sL hs hl, Option.bind_some, show wk v l 0 l = 1 from if_pos rfl]
        · rw [if_neg (fun y => z ((nI_eq (by omega) (by omega)).1 y))]
          show ((sJ _ st (nI l) 0).bind _) = _
          rw [e_sL hs hl, Option.bind_some, show wk v i 0 l = 0 from if_neg z])
    16 0 FU (E G S N T (gz, ar, ne, re, sj, st, nx) B U L C H) rfl (pz_FU (by decide)) ⟨sj, rfl, fun c hc => absurd hc (by omega)⟩
  subst e
  obtain ⟨s', ⟨sj', st', nx', e, g1, g2⟩, e2⟩ := pz_lp (fun m h l => L_X1_walkSum_53 6 b (nI n) m (fun h18 => (gR 0 h18 6 4).bind fun v19 => (aJ h18 v19 (nI j)).bind fun v20 => some (h18, v20)) h l) (fun h18 => (gR 0 h18 6 4).bind fun v19 => (aJ h18 v19 (nI j)).bind fun v20 => some (h18, v20)) n
    (fun d h => ∃ sj' st' nx', h = E G S N T (gz, ar, ne, re, sj', st', nx') B U L C H ∧ ((st' = 10 ∧ nx' = 11) ∨ (st' = 11 ∧ nx' = 10)) ∧ ∀ c, c < 16 → sj' st' c = wk v i d c)
    (fun m s _ => by
      rw [L_X1_walkSum_53]
      by_cases q : n < 60
      · rw [if_neg (show ¬ (60 : Int32) ≤ nI n from nI_ge q (by decide)), if_pos (Int32.le_refl _)]
      · rw [show n = 60 by omega, if_pos (by decide)])
    (fun m d s hd hI => by
      obtain ⟨sj', st', nx', rfl, g1, g2⟩ := hI
      obtain ⟨sj2, e3, g3⟩ := x_walkOn (G := G) (S := S) (N := N) (T := T) (B := B) (U := U) (L := L) (C := C) (H := H) (gz := gz) (ar := ar) (ne := ne) (re := re) hb hg g1 g2
      refine ⟨_, ⟨sj2, nx', st', rfl, by omega, g3⟩, ?_⟩
      rw [L_X1_walkSum_53, if_neg (show ¬ (60 : Int32) ≤ nI d from nI_ge (b := 60) (by omega) (by decide)), if_neg (nI_ge hd (by omega)), e_ck6, e3, Option.bind_some, nI_1])
    n 0 FU (E G S N T (gz, ar, ne, re, sj1, st, nx) B U L C H) (by omega) (pz_FU (by omega)) ⟨sj1, st, nx, rfl, hst, f1⟩
  subst e
  refine ⟨sj', st', nx', ?_, g1⟩
  unfold f_X1_walkSum
  rw [pz_line hi, Option.bind_some, if_neg one_ne, pz_line hj, Option.bind_some, if_neg one_ne]
  refine e1.trans (e2.trans ?_)
  show ((gR 0 (E G S N T (gz, ar, ne, re, sj', st', nx') B U L C H) 6 4).bind _) = _
  rw [e_gR6_4, Option.bind_some]
  show ((aJ _ st' (nI j)).bind _) = _
  rw [e_aL (by omega) hj, Option.bind_some]
  show some (_, sj' st' j) = _
  rw [g2 j hj]
theorem wk_out {v : Nat → Nat → Int64} {a n : Nat} (ha : a < n) (hv : ∀ r c, r < 16 → c < 16 → ¬ (r < n ∧ c < n) → v r c = 0) : ∀ d c, c < 16 → n ≤ c → wk v a d c = 0 := by
  intro d c hc hn
  cases d with
  | zero => exact if_neg (by omega)
  | succ d => exact sumJ_zero (fun r hr => by rw [hv r c hr hc (by omega)]; exact Int64.mul_zero)
/-- one step of the reference -/
theorem md_walkOn {G : TG} {S : TS} {N : TN} {T : TT} {R : TR} {B : TB} {U : TU} {L : TL} {C : TC} {he : Nat → Int64} {ny : Nat → Int64} {t n a d : Nat} {k : Nat → Nat → Bool} {v : Nat → Nat → Int64} (hm : MC B.2.2.2.1 B.2.2.2.2 t k v) (ht : t < 8) (h1 : B.2.1 t = nI n) (h2 : B.2.2.1 t = nI n) (hn : n ≤ 16) (hin : ∀ r c, r < 16 → c < 16 → k r c = true → r < n ∧ c < n) (hz : ∀ r c, r < 16 → c < 16 → k r c = false → v r c = 0) (ha : a < n) (hp : ∀ c, c < 16 → he c = wk v a d c) (kk : HP → Option (HP × Int64)) : ∃ he' ny', L_X6_walks_105 43 (nI t) FU (fun h44 => L_X6_walks_185 43 (nI t) FU kk h44 0) (E G S N T R B U L C (he, ny)) 0 = kk (E G S N T R B U L C (he', ny')) ∧ ∀ c, c < 16 → he' c = wk v a (d + 1) c := by
  have hv0 : ∀ r c, r < 16 → c < 16 → ¬ (r < n ∧ c < n) → v r c = 0 := by
    intro r c hr hc hh
    cases q : k r c with
    | true => exact absurd (hin r c hr hc q) hh
    | false => exact hz r c hr hc q
  obtain ⟨s', ⟨ny1, e, f1⟩, e1⟩ := pz_lp (fun m h y => L_X6_walks_105 43 (nI t) m (fun h44 => L_X6_walks_185 43 (nI t) FU kk h44 0) h y) (fun h44 => L_X6_walks_185 43 (nI t) FU kk h44 0) n
    (fun y h => ∃ ny', h = E G S N T R B U L C (he, ny') ∧ ∀ c, c < y → ny' c = wk v a (d + 1) c)
    (fun m s hI => by
      obtain ⟨ny', rfl, -⟩ := hI
      rw [L_X6_walks_105, e_gR43_1, Option.bind_some, e_a45 (by omega), Option.bind_some, h1, if_pos (Int32.le_refl _)])
    (fun m y s hy hI => by
      obtain ⟨ny', rfl, f1⟩ := hI
      have hy16 : y < 16 := by omega
      obtain ⟨s2, ⟨ny2, e, g1, g2⟩, e3⟩ := pz_lp (fun m' h x => L_X6_walks_127 43 (nI t) (nI y) m' (fun h43 => L_X6_walks_105 43 (nI t) m (fun h44 => L_X6_walks_185 43 (nI t) FU kk h44 0) h43 (nI (y + 1))) h x) (fun h43 => L_X6_walks_105 43 (nI t) m (fun h44 => L_X6_walks_185 43 (nI t) FU kk h44 0) h43 (nI (y + 1))) n
        (fun x h => ∃ ny', h = E G S N T R B U L C (he, ny') ∧ (∀ c, c < y → ny' c = wk v a (d + 1) c) ∧ ny' y = sumJ (fun r => wk v a d r * v r y) x)
        (fun m' s hI => by
          obtain ⟨ny', rfl, -⟩ := hI
          rw [L_X6_walks_127, e_gR43_1, Option.bind_some, e_a45 (by omega), Option.bind_some, h1, if_pos (Int32.le_refl _)])
        (fun m' x s hx hI => by
          obtain ⟨ny', rfl, g1, g2⟩ := hI
          have hx16 : x < 16 := by omega
          refine ⟨_, ⟨vp_updL ny' y (sumJ (fun r => wk v a d r * v r y) x + wk v a d x * v x y), rfl, fun c hc => by rw [pk_uLn (by omega)]; exact g1 c hc, pk_uLs⟩, ?_⟩
          rw [L_X6_walks_127, e_gR43_1, Option.bind_some, e_a45 (by omega), Option.bind_some, h1, if_neg (nI_ge hx (by omega)), e_gR43_13, Option.bind_some, Option.bind_some, e_a54 hy16, Option.bind_some, e_gR43_12, Option.bind_some, e_a53 hx16, Option.bind_some, e_ck43, md_holds hm (by omega) h1 h2 hn hn hin hz hx16 hy16, Option.bind_some]
          show ((sJ _ 54 (nI y) (ny' y + (he x * v x y))).bind _) = _
          rw [g2, hp x hx16, e_s54 hy16, Option.bind_some, nI_1])
        n 0 FU (E G S N T R B U L C (he, vp_updL ny' y 0)) (by omega) (pz_FU (by omega)) ⟨vp_updL ny' y 0, rfl, fun c hc => by rw [pk_uLn (by omega)]; exact f1 c hc, pk_uLs⟩
      subst e
      refine ⟨_, ⟨ny2, rfl, fun c hc => ?_⟩, ?_⟩
      · by_cases e : c = y
        · subst e
          rw [g2]
          exact (sumJ_more hn (fun r r1 r2 => by rw [hv0 r c r2 hy16 (by omega)]; exact Int64.mul_zero)).symm
        · exact g1 c (by omega)
      · rw [L_X6_walks_105, e_gR43_1, Option.bind_some, e_a45 (by omega), Option.bind_some, h1, if_neg (nI_ge hy (by omega)), e_gR43_13, Option.bind_some, e_s54 hy16, Option.bind_some, nI_1]
        exact e3)
    n 0 FU (E G S N T R B U L C (he, ny)) (by omega) (pz_FU (by omega)) ⟨ny, rfl, fun c hc => absurd hc (by omega)⟩
  subst e
  obtain ⟨s', ⟨he2, e, g1⟩, e2⟩ := pz_lp (fun m h y => L_X6_walks_185 43 (nI t) m kk h y) kk n
    (fun y h => ∃ he', h = E G S N T R B U L C (he', ny1) ∧ ∀ c, c < 16 → he' c = if c < y then wk v a (d + 1) c else wk v a d c)
    (fun m s hI => by
      obtain ⟨he', rfl, -⟩ := hI
      rw [L_X6_walks_185, e_gR43_1, Option.bind_some, e_a45 (by omega), Option.bind_some, h1, if_pos (Int32.le_refl _)])
    (fun m y s hy hI => by
      obtain ⟨he', rfl, g1⟩ := hI
      have hy16 : y < 16 := by omega
      refine ⟨_, ⟨vp_updL he' y (wk v a (d + 1) y), rfl, fun c hc => ?_⟩, ?_⟩
      · by_cases e : c = y
        · subst e; rw [pk_uLs, if_pos (by omega)]
        · rw [pk_uLn e, g1 c hc]
          by_cases z : c < y
          · rw [if_pos z, if_pos (by omega)]
          · rw [if_neg z, if_neg (by omega)]
      · rw [L_X6_walks_185, e_gR43_1, Option.bind_some, e_a45 (by omega), Option.bind_some, h1, if_neg (nI_ge hy (by omega)), e_gR43_12, Option.bind_some, e_gR43_13, Option.bind_some, e_a54 hy16, Option.bind_some]
        show ((sJ _ 53 (nI y) (ny1 y)).bind _) = _
        rw [f1 y hy, e_s53 hy16, Option.bind_some, nI_1])
    n 0 FU (E G S N T R B U L C (he, ny1)) (by omega) (pz_FU (by omega)) ⟨he, rfl, fun c hc => by rw [if_neg (by omega)]; exact hp c hc⟩
  subst e
  refine ⟨he2, ny1, e1.trans e2, fun c hc => ?_⟩
  rw [g1 c hc]
  by_cases z : c < n
  · rw [if_pos z]
  · rw [if_neg z, wk_out ha hv0 d c hc (by omega), wk_out ha hv0 (d + 1) c hc (by omega)]
theorem md_walks {G : TG} {S : TS} {N : TN} {T : TT} {R : TR} {B : TB} {U : TU} {L : TL} {C : TC} {he : Nat → Int64} {ny : Nat → Int64} {t n a j m : Nat} {k : Nat → Nat → Bool} {v : Nat → Nat → Int64} (hm : MC B.2.2.2.1 B.2.2.2.2 t k v) (ht : t < 8) (h1 : B.2.1 t = nI n) (h2 : B.2.2.1 t = nI n) (hn : n ≤ 16) (hin : ∀ r c, r < 16 → c < 16 → k r c = true → r < n ∧ c < n) (hz : ∀ r c, r < 16 → c < 16 → k r c = false → v r c = 0) (ha : a < n) (hj : j < 16) (hm60 : m ≤ 60) : ∃ he' ny', L_X6_walks_61 43 (nI a) FU (fun h24 => L_X6_walks_95 43 (nI t) (nI m) FU (fun h53 => (gR 5 h53 43 12).bind fun v54 => (aJ h53 v54 (nI j)).bind fun v55 => some (h53, v55)) h24 0) (E G S N T R B U L C (he, ny)) 0 = some (E G S N T R B U L C (he', ny'), wk v a m j) := by
  obtain ⟨s', ⟨he1, e, f1⟩, e1⟩ := pz_lp (fun f h l => L_X6_walks_61 43 (nI a) f (fun h24 => L_X6_walks_95 43 (nI t) (nI m) FU (fun h53 => (gR 5 h53 43 12).bind fun v54 => (aJ h53 v54 (nI j)).bind fun v55 => some (h53, v55)) h24 0) h l) (fun h24 => L_X6_walks_95 43 (nI t) (nI m) FU (fun h53 => (gR 5 h53 43 12).bind fun v54 => (aJ h53 v54 (nI j)).bind fun v55 => some (h53, v55)) h24 0) 16
    (fun l h => ∃ he', h = E G S N T R B U L C (he', ny) ∧ ∀ c, c < l → he' c = wk v a 0 c)
    (fun f s _ => by rw [L_X6_walks_61, if_pos ex16])
    (fun f l s hl hI => by
      obtain ⟨he', rfl, f1⟩ := hI
      refine ⟨_, ⟨vp_updL he' l (wk v a 0 l), rfl, fun c hc => ?_⟩, ?_⟩
      · by_cases e : c = l
        · subst e; exact pk_uLs
        · rw [pk_uLn e]; exact f1 c (by omega)
      · rw [L_X6_walks_61, if_neg (ge16 hl), e_gR43_12, Option.bind_some, nI_1]
        by_cases z : l = a
        · subst z
          rw [if_pos rfl, e_s53 hl, Option.bind_some, show wk v l 0 l = 1 from if_pos rfl]
        · rw [if_neg (fun y => z ((nI_eq (by omega) (by omega)).1 y)), e_s53 hl, Option.bind_some, show wk v a 0 l = 0 from if_neg z])
    16 0 FU (E G S N T R B U L C (he, ny)) rfl (pz_FU (by decide)) ⟨he, rfl, fun c hc => absurd hc (by omega)⟩
  subst e
  obtain ⟨s', ⟨he2, ny2, e, g1⟩, e2⟩ := pz_lp (fun f h l => L_X6_walks_95 43 (nI t) (nI m) f (fun h53 => (gR 5 h53 43 12).bind fun v54 => (aJ h53 v54 (nI j)).bind fun v55 => some (h53, v55)) h l) (fun h53 => (gR 5 h53 43 12).bind fun v54 => (aJ h53 v54 (nI j)).bind fun v55 => some (h53, v55)) m
    (fun d h => ∃ he' ny', h = E G S N T R B U L C (he', ny') ∧ ∀ c, c < 16 → he' c = wk v a d c)
    (fun f s _ => by rw [L_X6_walks_95, if_pos (Int32.le_refl _)])
    (fun f d s hd hI => by
      obtain ⟨he', ny', rfl, g1⟩ := hI
      obtain ⟨he3, ny3, e3, g3⟩ := md_walkOn (G := G) (S := S) (N := N) (T := T) (R := R) (U := U) (L := L) (C := C) (he := he') (ny := ny') hm ht h1 h2 hn hin hz ha g1 (fun h52 => L_X6_walks_95 43 (nI t) (nI m) f (fun h53 => (gR 5 h53 43 12).bind fun v54 => (aJ h53 v54 (nI j)).bind fun v55 => some (h53, v55)) h52 (nI (d + 1)))
      refine ⟨_, ⟨he3, ny3, rfl, g3⟩, ?_⟩
      rw [L_X6_walks_95, if_neg (nI_ge hd (by omega)), nI_1]
      exact e3)
    m 0 FU (E G S N T R B U L C (he1, ny)) (by omega) (pz_FU (by omega)) ⟨he1, ny, rfl, f1⟩
  subst e
  refine ⟨he2, ny2, e1.trans (e2.trans ?_)⟩
  rw [e_gR43_12, Option.bind_some, e_a53 hj, Option.bind_some]
  show some (_, he2 j) = _
  rw [g1 j hj]
theorem Rst.wk {N : TN} {T : TT} {R R' : TR} {U : TU} {L : TL} {nT : Nat} {qr qc : Nat → Nat} {qv : Nat → Int64} {nL : Nat} {ql : Nat → Nat} (h : Rst N T R U L nT qr qc qv nL ql) (h' : (R'.2.2.2.2.2.1 = 10 ∧ R'.2.2.2.2.2.2 = 11) ∨ (R'.2.2.2.2.2.1 = 11 ∧ R'.2.2.2.2.2.2 = 10)) : Rst N T R' U L nT qr qc qv nL ql := ⟨h.1, h.2.1, h'⟩
theorem cmd_walks {h : HP} (o : OK h) (x1 x2 x3 x4 : Int32) : S2 h (fun h => f_X5_walks h 0 x1 x2 x3 x4) (fun h => f_X6_walks h 43 x1 x2 x3 x4) := by
  have oo := o
  obtain ⟨G, S, N, T, ⟨gz, ar, ne, re, sj, st, nx⟩, B, U, L, C, ⟨he, ny⟩, g, tR, tC, tk, tv, nT, qr, qc, qv, nL, ql, rfl, hK, hw, hM, hr⟩ := o
  have hst : (st = 10 ∧ nx = 11) ∨ (st = 11 ∧ nx = 10) := hr.2.2
  cases h1 : tix tR x1 with
  | none =>
    refine S2.same (r := 0) oo ?_ ?_
    · show f_X5_walks _ 0 x1 x2 x3 x4 = _
      unfold f_X5_walks
      rw [e_ck0, kt_gridAt hK hw, h1, Option.bind_some]; rfl
    · show f_X6_walks _ 43 x1 x2 x3 x4 = _
      unfold f_X6_walks
      rw [e_ck43, md_isTable hM, h1, Option.bind_some, if_pos bN]
  | some a =>
    obtain ⟨ha, rfl, hRa⟩ := tix_some h1
    obtain ⟨w1, w2⟩ := hw a ha
    obtain ⟨w3, w4, w5, w6, w7⟩ := w2 hRa
    obtain ⟨s1, s2, s3, s4, s5⟩ := hK.1 a ha
    obtain ⟨s6, s7⟩ := s5 hRa
    obtain ⟨b1, b2, b3⟩ := (hM a ha).2 hRa
    have ex : f_X5_walks (E G S N T (gz, ar, ne, re, sj, st, nx) B U L C (he, ny)) 0 (nI a) x2 x3 x4 = if bI (decide (tR a = tC a)) = 0 then some (E G S N T (gz, ar, ne, re, sj, st, nx) B U L C (he, ny), 0) else if bI ((ix (tR a) x2).isSome && (ix (tC a) x3).isSome) = 0 then some (E G S N T (gz, ar, ne, re, sj, st, nx) B U L C (he, ny), 0) else if x4 < 0 then some (E G S N T (gz, ar, ne, re, sj, st, nx) B U L C (he, ny), 0) else if x4 ≤ 60 then (f_X1_walkSum (E G S N T (gz, ar, ne, re, sj, st, nx) B U L C (he, ny)) 6 (g a) x2 x3 x4).bind fun (h17, v18) => some (h17, v18) else some (E G S N T (gz, ar, ne, re, sj, st, nx) B U L C (he, ny), 0) := by
      unfold f_X5_walks
      rw [e_ck0, kt_gridAt hK hw, h1, Option.bind_some, Option.map_some, om_s, e_ckG s2, g_square s2 s4 s6 w1 w4, Option.bind_some, e_ckG s2, g_covers s2 s4 s6, Option.bind_some, e_gR0_2, Option.bind_some, e_ck6]
    have em : ∀ R', f_X6_walks (E G S N T R' B U L C (he, ny)) 43 (nI a) x2 x3 x4 = if bI (decide (tR a = tC a)) = 0 then some (E G S N T R' B U L C (he, ny), 0) else if x2 < 0 then some (E G S N T R' B U L C (he, ny), 0) else if nI (tR a) ≤ x2 then some (E G S N T R' B U L C (he, ny), 0) else if x3 < 0 then some (E G S N T R' B U L C (he, ny), 0) else if nI (tR a) ≤ x3 then some (E G S N T R' B U L C (he, ny), 0) else if x4 < 0 then some (E G S N T R' B U L C (he, ny), 0) else if x4 ≤ 60 then L_X6_walks_61 43 x2 FU (fun h24 => L_X6_walks_95 43 (nI a) x4 FU (fun h53 => (gR 5 h53 43 12).bind fun v54 => (aJ h53 v54 x3).bind fun v55 => some (h53, v55)) h24 0) (E G S N T R' B U L C (he, ny)) 0 else some (E G S N T R' B U L C (he, ny), 0) := by
      intro R'
      unfold f_X6_walks
      simp only [e_ck43, md_isTable hM, h1, Option.bind_some, if_neg bS, md_isGraph (show a ≤ 8 by omega) b1 b2 w1 w4, e_gR43_1, e_a45 (show a < 9 by omega), b1]
    by_cases q : tR a = tC a
    · rw [if_neg (by simp [q, bI])] at ex
      have em2 := fun R' => (em R').trans (if_neg (by simp [q, bI]))
      rw [← q] at ex
      cases e2 : ix (tR a) x2 with
      | none =>
        refine S2.same (r := 0) oo (ex.trans (by rw [e2]; rfl)) ((em2 _).trans ?_)
        rcases ix_none e2 with z | z
        · rw [if_pos z]
        · rw [if_pos z]; split <;> rfl
      | some i =>
        obtain ⟨hi', rfl⟩ := ix_some (by omega) e2
        cases e3 : ix (tR a) x3 with
        | none =>
          refine S2.same (r := 0) oo (ex.trans (by rw [e2, e3]; rfl)) ((em2 _).trans ?_)
          rw [if_neg (nI_pos (by omega)), if_neg (nI_ge hi' (by omega))]
          rcases ix_none e3 with z | z
          · rw [if_pos z]
          · rw [if_pos z]; split <;> rfl
        | some j =>
          obtain ⟨hj', rfl⟩ := ix_some (by omega) e3
          have e6 : bI ((some i : Option Nat).isSome && (some j : Option Nat).isSome) = 1 := rfl
          rw [e2, e3, e6, if_neg one_ne] at ex
          have em3 := fun R' => (em2 R').trans (by rw [if_neg (nI_pos (by omega)), if_neg (nI_ge hi' (by omega)), if_neg (nI_pos (by omega)), if_neg (nI_ge hj' (by omega))])
          by_cases q4 : x4 < 0
          · exact S2.same (r := 0) oo (ex.trans (by rw [if_pos q4])) ((em3 _).trans (by rw [if_pos q4]))
          · by_cases q5 : x4 ≤ 60
            · obtain ⟨m, hm, rfl⟩ := nI_of2 (n := 60) (M := 60) (by decide) q4 q5
              have hin : ∀ r c, r < 16 → c < 16 → tk a r c = true → r < tR a ∧ c < tR a := fun r c hr hc z => by have := w5 r c hr hc z; omega
              obtain ⟨sj', st', nx', e7, g1⟩ := x_walkSum (G := G) (S := S) (N := N) (T := T) (B := B) (U := U) (L := L) (C := C) (H := (he, ny)) (gz := gz) (ar := ar) (ne := ne) (re := re) (sj := sj) (i := i) (j := j) s2 s7 hst (by omega) (by omega) hm
              obtain ⟨he', ny', e8⟩ := md_walks (G := G) (S := S) (N := N) (T := T) (R := (gz, ar, ne, re, sj', st', nx')) (U := U) (L := L) (C := C) (he := he) (ny := ny) (j := j) b3 ha b1 (by rw [b2, q]) w1 hin w6 hi' (by omega) hm
              refine S2.mk (r := wk (tv a) i m j) (E G S N T (gz, ar, ne, re, sj', st', nx') B U L C (he, ny)) (E G S N T (gz, ar, ne, re, sj', st', nx') B U L C (he', ny')) (ex.trans ?_) isE_E ((em3 _).trans ?_) (OK.mk hK hw hM (hr.wk g1))
              · rw [if_neg q4, if_pos q5, e7]; rfl
              · rw [if_neg q4, if_pos q5, e8]
            · exact S2.same (r := 0) oo (ex.trans (by rw [if_neg q4, if_neg q5])) ((em3 _).trans (by rw [if_neg q4, if_neg q5]))
    · exact S2.same (r := 0) oo (ex.trans (if_pos (by simp [q, bI]))) ((em _).trans (if_pos (by simp [q, bI])))
