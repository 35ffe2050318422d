/-! blocks of b x b -/
def kbp (b : Nat) (k : Nat → Nat → Bool) (x y p : Nat) : Bool := kf k p && (decide (p / 16 / b = x) && decide (p % 16 / b = y))
def kb (b : Nat) (k : Nat → Nat → Bool) (x y : Nat) : Bool := orJ (kbp b k x y) 256
theorem dv_lt {b r : Nat} (hb : 1 ≤ b) (hr : r < 16) : r / b < 16 := Nat.lt_of_le_of_lt (Nat.div_le_self _ _) hr
theorem g_blocks {rc : Nat → Int32} {cc : Nat → Int32} {kc : Nat → Nat → Int32} {vs : Nat → Nat → Int64} {S : TS} {N : TN} {T : TT} {R : TR} {B : TB} {U : TU} {L : TL} {C : TC} {H : TH} {a p b R0 C0 : Nat} {k1 : Nat → Nat → Bool} {v1 : Nat → Nat → Int64} (ha : isG a = true) (hp : isG p = true) (hpa : p ≠ a) (g1 : GC (kc p) (vs p) k1 v1) (h1 : rc p = nI R0) (h2 : cc p = nI C0) (hR : R0 ≤ 16) (hC : C0 ≤ 16) (hb : 1 ≤ b) (hb4 : b ≤ 4) : ∃ kA vA, f_X2_becomeBlocks (E (rc, cc, kc, vs) S N T R B U L C H) a p (nI b) = some (E (va_up rc a (nI ((R0 + b - 1) / b)), va_up cc a (nI ((C0 + b - 1) / b)), va_up kc a kA, va_up vs a vA) S N T R B U L C H) ∧ GC kA vA (kb b k1) (fun _ _ => 0) := by
  obtain ⟨kA0, vA0, e0, g0⟩ := g_begin (a := a) (rc := rc) (cc := cc) (kc := kc) (vs := vs) (S := S) (N := N) (T := T) (R := R) (B := B) (U := U) (L := L) (C := C) (H := H) ha (nI ((R0 + b - 1) / b)) (nI ((C0 + b - 1) / b))
  obtain ⟨s', ⟨kA', vA', e, hg⟩, e2⟩ := pz_lp (fun m h r => L_X2_becomeBlocks_32 a p (nI b) m (fun h21 => some h21) h r) (fun h21 => some h21) 16
    (fun r h => ∃ kA vA, h = (E (va_up rc a (nI ((R0 + b - 1) / b)), va_up cc a (nI ((C0 + b - 1) / b)), va_up kc a kA, va_up vs a vA) S N T R B U L C H) ∧ GC kA vA (fun x y => orJ (kbp b k1 x y) (16 * r)) (fun _ _ => 0))
    (fun m s _ => by rw [L_X2_becomeBlocks_32, if_pos ex16])
    (fun m r s hr hI => by
      obtain ⟨kA, vA, rfl, hg⟩ := hI
      obtain ⟨s2, ⟨kA2, vA2, e, hg2⟩, e3⟩ := pz_lp (fun m' h c => L_X2_becomeBlocks_41 a p (nI b) (nI r) m' (fun h20 => L_X2_becomeBlocks_32 a p (nI b) m (fun h21 => some h21) h20 (nI (r + 1))) h c) (fun h20 => L_X2_becomeBlocks_32 a p (nI b) m (fun h21 => some h21) h20 (nI (r + 1))) 16
        (fun c h => ∃ kA vA, h = (E (va_up rc a (nI ((R0 + b - 1) / b)), va_up cc a (nI ((C0 + b - 1) / b)), va_up kc a kA, va_up vs a vA) S N T R B U L C H) ∧ GC kA vA (fun x y => orJ (kbp b k1 x y) (16 * r + c)) (fun _ _ => 0))
        (fun m' s _ => by rw [L_X2_becomeBlocks_41, if_pos ex16])
        (fun m' c s hc hI => by
          obtain ⟨kA, vA, rfl, hg⟩ := hI
          have ek : ∀ x y, kbp b k1 x y (16 * r + c) = (k1 r c && (decide (r / b = x) && decide (c / b = y))) := by
            intro x y
            unfold kbp
            rw [kf_at hc, show (16 * r + c) / 16 = r by omega, show (16 * r + c) % 16 = c by omega]
          by_cases q : k1 r c = true
          · refine ⟨_, ⟨_, _, rfl, (hg.put (dv_lt hb hr) (dv_lt hb hc) 0).congr (fun x y _ _ => ?_) (fun x y _ _ => ?_)⟩, ?_⟩
            · show (orJ (kbp b k1 x y) (16 * r + c) || kbp b k1 x y (16 * r + c)) = _
              rw [ek, q]
              unfold k2
              by_cases z : x = r / b ∧ y = c / b
              · obtain ⟨rfl, rfl⟩ := z; simp
              · rw [if_neg z]
                by_cases z1 : r / b = x
                · have z2 : ¬ c / b = y := fun w => z ⟨z1.symm, w.symm⟩
                  simp [z2]
                · simp [z1]
            · unfold v2; split <;> rfl
            · rw [L_X2_becomeBlocks_41, if_neg (ge16 hc), e_ckG hp, g_rdk hp hpa g1 hr hc, Option.bind_some, q, if_neg (by decide), nz_pos (by omega) (by omega), nz_pos (by omega) (by omega), e_ckG ha, pk_div (by omega) (by omega) (by omega), pk_div (by omega) (by omega) (by omega), g_put ha (dv_lt hb hr) (dv_lt hb hc), Option.bind_some, nI_1]
          · have q' : k1 r c = false := by simpa using q
            refine ⟨_, ⟨kA, vA, rfl, hg.congr (fun x y _ _ => ?_) (fun _ _ _ _ => rfl)⟩, ?_⟩
            · show (orJ (kbp b k1 x y) (16 * r + c) || kbp b k1 x y (16 * r + c)) = _
              rw [ek, q']; simp
            · rw [L_X2_becomeBlocks_41, if_neg (ge16 hc), e_ckG hp, g_rdk hp hpa g1 hr hc, Option.bind_some, q', if_pos (by decide), nI_1])
        16 0 FU (E (va_up rc a (nI ((R0 + b - 1) / b)), va_up cc a (nI ((C0 + b - 1) / b)), va_up kc a kA, va_up vs a vA) S N T R B U L C H) rfl (pz_FU (by decide)) ⟨kA, vA, rfl, hg⟩
      subst e
      refine ⟨_, ⟨kA2, vA2, rfl, hg2⟩, ?_⟩
      rw [L_X2_becomeBlocks_32, if_neg (ge16 hr), nI_1]
      exact e3)
    16 0 FU (E (va_up rc a (nI ((R0 + b - 1) / b)), va_up cc a (nI ((C0 + b - 1) / b)), va_up kc a kA0, va_up vs a vA0) S N T R B U L C H) rfl (pz_FU (by decide)) ⟨kA0, vA0, rfl, g0.congr (fun x y _ _ => rfl) (fun _ _ _ _ => rfl)⟩
  subst e
  refine ⟨kA', vA', ?_, hg⟩
  unfold f_X2_becomeBlocks
  have eR : (nI R0 + nI b - 1) / nI b = nI ((R0 + b - 1) / b) := by
    rw [nI_add, show (1 : Int32) = nI 1 from rfl, pk_sub (by omega), pk_div (by omega) (by omega) (by omega)]
  have eC : (nI C0 + nI b - 1) / nI b = nI ((C0 + b - 1) / b) := by
    rw [nI_add, show (1 : Int32) = nI 1 from rfl, pk_sub (by omega), pk_div (by omega) (by omega) (by omega)]
  rw [if_pos (show (1 : Int32) ≤ nI b from nI_le (a := 1) hb (by omega)), e_gIrc hp, Option.bind_some, nz_pos (by omega) (by omega), e_gIcc hp, Option.bind_some, nz_pos (by omega) (by omega), e_ckG ha]
  show ((f_X2_begin _ a ((rc p + nI b - 1) / nI b) ((cc p + nI b - 1) / nI b)).bind _) = _
  rw [h1, h2, eR, eC, e0, Option.bind_some]
  exact e2
theorem kb_in {b R0 C0 : Nat} {k : Nat → Nat → Bool} (hb : 1 ≤ b) (hb4 : b ≤ 4) (hin : ∀ r c, r < 16 → c < 16 → k r c = true → r < R0 ∧ c < C0) : ∀ x y, x < 16 → y < 16 → kb b k x y = true → x < (R0 + b - 1) / b ∧ y < (C0 + b - 1) / b := by
  intro x y _ _ h
  obtain ⟨p, hp, h2⟩ := orJ_true.1 h
  unfold kbp at h2
  simp only [Bool.and_eq_true, decide_eq_true_eq] at h2
  obtain ⟨h3, h4, h5⟩ := h2
  have := hin (p / 16) (p % 16) (by omega) (by omega) h3
  rcases (show b = 1 ∨ b = 2 ∨ b = 3 ∨ b = 4 by omega) with rfl | rfl | rfl | rfl <;> omega
theorem ahead_bd {k : Nat → Nat → Bool} {R0 C0 : Nat} (hR : R0 ≤ 16) (hC : C0 ≤ 16) (hin : ∀ r c, r < 16 → c < 16 → k r c = true → r < R0 ∧ c < C0) : ahead k 16 ≤ R0 * C0 := by
  rw [← ahead_end hR hin]
  have : ∀ m, m ≤ R0 → ahead k m ≤ m * C0 := by
    intro m
    induction m with
    | zero => intro _; simp [ahead]
    | succ m ih =>
      intro h
      have a1 := ih (by omega)
      have a2 : cnt (k m) C0 = cnt (k m) 16 := row_end hC (by omega) hin
      have a3 := cnt_le (k m) C0
      show ahead k m + cnt (k m) 16 ≤ (m + 1) * C0
      rw [Nat.add_mul, Nat.one_mul]
      omega
  exact this R0 (Nat.le_refl _)
theorem blk_bd {b R0 C0 : Nat} {k : Nat → Nat → Bool} (hb : 1 ≤ b) (hb4 : b ≤ 4) (hR : R0 ≤ 16) (hC : C0 ≤ 16) (hin : ∀ r c, r < 16 → c < 16 → k r c = true → r < R0 ∧ c < C0) : (R0 + b - 1) / b ≤ 16 ∧ (C0 + b - 1) / b ≤ 16 ∧ ahead (kb b k) 16 * (b * b) ≤ 324 := by
  have a1 : (R0 + b - 1) / b ≤ 16 := by rcases (show b = 1 ∨ b = 2 ∨ b = 3 ∨ b = 4 by omega) with rfl | rfl | rfl | rfl <;> omega
  have a2 : (C0 + b - 1) / b ≤ 16 := by rcases (show b = 1 ∨ b = 2 ∨ b = 3 ∨ b = 4 by omega) with rfl | rfl | rfl | rfl <;> omega
  refine ⟨a1, a2, ?_⟩
  have a3 := ahead_bd a1 a2 (kb_in hb hb4 hin)
  have a4 : (R0 + b - 1) / b * b ≤ 18 := by rcases (show b = 1 ∨ b = 2 ∨ b = 3 ∨ b = 4 by omega) with rfl | rfl | rfl | rfl <;> omega
  have a5 : (C0 + b - 1) / b * b ≤ 18 := by rcases (show b = 1 ∨ b = 2 ∨ b = 3 ∨ b = 4 by omega) with rfl | rfl | rfl | rfl <;> omega
  have a6 : ahead (kb b k) 16 * (b * b) ≤ (R0 + b - 1) / b * ((C0 + b - 1) / b) * (b * b) := Nat.mul_le_mul_right _ a3
  have a7 : (R0 + b - 1) / b * ((C0 + b - 1) / b) * (b * b) = (R0 + b - 1) / b * b * ((C0 + b - 1) / b * b) := Nat.mul_mul_mul_comm _ _ _ _
  have a8 : (R0 + b - 1) / b * b * ((C0 + b - 1) / b * b) ≤ 18 * 18 := Nat.mul_le_mul a4 a5
  omega
def W3 (b Rb : Nat) (q : Nat → Nat → Bool) (v : Nat → Nat → Int64) (m : Nat) : Int64 := if m < hL Rb q then lN (hdN Rb q m) else vx v 16 16 (nI (sel (kf q) 256 ((m - hL Rb q) / (b * b)) / 16 * b + (m - hL Rb q) % (b * b) / b)) (nI (sel (kf q) 256 ((m - hL Rb q) / (b * b)) % 16 * b + (m - hL Rb q) % (b * b) % b))
theorem c_blocks {G : TG} {S : TS} {N : TN} {T : TT} {R : TR} {B : TB} {U : TU} {L : TL} {C : TC} {H : TH} {a d b Rb m : Nat} {k q : Nat → Nat → Bool} {v w : Nat → Nat → Int64} (ha : isG a = true) (hd : isG d = true) (hg : GC (G.2.2.1 a) (G.2.2.2 a) k v) (hq : GC (G.2.2.1 d) (G.2.2.2 d) q w) (h1 : G.1 d = nI Rb) (hR : Rb ≤ 16) (hb : 1 ≤ b) (hb4 : b ≤ 4) (hbd : ahead q 16 * (b * b) ≤ 324) (hm : m < hL Rb q + ahead q 16 * (b * b)) : f_X0_blocksCell (E G S N T R B U L C H) a d (nI b) (nI m) = some (W3 b Rb q v m) := by
  have hal := ahead_le q 16
  have hl : hL Rb q = Rb + 1 + ahead q 16 := rfl
  have hbb : 1 ≤ b * b ∧ b * b ≤ 16 := ⟨Nat.mul_le_mul hb hb, Nat.mul_le_mul hb4 hb4⟩
  unfold f_X0_blocksCell W3
  rw [c_headLen hd hq h1, Option.bind_some]
  by_cases z : m < hL Rb q
  · have hh : hdN Rb q m < 2 ^ 31 := by
      unfold hdN
      split
      · rename_i z; have := ahead_le q m; omega
      · omega
    rw [if_neg (nI_ge z (by omega)), if_pos z, c_headCell hd hq h1 hR z, Option.bind_some, nI_l hh]
  · have hj : (m - hL Rb q) / (b * b) < ahead q 16 := Nat.div_lt_of_lt_mul (by rw [Nat.mul_comm]; omega)
    have hs := sel_lt hj
    have hml : (m - hL Rb q) % (b * b) < b * b := Nat.mod_lt _ (by omega)
    have m0 : m - hL Rb q < 2 ^ 31 := by omega
    rw [if_pos (nI_le (by omega) (by omega)), if_neg z, if_neg (show ¬ nI b < 1 from nI_nlt (b := 1) hb (by omega)), pk_mul, if_pos (show (1 : Int32) ≤ nI (b * b) from nI_le (a := 1) hbb.1 (by omega)), nz_pos (by omega) (by omega), e_ckG hd, pk_sub (by omega), pk_rem m0 (by omega) (by omega), pk_rem (by omega) (by omega) (by omega), pk_div m0 (by omega) (by omega), pk_div (by omega) (by omega) (by omega), c_place hd hq hj, Option.bind_some, nz_pos (by omega) (by omega), nz_pos (by omega) (by omega), nz_pos (by omega) (by omega), e_ckG ha, r16 (by omega), d16 (by omega), pk_mul, pk_mul, nI_add, nI_add, g_valuex ha hg, Option.bind_some]
/-! the reference's side -/
theorem md_isBlock {G : TG} {S : TS} {N : TN} {T : TT} {R : TR} {B : TB} {U : TU} {L : TL} {C : TC} {H : TH} {t b x y : Nat} {k : Nat → Nat → Bool} {v : Nat → Nat → Int64} (hm : MC B.2.2.2.1 B.2.2.2.2 t k v) (ht : t < 8) (hb : 1 ≤ b) (hb4 : b ≤ 4) (hx : b * x < 16) (hy : b * y < 16) : f_X6_isBlock (E G S N T R B U L C H) 43 (nI t) (nI b) (nI x) (nI y) = some (bI (kb b k x y)) := by
  have rowl : ∀ (r : Nat) (o : Bool) (kk : Int32 → Option Int32), r < 16 → L_X6_isBlock_31 (E G S N T R B U L C H) 43 (nI t) (nI b) (nI y) (nI r) FU kk (bI o) (nI (b * y)) = kk (bI (o || orJ (fun j => k r (b * y + j)) (min b (16 - b * y)))) := by
    intro r o kk hr
    have key := pz_lpfo (fun n s l => L_X6_isBlock_31 (E G S N T R B U L C H) 43 (nI t) (nI b) (nI y) (nI r) n kk s l) (kk (bI (o || orJ (fun j => k r (b * y + j)) (min b (16 - b * y))))) (b * y) (min b (16 - b * y)) (fun j => bI (o || orJ (fun j => k r (b * y + j)) j))
      (fun n => by
        rw [L_X6_isBlock_31, pk_mul, nI_add]
        by_cases q : b ≤ 16 - b * y
        · rw [if_pos (nI_le (by omega) (by omega))]
        · by_cases q2 : nI (b * y + b) ≤ nI (b * y + min b (16 - b * y))
          · rw [if_pos q2]
          · rw [if_neg q2, if_pos (show (16 : Int32) ≤ nI (b * y + min b (16 - b * y)) from nI_le (a := 16) (by omega) (by omega))])
      (fun n j hj => by
        rw [L_X6_isBlock_31, pk_mul, nI_add, if_neg (nI_ge (by omega) (by omega)), if_neg (ge16 (by omega)), nI_1, e_ck43, md_has hm (by omega) hr (by omega), Option.bind_some]
        show _ = L_X6_isBlock_31 (E G S N T R B U L C H) 43 (nI t) (nI b) (nI y) (nI r) n kk (bI (o || (orJ (fun j => k r (b * y + j)) j || k r (b * y + j)))) _
        rw [← Bool.or_assoc]
        cases (o || orJ (fun j => k r (b * y + j)) j) with
        | true => rw [if_neg (by decide)]; rfl
        | false =>
          rw [if_pos (by decide)]
          cases k r (b * y + j) with
          | true => rw [if_neg (by decide)]; rfl
          | false => rw [if_pos (by decide)]; rfl) FU (pz_FU (by omega))
    refine Eq.trans ?_ key
    show _ = L_X6_isBlock_31 (E G S N T R B U L C H) 43 (nI t) (nI b) (nI y) (nI r) FU kk (bI (o || false)) (nI (b * y + 0))
    rw [Bool.or_false]; rfl
  have key := pz_lpfo (fun n s l => L_X6_isBlock_8 (E G S N T R B U L C H) 43 (nI t) (nI b) (nI x) (nI y) n (fun x11 => cz x11 <| some x11) s l) (some (bI (orJ (fun i => orJ (fun j => k (b * x + i) (b * y + j)) (min b (16 - b * y))) (min b (16 - b * x))))) (b * x) (min b (16 - b * x)) (fun i => bI (orJ (fun i => orJ (fun j => k (b * x + i) (b * y + j)) (min b (16 - b * y))) i))
    (fun n => by
      rw [L_X6_isBlock_8, pk_mul, nI_add, cz_bI]
      by_cases q2 : nI (b * x + b) ≤ nI (b * x + min b (16 - b * x))
      · rw [if_pos q2]
      · rw [if_neg q2]
        by_cases q : b ≤ 16 - b * x
        · exact absurd (nI_le (by omega) (by omega)) q2
        · rw [if_pos (show (16 : Int32) ≤ nI (b * x + min b (16 - b * x)) from nI_le (a := 16) (by omega) (by omega))])
    (fun n i hi => by
      rw [L_X6_isBlock_8, pk_mul, nI_add, if_neg (nI_ge (by omega) (by omega)), if_neg (ge16 (by omega)), nI_1, pk_mul, rowl _ _ _ (by omega)]
      rfl) FU (pz_FU (by omega))
  have e : kb b k x y = orJ (fun i => orJ (fun j => k (b * x + i) (b * y + j)) (min b (16 - b * y))) (min b (16 - b * x)) := by
    have h1 : kb b k x y = true ↔ orJ (fun i => orJ (fun j => k (b * x + i) (b * y + j)) (min b (16 - b * y))) (min b (16 - b * x)) = true := by
      constructor
      · intro h
        obtain ⟨p, hp, h2⟩ := orJ_true.1 h
        unfold kbp at h2
        simp only [Bool.and_eq_true, decide_eq_true_eq] at h2
        obtain ⟨h3, h4, h5⟩ := h2
        have e1 : b * x ≤ p / 16 ∧ p / 16 < b * x + b := by rcases (show b = 1 ∨ b = 2 ∨ b = 3 ∨ b = 4 by omega) with rfl | rfl | rfl | rfl <;> omega
        have e2 : b * y ≤ p % 16 ∧ p % 16 < b * y + b := by rcases (show b = 1 ∨ b = 2 ∨ b = 3 ∨ b = 4 by omega) with rfl | rfl | rfl | rfl <;> omega
        refine orJ_true.2 ⟨p / 16 - b * x, by omega, orJ_true.2 ⟨p % 16 - b * y, by omega, ?_⟩⟩
        rw [show b * x + (p / 16 - b * x) = p / 16 by omega, show b * y + (p % 16 - b * y) = p % 16 by omega]
        exact h3
      · intro h
        obtain ⟨i, hi, h2⟩ := orJ_true.1 h
        obtain ⟨j, hj, h3⟩ := orJ_true.1 h2
        refine orJ_true.2 ⟨16 * (b * x + i) + (b * y + j), by omega, ?_⟩
        unfold kbp
        have e1 : (16 * (b * x + i) + (b * y + j)) / 16 = b * x + i := by omega
        have e2 : (16 * (b * x + i) + (b * y + j)) % 16 = b * y + j := by omega
        have e3 : (b * x + i) / b = x := by rcases (show b = 1 ∨ b = 2 ∨ b = 3 ∨ b = 4 by omega) with rfl | rfl | rfl | rfl <;> omega
        have e4 : (b * y + j) / b = y := by rcases (show b = 1 ∨ b = 2 ∨ b = 3 ∨ b = 4 by omega) with rfl | rfl | rfl | rfl <;> omega
        rw [kf_at (by omega), e1, e2, e3, e4, h3]; simp
    cases q1 : kb b k x y with
    | true => exact (h1.1 q1).symm
    | false =>
      cases q2 : orJ (fun i => orJ (fun j => k (b * x + i) (b * y + j)) (min b (16 - b * y))) (min b (16 - b * x)) with
      | false => rfl
      | true => rw [h1.2 q2] at q1; cases q1
  rw [e]
  unfold f_X6_isBlock
  rw [pk_mul]
  exact key
