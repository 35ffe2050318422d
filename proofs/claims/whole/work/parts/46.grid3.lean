theorem cnt_mono (p : Nat → Bool) {i j : Nat} (h : i ≤ j) : cnt p i ≤ cnt p j := by
  rw [show j = i + (j - i) by omega, cnt_add]; omega
theorem sel_ex {f : Nat → Bool} : ∀ {n j : Nat}, j < cnt f n → ∃ p, p < n ∧ f p = true ∧ cnt f p = j := by
  intro n
  induction n with
  | zero => intro j h; exact absurd h (by simp [cnt])
  | succ n ih =>
    intro j h
    by_cases q : j < cnt f n
    · obtain ⟨p, h1, h2, h3⟩ := ih q
      exact ⟨p, by omega, h2, h3⟩
    · simp only [cnt] at h
      by_cases e : f n = true
      · rw [if_pos e] at h
        exact ⟨n, by omega, e, by omega⟩
      · rw [if_neg e] at h
        omega
theorem cnt_lt {f : Nat → Bool} {p n : Nat} (hp : p < n) (hf : f p = true) : cnt f p < cnt f n := by
  have h1 : cnt f (p + 1) ≤ cnt f n := cnt_mono f (by omega)
  simp only [cnt, if_pos hf] at h1
  omega
theorem lg_eq {x y : Int64} : lg_cmp x y = 0 ↔ x = y := by
  unfold lg_cmp
  by_cases h1 : y < x
  · simp only [if_pos h1]
    constructor
    · intro h; exact absurd h (by decide)
    · intro h; subst h; exact absurd h1 (Int64.lt_irrefl)
  · simp only [if_neg h1]
    by_cases h2 : x = y
    · simp [h2]
    · simp only [if_neg h2]
      constructor
      · intro h; exact absurd h (by decide)
      · intro h; exact absurd h h2
theorem g_bitNumber {h : HP} {n c0 : Nat} (hn : n < 65536) (hc : c0 < 16) (hb : n.testBit c0 = true) : f_X2_bitNumber h (nI n) (nI (cnt (fun i => n.testBit i) c0)) = some (nI c0) := by
  have key := pz_lpf (fun m s i => L_X2_bitNumber_4 h (nI n) m (some 0) s i) (some (nI c0)) c0 (fun i => nI (cnt (fun i => n.testBit i) c0 - cnt (fun i => n.testBit i) i))
    (fun m => by simp only [L_X2_bitNumber_4, if_neg (ge16 hc), pz_hasBit hn hc, hb, bI_t, Option.bind_some, if_neg one_ne, Nat.sub_self, show nI 0 = 0 from rfl, if_true])
    (fun m i hi => by
      have h16 : i < 16 := by omega
      by_cases q : n.testBit i = true
      · have l1 : cnt (fun i => n.testBit i) (i + 1) ≤ cnt (fun i => n.testBit i) c0 := cnt_mono _ (by omega)
        have l2 : cnt (fun i => n.testBit i) (i + 1) = cnt (fun i => n.testBit i) i + 1 := by simp [cnt, q]
        have l3 : cnt (fun i => n.testBit i) c0 ≤ 16 := Nat.le_trans (cnt_le _ _) (by omega)
        simp only [L_X2_bitNumber_4, if_neg (ge16 h16), pz_hasBit hn h16, q, bI_t, Option.bind_some, if_neg one_ne]
        rw [if_neg (nI_ne0 (by omega) (by omega)), sb_m1 (by omega), nI_1, l2, Nat.sub_sub]
      · have q' : n.testBit i = false := by simpa using q
        have l2 : cnt (fun i => n.testBit i) (i + 1) = cnt (fun i => n.testBit i) i := by simp [cnt, q']
        simp only [L_X2_bitNumber_4, if_neg (ge16 h16), pz_hasBit hn h16, q', bI_f, Option.bind_some, if_true, nI_1, l2]) c0 0 FU (by omega) (pz_FU (by omega))
  exact key
theorem h_pl1 {x y : Nat} (h : x < y) (hy : y ≤ 16) : ¬ nI y ≤ nI x := nI_ge h (by omega)
theorem h_pl2 {A y x : Nat} (h1 : y + x ≤ A) (hA : A ≤ 512) : nI x ≤ nI (A - y) := nI_le (by omega) (by omega)
theorem h_pl3 {A y x : Nat} (h1 : y + x ≤ A) : nI (A - y) - nI x = nI (A - (y + x)) := by rw [pk_sub (by omega), Nat.sub_sub]
theorem g_place1 {G : TG} {S : TS} {N : TN} {T : TT} {R : TR} {B : TB} {U : TU} {L : TL} {C : TC} {H : TH} {a r0 c0 m : Nat} {k : Nat → Nat → Bool} {v : Nat → Nat → Int64} (ha : isG a = true) (hg : GC (G.2.2.1 a) (G.2.2.2 a) k v) (hr16 : r0 < 16) (hc16 : c0 < 16) (hk : k r0 c0 = true) (hm1 : G.2.2.1 a r0 = nI m) (bn : f_X2_bitNumber (E G S N T R B U L C H) (nI m) (nI (cnt (k r0) c0)) = some (nI c0)) (A : Nat) (hA : A = ahead k r0 + cnt (k r0) c0) (n : Nat) (hn : r0 < n) : L_X2_placeNumber_4 (E G S N T R B U L C H) a n (some 0) (nI A) (nI 0) = some (nI (16 * r0 + c0)) := by
  have lt : cnt (k r0) c0 < cnt (k r0) 16 := cnt_lt hc16 hk
  have le : cnt (k r0) 16 ≤ 16 := cnt_le _ _
  have la : ahead k r0 ≤ 256 := Nat.le_trans (ahead_le k r0) (by omega)
  have hA5 : A ≤ 512 := by rw [hA]; exact Nat.le_trans (Nat.add_le_add la (Nat.le_of_lt lt)) (Nat.le_trans (Nat.add_le_add_left le 256) (by decide))
  have key := pz_lpf (fun n s i => L_X2_placeNumber_4 (E G S N T R B U L C H) a n (some 0) s i) (some (nI (16 * r0 + c0))) r0 (fun i => nI (A - ahead k i))
    (fun n => by
      have eA : A - ahead k r0 = cnt (k r0) c0 := by rw [hA, Nat.add_sub_cancel_left]
      show L_X2_placeNumber_4 (E G S N T R B U L C H) a (n + 1) (some 0) (nI (A - ahead k r0)) (nI r0) = _
      rw [eA, L_X2_placeNumber_4, if_neg (ge16 hr16), e_gRkc ha, Option.bind_some, e_aK ha hr16, Option.bind_some, (hg.1 r0 hr16).pop, Option.bind_some, if_neg (h_pl1 lt le), Option.bind_some, e_aK ha hr16, Option.bind_some, hm1, bn, Option.bind_some, pz_16])
    (fun n i hi => by
      have h16 : i < 16 := by omega
      have l1 : ahead k (i + 1) ≤ ahead k r0 := by rw [ahead_kf, ahead_kf]; exact cnt_mono _ (by omega)
      have l3 : ahead k i + cnt (k i) 16 ≤ A := Nat.le_trans l1 (by rw [hA]; exact Nat.le_add_right _ _)
      show L_X2_placeNumber_4 (E G S N T R B U L C H) a (n + 1) (some 0) (nI (A - ahead k i)) (nI i) = L_X2_placeNumber_4 (E G S N T R B U L C H) a n (some 0) (nI (A - (ahead k i + cnt (k i) 16))) (nI (i + 1))
      rw [L_X2_placeNumber_4, if_neg (ge16 h16), e_gRkc ha, Option.bind_some, e_aK ha h16, Option.bind_some, (hg.1 i h16).pop, Option.bind_some, if_pos (h_pl2 l3 hA5), h_pl3 l3, nI_1]) r0 0 n (by omega) hn
  have e0 : A - ahead k 0 = A := Nat.sub_zero A
  have key2 : L_X2_placeNumber_4 (E G S N T R B U L C H) a n (some 0) (nI (A - ahead k 0)) (nI 0) = some (nI (16 * r0 + c0)) := key
  rw [e0] at key2
  exact key2
theorem g_place {G : TG} {S : TS} {N : TN} {T : TT} {R : TR} {B : TB} {U : TU} {L : TL} {C : TC} {H : TH} {a p : Nat} {k : Nat → Nat → Bool} {v : Nat → Nat → Int64} (ha : isG a = true) (hg : GC (G.2.2.1 a) (G.2.2.2 a) k v) (hp : p < 256) (hk : kf k p = true) : f_X2_placeNumber (E G S N T R B U L C H) a (nI (cnt (kf k) p)) = some (nI p) := by
  have e0 : p = 16 * (p / 16) + p % 16 := by omega
  have hr16 : p / 16 < 16 := by omega
  have hc16 : p % 16 < 16 := by omega
  obtain ⟨m, hm1, hm2, hm3⟩ := hg.1 (p / 16) hr16
  have bn := g_bitNumber (h := (E G S N T R B U L C H)) hm2 hc16 (by rw [hm3 _ hc16]; exact hk)
  rw [show cnt (fun i => m.testBit i) (p % 16) = cnt (k (p / 16)) (p % 16) from cnt_congr (fun i hi => hm3 i (by omega))] at bn
  have e1 : cnt (kf k) p = ahead k (p / 16) + cnt (k (p / 16)) (p % 16) := by
    rw [ahead_kf, ← cnt_kf k (by omega), ← e0]
  have key := g_place1 ha hg hr16 hc16 hk hm1 bn _ e1 FU (pz_FU (by omega))
  rw [← e0] at key
  unfold f_X2_placeNumber
  exact key
theorem cnt_low {f : Nat → Bool} {c n : Nat} (h : c ≤ n) : cnt (fun i => decide (i < c) && f i) n = cnt f c := by
  rw [show n = c + (n - c) by omega, cnt_add]
  have e1 : cnt (fun i => decide (i < c) && f i) c = cnt f c := cnt_congr (fun i hi => by simp [hi])
  have e2 : ∀ m, cnt (fun i => decide (c + i < c) && f (c + i)) m = 0 := by
    intro m
    induction m with
    | zero => rfl
    | succ m ih => simp only [cnt, ih]; simp; intro h; omega
  rw [e1, e2]
  rfl
theorem g_order {G : TG} {S : TS} {N : TN} {T : TT} {R : TR} {B : TB} {U : TU} {L : TL} {C : TC} {H : TH} {a r c : Nat} {k : Nat → Nat → Bool} {v : Nat → Nat → Int64} (ha : isG a = true) (hg : GC (G.2.2.1 a) (G.2.2.2 a) k v) (hr : r < 16) (hc : c < 16) : f_X2_orderNumber (E G S N T R B U L C H) a (nI r) (nI c) = some (nI (cnt (kf k) (16 * r + c))) := by
  obtain ⟨m, hm1, hm2, hm3⟩ := hg.1 r hr
  have e1 : cnt (kf k) (16 * r + c) = ahead k r + cnt (k r) c := by rw [cnt_kf k (by omega), ahead_kf]
  have e2 : f_X2_columnsOf (E G S N T R B U L C H) a (nI r) = some (nI m) := by
    unfold f_X2_columnsOf
    simp only [pz_line hr, Option.bind_some, if_neg one_ne, e_gRkc ha, e_aK ha hr, hm1]
  have hpw : 2 ^ c < 2 ^ 16 := Nat.pow_lt_pow_right (by decide) hc
  have hp1 : 1 ≤ 2 ^ c := Nat.one_le_two_pow
  have e3 : nI m &&& ((1 : Int32) <<< (nI c &&& 31) - 1) = nI (m % 2 ^ c) := by
    rw [pz_shl1 c (by omega), show (1 : Int32) = nI 1 from rfl, pk_sub hp1, pz_and, Nat.and_two_pow_sub_one_eq_mod]
  have e4 : pop16 (m % 2 ^ c) = cnt (k r) c := by
    unfold pop16
    rw [← cnt_low (f := k r) (n := 16) (by omega)]
    refine cnt_congr (fun i hi => ?_)
    rw [Nat.testBit_mod_two_pow, hm3 i hi]
  have hlt : m % 2 ^ c < 65536 := Nat.lt_of_le_of_lt (Nat.mod_le _ _) hm2
  unfold f_X2_orderNumber
  simp only [pz_line hc, Option.bind_some, if_neg one_ne, e_ckG ha, g_ahead ha hg (show r ≤ 16 by omega), e2, e3, pz_bc hlt, e4, nI_add, e1]
def zk (k : Nat → Nat → Bool) (v : Nat → Nat → Int64) : Nat → Nat → Bool := fun r c => k r c && (v r c == 0)
theorem g_zeros {G : TG} {S : TS} {N : TN} {T : TT} {R : TR} {B : TB} {U : TU} {L : TL} {C : TC} {H : TH} {a : Nat} {k : Nat → Nat → Bool} {v : Nat → Nat → Int64} (ha : isG a = true) (hg : GC (G.2.2.1 a) (G.2.2.2 a) k v) : f_X2_keptZeros (E G S N T R B U L C H) a = some (nI (ahead (zk k v) 16)) := by
  have inner : ∀ r, r < 16 → ∀ (kk : Int32 → Option Int32) (b : Nat), L_X2_keptZeros_12 (E G S N T R B U L C H) a (nI r) FU kk (nI b) (nI 0) = kk (nI (b + cnt (zk k v r) 16)) := by
    intro r hr kk b
    have key := pz_lpf (fun n s i => L_X2_keptZeros_12 (E G S N T R B U L C H) a (nI r) n kk s i) (kk (nI (b + cnt (zk k v r) 16))) 16 (fun i => nI (b + cnt (zk k v r) i))
      (fun n => by simp only [L_X2_keptZeros_12, if_pos ex16])
      (fun n i hi => by
        by_cases q1 : k r i = true
        · by_cases q2 : v r i = 0
          · have e : cnt (zk k v r) (i + 1) = cnt (zk k v r) i + 1 := by simp [cnt, zk, q1, q2]
            simp only [L_X2_keptZeros_12, if_neg (ge16 hi), e_ckG ha, g_keeps ha hg hr hi, g_value ha hg hr hi, q1, bI_t, Option.bind_some, if_neg one_ne, if_pos (lg_eq.mpr q2), nI_1, e, Nat.add_assoc]
          · have e : cnt (zk k v r) (i + 1) = cnt (zk k v r) i := by simp [cnt, zk, q1, q2]
            simp only [L_X2_keptZeros_12, if_neg (ge16 hi), e_ckG ha, g_keeps ha hg hr hi, g_value ha hg hr hi, q1, bI_t, Option.bind_some, if_neg one_ne, if_neg (fun z => q2 (lg_eq.mp z)), nI_1, e]
        · have q1' : k r i = false := by simpa using q1
          have e : cnt (zk k v r) (i + 1) = cnt (zk k v r) i := by simp [cnt, zk, q1']
          simp only [L_X2_keptZeros_12, if_neg (ge16 hi), e_ckG ha, g_keeps ha hg hr hi, q1', bI_f, Option.bind_some, if_true, nI_1, e]) 16 0 FU rfl (pz_FU (by decide))
    exact key
  have key := pz_lpf (fun n s i => L_X2_keptZeros_4 (E G S N T R B U L C H) a n (fun x => some x) s i) (some (nI (ahead (zk k v) 16))) 16 (fun i => nI (ahead (zk k v) i))
    (fun n => by simp only [L_X2_keptZeros_4, if_pos ex16])
    (fun n i hi => by
      have := inner i hi (fun x11 => L_X2_keptZeros_4 (E G S N T R B U L C H) a n (fun x => some x) x11 (nI i + 1)) (ahead (zk k v) i)
      simp only [L_X2_keptZeros_4, if_neg (ge16 hi)]
      exact this.trans (by rw [nI_1]; rfl)) 16 0 FU rfl (pz_FU (by decide))
  exact key
theorem GC.drop {kA : Nat → Int32} {vA : Nat → Int64} {k : Nat → Nat → Bool} {v : Nat → Nat → Int64} (h : GC kA vA k v) {r c : Nat} (hr : r < 16) (hc : c < 16) : GC (upd kA r (kA r &&& ((1 <<< (nI c &&& 31)) ^^^ (-1)))) (vp_updL vA (16 * r + c) 0) (k2 k r c false) (v2 v r c 0) := by
  refine ⟨fun r' hr' => ?_, fun r' c' hr' hc' => ?_⟩
  · by_cases e : r' = r
    · subst e
      obtain ⟨n, h1, h2, h3⟩ := h.1 r' hr'
      refine ⟨n &&& (2 ^ c ^^^ 4294967295), ?_, ?_, fun c' hc' => ?_⟩
      · rw [pk_us, h1, pz_shl1 c (by omega), pz_m1, pz_xor, pz_and]
      · exact Nat.lt_of_le_of_lt Nat.and_le_left h2
      · have e32 : (4294967295 : Nat).testBit c' = true := by
          have : ∀ i, i < 16 → (4294967295 : Nat).testBit i = true := by decide
          exact this c' hc'
        rw [Nat.testBit_and, h3 c' hc', Nat.testBit_xor, Nat.testBit_two_pow, e32]
        by_cases q : c' = c
        · subst q; simp [k2]
        · have : ¬ c = c' := fun z => q z.symm
          simp [k2, q, this]
    · obtain ⟨n, h1, h2, h3⟩ := h.1 r' hr'
      exact ⟨n, by rw [pk_un e]; exact h1, h2, fun c' hc' => by rw [h3 c' hc']; simp [k2, e]⟩
  · by_cases e : r' = r ∧ c' = c
    · obtain ⟨rfl, rfl⟩ := e
      rw [pk_uLs]; simp [v2]
    · have : 16 * r' + c' ≠ 16 * r + c := fun z => e ⟨by omega, by omega⟩
      rw [pk_uLn this, h.2 r' c' hr' hc']; simp [v2, e]
theorem g_drop {rc : Nat → Int32} {cc : Nat → Int32} {kc : Nat → Nat → Int32} {vs : Nat → Nat → Int64} {S : TS} {N : TN} {T : TT} {R : TR} {B : TB} {U : TU} {L : TL} {C : TC} {H : TH} {a r c : Nat} {kA : Nat → Int32} {vA : Nat → Int64} (ha : isG a = true) (hr : r < 16) (hc : c < 16) : f_X2_drop (E (rc, cc, va_up kc a kA, va_up vs a vA) S N T R B U L C H) a (nI r) (nI c) = some (E (rc, cc, va_up kc a (upd kA r (kA r &&& ((1 <<< (nI c &&& 31)) ^^^ (-1)))), va_up vs a (vp_updL vA (16 * r + c) 0)) S N T R B U L C H) := by
  unfold f_X2_drop
  simp only [pz_line hr, pz_line hc, Option.bind_some, if_neg one_ne, e_gRkc ha, e_aK ha hr, e_sK ha hr, va_up_self, bx_uu, e_gRvs ha, pz_16]
  rw [e_sV ha (by omega), Option.bind_some, va_up_self, bx_uu]
theorem dbl_drop {kA : Nat → Int32} {vA : Nat → Int64} {K k0 : Nat → Nat → Bool} {V v0 : Nat → Nat → Int64} {tm : Nat → Nat → Nat} {q r c : Nat} (h : GC kA vA (mixK K k0 tm q) (mixV V v0 tm q)) (hr : r < 16) (hc : c < 16) (ht : tm r c = q) (hu : ∀ r' c', r' < 16 → c' < 16 → tm r' c' = q → r' = r ∧ c' = c) (hK : K r c = false) (hV : V r c = 0) : GC (upd kA r (kA r &&& ((1 <<< (nI c &&& 31)) ^^^ (-1)))) (vp_updL vA (16 * r + c) 0) (mixK K k0 tm (q + 1)) (mixV V v0 tm (q + 1)) := by
  refine (h.drop hr hc).congr (fun r' c' hr' hc' => ?_) (fun r' c' hr' hc' => ?_)
  · by_cases e : r' = r ∧ c' = c
    · obtain ⟨rfl, rfl⟩ := e; simp [mixK, k2, ht, hK]
    · have : tm r' c' ≠ q := fun z => e (hu r' c' hr' hc' z)
      have e2 : (tm r' c' < q + 1) ↔ tm r' c' < q := by omega
      simp only [mixK, k2, if_neg e, e2]
  · by_cases e : r' = r ∧ c' = c
    · obtain ⟨rfl, rfl⟩ := e; simp [mixV, v2, ht, hV]
    · have : tm r' c' ≠ q := fun z => e (hu r' c' hr' hc' z)
      have e2 : (tm r' c' < q + 1) ↔ tm r' c' < q := by omega
      simp only [mixV, v2, if_neg e, e2]
theorem g_dropZeros {rc : Nat → Int32} {cc : Nat → Int32} {kc : Nat → Nat → Int32} {vs : Nat → Nat → Int64} {S : TS} {N : TN} {T : TT} {R : TR} {B : TB} {U : TU} {L : TL} {C : TC} {H : TH} {a : Nat} {k : Nat → Nat → Bool} {v : Nat → Nat → Int64} (ha : isG a = true) (hg : GC (kc a) (vs a) k v) : ∃ kA vA, f_X2_dropZeros (E (rc, cc, kc, vs) S N T R B U L C H) a = some ((E (rc, cc, va_up kc a kA, va_up vs a vA) S N T R B U L C H), nI (ahead (zk k v) 16)) ∧ GC kA vA (fun r c => k r c && !(v r c == 0)) v := by
  obtain ⟨kA, vA, hA, e1⟩ := dbl (fun n h r => L_X2_dropZeros_7 a n (fun h14 => some (h14, nI (ahead (zk k v) 16))) h r) (fun r n k' h c => L_X2_dropZeros_15 a r n k' h c) (fun h14 => some (h14, nI (ahead (zk k v) 16))) (fun kA vA => (E (rc, cc, va_up kc a kA, va_up vs a vA) S N T R B U L C H)) (fun r c => k r c && !(v r c == 0)) k v v (fun r c => 16 * r + c)
    (fun n h => by simp only [L_X2_dropZeros_7, if_pos ex16])
    (fun n h r hr => by simp only [L_X2_dropZeros_7, if_neg (ge16 hr), nI_1]; rfl)
    (fun r n k' h => by simp only [L_X2_dropZeros_15, if_pos ex16])
    (fun r c hr hc => by omega)
    (fun r c n k' kA vA hr hc hg => by
      have vr := g_value (G := (rc, cc, va_up kc a kA, va_up vs a vA)) (S := S) (N := N) (T := T) (R := R) (B := B) (U := U) (L := L) (C := C) (H := H) ha (by simpa only [va_up_self] using hg) hr hc
      have ev : mixV v v (fun r c => 16 * r + c) (16 * r + c) r c = v r c := by simp [mixV]
      rw [ev] at vr
      by_cases q : v r c = 0
      · refine ⟨_, _, dbl_drop hg hr hc rfl (tmI rfl hc) (by simp [q]) q, ?_⟩
        simp only [L_X2_dropZeros_15, if_neg (ge16 hc), e_ckG ha, vr, Option.bind_some, if_pos (lg_eq.mpr q), g_drop ha hr hc, nI_1]
      · refine ⟨kA, vA, dbl_skip hg (tmI rfl hc) (by simp [q]) rfl, ?_⟩
        simp only [L_X2_dropZeros_15, if_neg (ge16 hc), e_ckG ha, vr, Option.bind_some, if_neg (fun z => q (lg_eq.mp z)), nI_1])
    (kc a) (vs a) hg
  refine ⟨kA, vA, ?_, hA⟩
  unfold f_X2_dropZeros
  rw [e_ckG ha, g_zeros ha hg, Option.bind_some]
  rw [upeta, upeta] at e1
  exact e1
