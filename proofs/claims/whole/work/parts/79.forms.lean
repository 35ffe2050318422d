/-! forms: which place is the j-th that is kept -/
def sel (f : Nat → Bool) (n j : Nat) : Nat := lst (fun p => f p && decide (cnt f p = j)) n
theorem sel_cnt {f : Nat → Bool} {n p : Nat} (hp : p < n) (hf : f p = true) : sel f n (cnt f p) = p := by
  have h1 : ¬ p < sel f n (cnt f p) := by
    intro h
    have := lst_no _ _ p h
    rw [hf] at this
    simp at this
  have h2 := lst_yes (fun q => f q && decide (cnt f q = cnt f p)) n (by show sel f n (cnt f p) < n; omega)
  have h3 : f (sel f n (cnt f p)) = true ∧ cnt f (sel f n (cnt f p)) = cnt f p := by
    have h2' : (f (sel f n (cnt f p)) && decide (cnt f (sel f n (cnt f p)) = cnt f p)) = true := h2
    simpa using h2'
  by_cases e : sel f n (cnt f p) = p
  · exact e
  · have := cnt_lt (f := f) (p := sel f n (cnt f p)) (n := p) (by omega) h3.1
    omega
theorem sel_spec {f : Nat → Bool} {n j : Nat} (h : j < cnt f n) : sel f n j < n ∧ f (sel f n j) = true ∧ cnt f (sel f n j) = j := by
  obtain ⟨p, p1, p2, p3⟩ := sel_ex h
  have := sel_cnt p1 p2
  rw [p3] at this
  rw [this]
  exact ⟨p1, p2, p3⟩
def vf (v : Nat → Nat → Int64) (p : Nat) : Int64 := v (p / 16) (p % 16)
theorem ahead_end {k : Nat → Nat → Bool} {R0 C0 : Nat} (hR : R0 ≤ 16) (hin : ∀ r c, r < 16 → c < 16 → k r c = true → r < R0 ∧ c < C0) : ahead k R0 = ahead k 16 := by
  have : ∀ m, R0 ≤ m → m ≤ 16 → ahead k m = ahead k R0 := by
    intro m
    induction m with
    | zero => intro h _; rw [show R0 = 0 by omega]
    | succ m ih =>
      intro h h2
      by_cases e : R0 = m + 1
      · rw [e]
      · rw [← ih (by omega) (by omega)]
        show ahead k m + cnt (k m) 16 = ahead k m
        have : cnt (k m) 16 ≤ cnt (fun _ => false) 16 := cnt_imp (fun c hc z => by have := (hin m c (by omega) hc z).1; omega)
        have z : cnt (fun _ => false) 16 = 0 := by decide
        omega
  exact (this 16 hR (by omega)).symm
theorem row_end {k : Nat → Nat → Bool} {R0 C0 r : Nat} (hC : C0 ≤ 16) (hr : r < 16) (hin : ∀ r c, r < 16 → c < 16 → k r c = true → r < R0 ∧ c < C0) : cnt (k r) C0 = cnt (k r) 16 := by
  rw [show 16 = C0 + (16 - C0) by omega, cnt_add]
  have : cnt (fun i => k r (C0 + i)) (16 - C0) ≤ cnt (fun _ => false) (16 - C0) := cnt_imp (fun c hc z => by have := (hin r (C0 + c) hr (by omega) z).2; omega)
  have z : ∀ m, cnt (fun _ => false) m = 0 := by
    intro m
    induction m with
    | zero => rfl
    | succ m ih => rw [cnt_step, ih]; rfl
  rw [z] at this
  omega
/-! the head of the form by rows -/
def hdN (R0 : Nat) (k : Nat → Nat → Bool) (m : Nat) : Nat := if m ≤ R0 then ahead k m else sel (kf k) 256 (m - R0 - 1) % 16
def hL (R0 : Nat) (k : Nat → Nat → Bool) : Nat := R0 + 1 + ahead k 16
def W1 (R0 : Nat) (k : Nat → Nat → Bool) (v : Nat → Nat → Int64) (m : Nat) : Int64 := if m < hL R0 k then lN (hdN R0 k m) else vf v (sel (kf k) 256 (m - hL R0 k))
theorem c_place {G : TG} {S : TS} {N : TN} {T : TT} {R : TR} {B : TB} {U : TU} {L : TL} {C : TC} {H : TH} {a j : Nat} {k : Nat → Nat → Bool} {v : Nat → Nat → Int64} (ha : isG a = true) (hg : GC (G.2.2.1 a) (G.2.2.2 a) k v) (hj : j < ahead k 16) : f_X2_placeNumber (E G S N T R B U L C H) a (nI j) = some (nI (sel (kf k) 256 j)) := by
  rw [← ahead256] at hj
  obtain ⟨h1, h2, h3⟩ := sel_spec hj
  have := g_place (S := S) (N := N) (T := T) (R := R) (B := B) (U := U) (L := L) (C := C) (H := H) ha hg h1 h2
  rw [h3] at this
  exact this
theorem c_headLen {G : TG} {S : TS} {N : TN} {T : TT} {R : TR} {B : TB} {U : TU} {L : TL} {C : TC} {H : TH} {a R0 : Nat} {k : Nat → Nat → Bool} {v : Nat → Nat → Int64} (ha : isG a = true) (hg : GC (G.2.2.1 a) (G.2.2.2 a) k v) (h1 : G.1 a = nI R0) : f_X0_headLength (E G S N T R B U L C H) a = some (nI (hL R0 k)) := by
  unfold f_X0_headLength
  rw [e_gIrc ha, Option.bind_some, e_ckG ha, g_count ha hg, Option.bind_some, h1, nI_1, nI_add]; rfl
theorem d16 {x : Nat} (hx : x < 2 ^ 31) : nI x / 16 = nI (x / 16) := by
  rw [show (16 : Int32) = nI 16 from rfl, pk_div hx (by decide) (by decide)]
theorem r16 {x : Nat} (hx : x < 2 ^ 31) : nI x - nI x / 16 * 16 = nI (x % 16) := by
  rw [show (16 : Int32) = nI 16 from rfl, pk_rem hx (by decide) (by decide)]
theorem sel_lt {k : Nat → Nat → Bool} {j : Nat} (hj : j < ahead k 16) : sel (kf k) 256 j < 256 := by
  rw [← ahead256] at hj; exact (sel_spec hj).1
theorem c_headCell {G : TG} {S : TS} {N : TN} {T : TT} {R : TR} {B : TB} {U : TU} {L : TL} {C : TC} {H : TH} {a R0 m : Nat} {k : Nat → Nat → Bool} {v : Nat → Nat → Int64} (ha : isG a = true) (hg : GC (G.2.2.1 a) (G.2.2.2 a) k v) (h1 : G.1 a = nI R0) (hR : R0 ≤ 16) (hm : m < hL R0 k) : f_X0_headCell (E G S N T R B U L C H) a (nI m) = some (nI (hdN R0 k m)) := by
  have hal := ahead_le k 16
  unfold hL at hm
  unfold f_X0_headCell hdN
  rw [e_gIrc ha, Option.bind_some, h1]
  by_cases q : m ≤ R0
  · rw [if_neg (nI_nlt q (by omega)), if_pos q, e_ckG ha, g_ahead ha hg (by omega), Option.bind_some]
  · have hs := sel_lt (k := k) (j := m - R0 - 1) (by omega)
    rw [if_pos (nI_lt (by omega) (by omega)), if_neg q, Option.bind_some, e_ckG ha, pk_sub (by omega), show (1 : Int32) = nI 1 from rfl, pk_sub (by omega), c_place ha hg (by omega), Option.bind_some, r16 (by omega)]
theorem c_val {G : TG} {S : TS} {N : TN} {T : TT} {R : TR} {B : TB} {U : TU} {L : TL} {C : TC} {H : TH} {a p : Nat} {k : Nat → Nat → Bool} {v : Nat → Nat → Int64} (ha : isG a = true) (hg : GC (G.2.2.1 a) (G.2.2.2 a) k v) (hp : p < 256) : f_X2_value (E G S N T R B U L C H) a (nI p / 16) (nI p - nI p / 16 * 16) = some (vf v p) := by
  rw [r16 (by omega), d16 (by omega), g_value ha hg (by omega) (by omega)]; rfl
theorem c_byRows {G : TG} {S : TS} {N : TN} {T : TT} {R : TR} {B : TB} {U : TU} {L : TL} {C : TC} {H : TH} {a R0 m : Nat} {k : Nat → Nat → Bool} {v : Nat → Nat → Int64} (ha : isG a = true) (hg : GC (G.2.2.1 a) (G.2.2.2 a) k v) (h1 : G.1 a = nI R0) (hR : R0 ≤ 16) (hm : m < hL R0 k + ahead k 16) : f_X0_byRowsCell (E G S N T R B U L C H) a (nI m) = some (W1 R0 k v m) := by
  have hal := ahead_le k 16
  have hl : hL R0 k = R0 + 1 + ahead k 16 := rfl
  unfold f_X0_byRowsCell W1
  rw [c_headLen ha hg h1, Option.bind_some]
  by_cases q : m < hL R0 k
  · have hh : hdN R0 k m < 2 ^ 31 := by
      unfold hdN
      split
      · rename_i z; have := ahead_le k m; omega
      · omega
    rw [if_neg (nI_ge q (by omega)), if_pos q, c_headCell ha hg h1 hR q, Option.bind_some, nI_l hh]
  · have hs := sel_lt (k := k) (j := m - hL R0 k) (by omega)
    rw [if_pos (nI_le (by omega) (by omega)), if_neg q, e_ckG ha, pk_sub (by omega), c_place ha hg (by omega), Option.bind_some, e_ckG ha, c_val ha hg hs, Option.bind_some]
/-! triples, full -/
def W0 (k : Nat → Nat → Bool) (v : Nat → Nat → Int64) (m : Nat) : Int64 := if m % 3 = 0 then lN (sel (kf k) 256 (m / 3) / 16) else if m % 3 = 1 then lN (sel (kf k) 256 (m / 3) % 16) else vf v (sel (kf k) 256 (m / 3))
theorem c_triples {G : TG} {S : TS} {N : TN} {T : TT} {R : TR} {B : TB} {U : TU} {L : TL} {C : TC} {H : TH} {a m : Nat} {k : Nat → Nat → Bool} {v : Nat → Nat → Int64} (ha : isG a = true) (hg : GC (G.2.2.1 a) (G.2.2.2 a) k v) (hm : m < 3 * ahead k 16) : f_X0_triplesCell (E G S N T R B U L C H) a (nI m) = some (W0 k v m) := by
  have hal := ahead_le k 16
  have hs := sel_lt (k := k) (j := m / 3) (by omega)
  have ed : nI m / 3 = nI (m / 3) := by rw [show (3 : Int32) = nI 3 from rfl, pk_div (by omega) (by decide) (by decide)]
  have er : nI m - nI m / 3 * 3 = nI (m % 3) := by rw [show (3 : Int32) = nI 3 from rfl, pk_rem (by omega) (by decide) (by decide)]
  unfold f_X0_triplesCell W0
  rw [er, ed, e_ckG ha, c_place ha hg (by omega), Option.bind_some]
  by_cases q : m % 3 = 0
  · rw [if_pos (by rw [q]; rfl), if_pos q, d16 (by omega), nI_l (by omega)]
  · rw [if_neg (nI_ne0 (by omega) (by omega)), if_neg q]
    by_cases q2 : m % 3 = 1
    · rw [if_pos (by rw [q2]; rfl), if_pos q2, r16 (by omega), nI_l (by omega)]
    · rw [if_neg (show ¬ nI (m % 3) = 1 from fun z => q2 ((nI_eq (b := 1) (by omega) (by decide)).1 z)), if_neg q2, e_ckG ha, c_val ha hg hs, Option.bind_some]
theorem nz_pos {α : Type} {x : Nat} (h0 : 0 < x) (hx : x < 2 ^ 31) (k : Option α) : nz (nI x) k = k := by
  unfold nz
  rw [if_neg (nI_ne0 h0 hx)]
theorem c_full {G : TG} {S : TS} {N : TN} {T : TT} {R : TR} {B : TB} {U : TU} {L : TL} {C : TC} {H : TH} {a R0 C0 m : Nat} {k : Nat → Nat → Bool} {v : Nat → Nat → Int64} (ha : isG a = true) (hg : GC (G.2.2.1 a) (G.2.2.2 a) k v) (h2 : G.2.1 a = nI C0) (hR : R0 ≤ 16) (hC1 : 1 ≤ C0) (hC : C0 ≤ 16) (hm : m < R0 * C0) : f_X0_fullCell (E G S N T R B U L C H) a (nI m) = some (v (m / C0) (m % C0)) := by
  have hb : R0 * C0 ≤ 16 * 16 := Nat.mul_le_mul hR hC
  have hd : m / C0 < R0 := Nat.div_lt_of_lt_mul (by rw [Nat.mul_comm]; exact hm)
  have hr : m % C0 < C0 := Nat.mod_lt _ (by omega)
  unfold f_X0_fullCell
  rw [e_gIcc ha, Option.bind_some, h2, if_pos (show (1 : Int32) ≤ nI C0 from nI_le (a := 1) hC1 (by omega)), nz_pos (by omega) (by omega), nz_pos (by omega) (by omega), e_ckG ha, pk_rem (by omega) (by omega) (by omega), pk_div (by omega) (by omega) (by omega), g_value ha hg (by omega) (by omega), Option.bind_some]
