/-! narrow orders: the machine that both sides follow -/
def bst (s : Nat → Bool) (w : Nat → Nat) : Nat → Option Nat
  | 0 => none
  | i + 1 => match bst s w i with
    | none => if s i = true then some i else none
    | some b => if s i = true ∧ w i < w b then some i else some b
theorem bst_some {s : Nat → Bool} {w : Nat → Nat} : ∀ i b, bst s w i = some b → b < i ∧ s b = true := by
  intro i
  induction i with
  | zero => intro b h; cases h
  | succ i ih =>
    intro b h
    simp only [bst] at h
    cases e : bst s w i with
    | none =>
      rw [e] at h
      by_cases q : s i = true
      · simp only [q, if_true] at h; cases h; exact ⟨by omega, q⟩
      · simp only [if_neg q] at h; cases h
    | some b' =>
      rw [e] at h
      by_cases q : s i = true ∧ w i < w b'
      · simp only [if_pos q] at h; cases h; exact ⟨by omega, q.1⟩
      · simp only [if_neg q] at h; cases h; have := ih _ e; exact ⟨by omega, this.2⟩
theorem bst_none {s : Nat → Bool} {w : Nat → Nat} : ∀ i, bst s w i = none → ∀ j, j < i → s j = false := by
  intro i
  induction i with
  | zero => intro _ j hj; omega
  | succ i ih =>
    intro h j hj
    simp only [bst] at h
    cases e : bst s w i with
    | none =>
      rw [e] at h
      by_cases q : s i = true
      · simp only [q, if_true] at h; cases h
      · by_cases e2 : j = i
        · subst e2; simpa using q
        · exact ih e j (by omega)
    | some b' =>
      rw [e] at h
      by_cases q : s i = true ∧ w i < w b'
      · simp only [if_pos q] at h; cases h
      · simp only [if_neg q] at h; cases h
theorem bst_more {s : Nat → Bool} {w : Nat → Nat} {n : Nat} : ∀ m, n ≤ m → (∀ j, n ≤ j → j < m → s j = false) → bst s w m = bst s w n := by
  intro m
  induction m with
  | zero => intro h _; rw [show n = 0 by omega]
  | succ m ih =>
    intro h hs
    by_cases e : n = m + 1
    · rw [e]
    · have q := hs m (by omega) (by omega)
      rw [← ih (by omega) (fun j h1 h2 => hs j h1 (by omega))]
      simp only [bst, q]
      cases bst s w m <;> simp
theorem bst_congr {s t : Nat → Bool} {w : Nat → Nat} : ∀ i, (∀ j, j < i → s j = t j) → bst s w i = bst t w i := by
  intro i
  induction i with
  | zero => intro _; rfl
  | succ i ih => intro h; simp only [bst]; rw [ih (fun j hj => h j (by omega)), h i (by omega)]
def bI32 (o : Option Nat) : Int32 := match o with | none => -1 | some b => nI b
def wI32 (w : Nat → Nat) (o : Option Nat) : Int32 := match o with | none => 16 | some b => nI (w b)
def nw (k : Nat → Nat → Bool) (x : Nat) : Nat := cnt (nb k x) 16
theorem nw_lt {k : Nat → Nat → Bool} {x : Nat} (hx : x < 16) : nw k x < 16 := by
  have h1 := cnt_slt (p := nb k x) (q := fun c => decide (c < 16)) (n := 16) (i := x) (fun i hi _ => by simp [hi]) hx (by simp [nb]) (by simp [hx])
  rw [cnt_dec 16 16 (by omega)] at h1
  exact h1
def NS : Type := (Nat → Bool) × Nat × (Nat → Nat)
def NS.s (σ : NS) : Nat → Bool := σ.1
def NS.m (σ : NS) : Nat := σ.2.1
def NS.q (σ : NS) : Nat → Nat := σ.2.2
def nadd (σ : NS) (b : Nat) : NS := (fun c => σ.s c && !(decide (c = b)), σ.m + 1, va_up σ.q σ.m b)
theorem nadd_s {σ : NS} {b c : Nat} : (nadd σ b).s c = (σ.s c && !(decide (c = b))) := rfl
theorem nadd_m {σ : NS} {b : Nat} : (nadd σ b).m = σ.m + 1 := rfl
theorem nadd_q {σ : NS} {b : Nat} : (nadd σ b).q = va_up σ.q σ.m b := rfl
def nfs (k : Nat → Nat → Bool) (σ : NS) (f : Nat) (c : Nat) : Bool := if f < σ.m then nb k (σ.q f) c && σ.s c else σ.s c
def mach (bf : NS → Nat → Option Nat) (n : Nat) : Nat → NS → Nat → NS
  | 0, σ, _ => σ
  | r + 1, σ, f => if n ≤ σ.m then σ else match bf σ f with
    | some b => mach bf n r (nadd σ b) f
    | none => mach bf n r σ (f + 1)
def nbst (k : Nat → Nat → Bool) (σ : NS) (f : Nat) : Option Nat := bst (nfs k σ f) (nw k) 16
def NV (n : Nat) (σ : NS) : Prop := (∀ c, σ.s c = true → c < n) ∧ cnt σ.s 16 + σ.m = n ∧ ∀ j, j < σ.m → σ.q j < 16
theorem NV.add {n : Nat} {σ : NS} (h : NV n σ) {b : Nat} (hb : b < 16) (hs : σ.s b = true) : NV n (nadd σ b) := by
  obtain ⟨h1, h2, h3⟩ := h
  have hc := cnt_del (s := σ.s) 16 hb hs
  refine ⟨fun c z => ?_, ?_, fun j hj => ?_⟩
  · simp only [nadd_s, Bool.and_eq_true] at z; exact h1 c z.1
  · show cnt (fun c => σ.s c && !(decide (c = b))) 16 + (σ.m + 1) = n
    omega
  · show va_up σ.q σ.m b j < 16
    by_cases e : j = σ.m
    · rw [e, va_up_self]; exact hb
    · rw [va_up_ne _ _ e]; exact h3 j (by rw [nadd_m] at hj; omega)
theorem nfs_s {k : Nat → Nat → Bool} {σ : NS} {f c : Nat} (h : nfs k σ f c = true) : σ.s c = true := by
  unfold nfs at h
  split at h
  · simp only [Bool.and_eq_true] at h; exact h.2
  · exact h
theorem mach_done {bf : NS → Nat → Option Nat} {n : Nat} {σ : NS} (h : σ.m = n) : ∀ r f, mach bf n r σ f = σ := by
  intro r f
  cases r with
  | zero => rfl
  | succ r => rw [mach, if_pos (show n ≤ σ.m by omega)]
theorem mach_some {bf : NS → Nat → Option Nat} {n r f b : Nat} {σ : NS} (h : σ.m < n) (e : bf σ f = some b) : mach bf n (r + 1) σ f = mach bf n r (nadd σ b) f := by
  rw [mach, if_neg (show ¬ n ≤ σ.m by omega), e]
theorem mach_none {bf : NS → Nat → Option Nat} {n r f : Nat} {σ : NS} (h : σ.m < n) (e : bf σ f = none) : mach bf n (r + 1) σ f = mach bf n r σ (f + 1) := by
  rw [mach, if_neg (show ¬ n ≤ σ.m by omega), e]
/-- with some nodes left, the whole of what is left has a best one -/
theorem nfs_all {k : Nat → Nat → Bool} {n f : Nat} {σ : NS} (hv : NV n σ) (h : σ.m < n) (hf : ¬ f < σ.m) : ∃ b, bst (nfs k σ f) (nw k) 16 = some b := by
  cases e : bst (nfs k σ f) (nw k) 16 with
  | some b => exact ⟨b, rfl⟩
  | none =>
    have h1 := bst_none 16 e
    obtain ⟨p, p1, p2, -⟩ := sel_ex (f := σ.s) (n := 16) (j := 0) (by have := hv.2.1; omega)
    have := h1 p p1
    unfold nfs at this
    rw [if_neg hf, p2] at this
    cases this
/-! the reference's side -/
theorem md_nbs {G : TG} {S : TS} {N : TN} {T : TT} {R : TR} {B : TB} {U : TU} {L : TL} {C : TC} {H : TH} {t n x : Nat} {k : Nat → Nat → Bool} {v : Nat → Nat → Int64} (hm : MC B.2.2.2.1 B.2.2.2.2 t k v) (ht : t < 8) (h1 : B.2.1 t = nI n) (hn : n ≤ 16) (hin : ∀ r c, r < 16 → c < 16 → k r c = true → r < n ∧ c < n) (hx : x < 16) : f_X6_neighbours (E G S N T R B U L C H) 43 (nI t) (nI x) = some (nI (nw k x)) := by
  have key := pz_lpf (fun m s l => L_X6_neighbours_5 (E G S N T R B U L C H) 43 (nI t) (nI x) m (fun x8 => some x8) s l) (some (nI (cnt (nb k x) n))) n (fun i => nI (cnt (nb k x) i))
    (fun m => by rw [L_X6_neighbours_5, e_gR43_1, Option.bind_some, e_a45 (by omega), Option.bind_some, h1, if_pos (Int32.le_refl _)])
    (fun m i hi => by
      rw [L_X6_neighbours_5, e_gR43_1, Option.bind_some, e_a45 (by omega), Option.bind_some, h1, if_neg (nI_ge hi (by omega)), e_ck43, md_joined hm ht hx (by omega), Option.bind_some, nI_1, nI_1, Int32.add_zero, cnt_step]
      cases nb k x i with
      | true => rw [if_neg (by decide), if_pos rfl]
      | false => rw [if_pos (by decide), if_neg (by decide)]; rfl)
    n 0 FU (by omega) (pz_FU (by omega))
  have e : nw k x = cnt (nb k x) n := by
    unfold nw
    rw [show 16 = n + (16 - n) by omega, cnt_add]
    have : ∀ m, m ≤ 16 - n → cnt (fun i => nb k x (n + i)) m = 0 := by
      intro m
      induction m with
      | zero => intro _; rfl
      | succ m ih =>
        intro hm
        rw [cnt_step, ih (by omega), if_neg]
        intro z
        unfold nb at z
        simp only [Bool.and_eq_true, Bool.or_eq_true] at z
        rcases z.1 with z | z
        · have := (hin x (n + m) hx (by omega) z).2; omega
        · have := (hin (n + m) x (by omega) hx z).1; omega
    rw [this _ (Nat.le_refl _)]
    rfl
  rw [e]
  exact key
theorem md_fewest {G : TG} {S : TS} {N : TN} {T : TT} {R : TR} {B : TB} {U : TU} {L : TL} {C : TC} {H : TH} {t n : Nat} {k : Nat → Nat → Bool} {v : Nat → Nat → Int64} {y : Int32} {σ : NS} {f : Nat} {z : Int32} (hm : MC B.2.2.2.1 B.2.2.2.2 t k v) (ht : t < 8) (h1 : B.2.1 t = nI n) (hn : n ≤ 16) (hin : ∀ r c, r < 16 → c < 16 → k r c = true → r < n ∧ c < n) (hv : NV n σ) (hy : rowOK y (fun c => decide (c < n) && !(σ.s c))) (hz : if f < σ.m then z = nI (σ.q f) else z = -1) : f_X6_fewest (E G S N T R B U L C H) 43 (nI t) y z = some (bI32 (bst (nfs k σ f) (nw k) 16)) := by
  have key := pz_lpf (fun m s l => L_X6_fewest_6 (E G S N T R B U L C H) 43 (nI t) y z m (fun x26 => some x26) s l) (some (bI32 (bst (nfs k σ f) (nw k) n))) n (fun i => bI32 (bst (nfs k σ f) (nw k) i))
    (fun m => by rw [L_X6_fewest_6, e_gR43_1, Option.bind_some, e_a45 (by omega), Option.bind_some, h1, if_pos (Int32.le_refl _)])
    (fun m i hi => by
      have hi16 : i < 16 := by omega
      have hd : decide (i < n) = true := by simp [hi]
      have wi := nw_lt (k := k) hi16
      -- the last choice between the old one and this one
      have fin : (if bI32 (bst (nfs k σ f) (nw k) i) < 0 then L_X6_fewest_6 (E G S N T R B U L C H) 43 (nI t) y z m (fun x26 => some x26) (nI i) (nI (i + 1)) else (f_X6_neighbours (E G S N T R B U L C H) 43 (nI t) (nI i)).bind fun v8 => (f_X6_neighbours (E G S N T R B U L C H) 43 (nI t) (bI32 (bst (nfs k σ f) (nw k) i))).bind fun v11 => if v11 ≤ v8 then L_X6_fewest_6 (E G S N T R B U L C H) 43 (nI t) y z m (fun x26 => some x26) (bI32 (bst (nfs k σ f) (nw k) i)) (nI (i + 1)) else L_X6_fewest_6 (E G S N T R B U L C H) 43 (nI t) y z m (fun x26 => some x26) (nI i) (nI (i + 1))) = L_X6_fewest_6 (E G S N T R B U L C H) 43 (nI t) y z m (fun x26 => some x26) (bI32 (match bst (nfs k σ f) (nw k) i with | none => some i | some b => if nw k i < nw k b then some i else some b)) (nI (i + 1)) := by
        cases e : bst (nfs k σ f) (nw k) i with
        | none => rw [if_pos (by decide)]; rfl
        | some b =>
          have hb := (bst_some i b e).1
          have wb := nw_lt (k := k) (x := b) (by omega)
          show (if nI b < 0 then _ else _) = _
          rw [if_neg (nI_pos (by omega)), md_nbs hm ht h1 hn hin hi16, Option.bind_some]
          show ((f_X6_neighbours (E G S N T R B U L C H) 43 (nI t) (nI b)).bind _) = _
          rw [md_nbs hm ht h1 hn hin (by omega), Option.bind_some]
          by_cases q : nw k i < nw k b
          · rw [if_neg (nI_ge q (by omega))]; simp only [if_pos q]; rfl
          · rw [if_pos (nI_le (by omega) (by omega))]; simp only [if_neg q]
      rw [L_X6_fewest_6, e_gR43_1, Option.bind_some, e_a45 (by omega), Option.bind_some, h1, if_neg (nI_ge hi (by omega)), hy.sh hi16, nI_1, hd]
      simp only [e_ck43, bst]
      have nst : σ.s i = false → L_X6_fewest_6 (E G S N T R B U L C H) 43 (nI t) y z m (fun x26 => some x26) (bI32 (bst (nfs k σ f) (nw k) i)) (nI (i + 1)) = L_X6_fewest_6 (E G S N T R B U L C H) 43 (nI t) y z m (fun x26 => some x26) (bI32 (match bst (nfs k σ f) (nw k) i with | none => if nfs k σ f i = true then some i else none | some b => if nfs k σ f i = true ∧ nw k i < nw k b then some i else some b)) (nI (i + 1)) := by
        intro q
        have : nfs k σ f i = false := by
          cases q2 : nfs k σ f i with
          | false => rfl
          | true => rw [nfs_s q2] at q; cases q
        rw [this]
        cases bst (nfs k σ f) (nw k) i <;> simp
      cases q : σ.s i with
      | false => rw [if_neg (by decide)]; exact nst q
      | true =>
        rw [if_pos (by decide)]
        by_cases hf : f < σ.m
        · rw [if_pos hf] at hz
          have hq := hv.2.2 f hf
          have en : nfs k σ f i = nb k (σ.q f) i := by unfold nfs; rw [if_pos hf, q]; simp
          subst hz
          rw [if_neg (nI_pos (by omega)), md_joined hm ht hq hi16, Option.bind_some, en]
          cases q2 : nb k (σ.q f) i with
          | false =>
            rw [if_pos (by decide)]
            cases bst (nfs k σ f) (nw k) i <;> simp
          | true =>
            rw [if_neg (by decide), fin]
            cases bst (nfs k σ f) (nw k) i <;> simp
        · rw [if_neg hf] at hz
          have en : nfs k σ f i = true := by unfold nfs; rw [if_neg hf, q]
          subst hz
          rw [if_pos (by decide), fin, en]
          cases bst (nfs k σ f) (nw k) i <;> simp)
    n 0 FU (by omega) (pz_FU (by omega))
  rw [bst_more 16 hn (fun j h1 h2 => by
    cases q : nfs k σ f j with
    | false => rfl
    | true => have := hv.1 j (nfs_s q); omega)]
  exact key
/-- the reference follows the machine -/
theorem md_narrow {G : TG} {S : TS} {N : TN} {T : TT} {R : TR} {B : TB} {U : TU} {ml : Int32} {lo : Nat → Int32} {C : TC} {H : TH} {t n : Nat} {k : Nat → Nat → Bool} {v : Nat → Nat → Int64} (hm : MC B.2.2.2.1 B.2.2.2.2 t k v) (ht : t < 8) (h1 : B.2.1 t = nI n) (hn : n ≤ 16) (hin : ∀ r c, r < 16 → c < 16 → k r c = true → r < n ∧ c < n) (kk : HP → Int32 → Option (HP × Int32)) : ∀ r (σ : NS) (f fu : Nat) (lo : Nat → Int32) (y : Int32), NV n σ → f ≤ σ.m → (n - σ.m) + (n - f) ≤ r → r < fu → rowOK y (fun c => decide (c < n) && !(σ.s c)) → (∀ j, j < σ.m → lo j = nI (σ.q j)) → ∃ lo', (∀ j, j < n → lo' j = nI ((mach (nbst k) n r σ f).q j)) ∧ NV n (mach (nbst k) n r σ f) ∧ (mach (nbst k) n r σ f).m = n ∧ L_X6_narrow_28 43 (nI t) fu kk (E G S N T R B U (ml, lo) C H) y (nI σ.m) (nI f) = kk (E G S N T R B U (ml, lo') C H) (nI n) := by
  intro r
  induction r with
  | zero =>
    intro σ f fu lo y hv hf hr hfu hy hlo
    have hmn : σ.m = n := by have := hv.2.1; omega
    cases fu with
    | zero => omega
    | succ fu =>
      refine ⟨lo, fun j hj => ?_, ?_, ?_, ?_⟩
      · rw [mach_done hmn]; exact hlo j (by omega)
      · rw [mach_done hmn]; exact hv
      · rw [mach_done hmn]; exact hmn
      · rw [L_X6_narrow_28, e_gR43_1, Option.bind_some, e_a45 (by omega), Option.bind_some, h1, hmn, if_pos (Int32.le_refl _)]
  | succ r ih =>
    intro σ f fu lo y hv hf hr hfu hy hlo
    have hmle : σ.m ≤ n := by have := hv.2.1; omega
    cases fu with
    | zero => omega
    | succ fu =>
      by_cases hmn : σ.m = n
      · refine ⟨lo, fun j hj => ?_, ?_, ?_, ?_⟩
        · rw [mach_done hmn]; exact hlo j (by omega)
        · rw [mach_done hmn]; exact hv
        · rw [mach_done hmn]; exact hmn
        · rw [L_X6_narrow_28, e_gR43_1, Option.bind_some, e_a45 (by omega), Option.bind_some, h1, hmn, if_pos (Int32.le_refl _)]
      · have hlt : σ.m < n := by omega
        -- one round, whatever the choice
        have one : L_X6_narrow_28 43 (nI t) (fu + 1) kk (E G S N T R B U (ml, lo) C H) y (nI σ.m) (nI f) = match bst (nfs k σ f) (nw k) 16 with
          | some b => L_X6_narrow_28 43 (nI t) fu kk (E G S N T R B U (ml, upd lo σ.m (nI b)) C H) (y ||| (1 <<< (nI b &&& 31))) (nI (σ.m + 1)) (nI f)
          | none => L_X6_narrow_28 43 (nI t) fu kk (E G S N T R B U (ml, lo) C H) y (nI σ.m) (nI (f + 1)) := by
          rw [L_X6_narrow_28, e_gR43_1, Option.bind_some, e_a45 (by omega), Option.bind_some, h1, if_neg (nI_ge hlt (by omega)), nI_1, nI_1]
          by_cases hfm : f < σ.m
          · rw [if_neg (nI_ge hfm (by omega)), e_gR43_9, Option.bind_some, e_a51 (by omega), Option.bind_some, e_ck43, md_fewest (f := f) hm ht h1 hn hin hv hy (by rw [if_pos hfm]; exact hlo f hfm), Option.bind_some]
            cases e : bst (nfs k σ f) (nw k) 16 with
            | none => rw [if_neg (by decide)]
            | some b =>
              have hb := (bst_some 16 b e).1
              show (if 0 ≤ nI b then _ else _) = _
              rw [if_pos (nI_pos' (by omega)), Option.bind_some]
              show ((sI _ 51 (nI σ.m) (nI b)).bind _) = _
              rw [e_s51 (by omega), Option.bind_some]; rfl
          · rw [if_pos (nI_le (by omega) (by omega)), e_ck43, md_fewest (f := f) hm ht h1 hn hin hv hy (by rw [if_neg hfm]), Option.bind_some]
            cases e : bst (nfs k σ f) (nw k) 16 with
            | none => rw [if_neg (by decide)]
            | some b =>
              have hb := (bst_some 16 b e).1
              show (if 0 ≤ nI b then _ else _) = _
              rw [if_pos (nI_pos' (by omega)), e_gR43_9, Option.bind_some]
              show ((sI _ 51 (nI σ.m) (nI b)).bind _) = _
              rw [e_s51 (by omega), Option.bind_some]; rfl
        cases e : bst (nfs k σ f) (nw k) 16 with
        | some b =>
          obtain ⟨hb, hs⟩ := bst_some 16 b e
          have hsb := nfs_s hs
          rw [e] at one
          obtain ⟨lo', u1, u2, u3, u4⟩ := ih (nadd σ b) f fu (upd lo σ.m (nI b)) (y ||| (1 <<< (nI b &&& 31))) (hv.add hb hsb) (by rw [nadd_m]; omega) (by rw [nadd_m]; omega) (by omega) ((hy.or (rowOK.one hb)).congr (fun c hc => by
            rw [nadd_s]
            by_cases ec : c = b
            · have := hv.1 b hsb
              simp [ec, this]
            · simp [ec])) (fun j hj => by
            rw [nadd_m] at hj
            rw [nadd_q]
            by_cases ej : j = σ.m
            · rw [ej, pk_us, va_up_self]
            · rw [pk_un ej, va_up_ne _ _ ej]; exact hlo j (by omega))
          rw [mach_some (bf := nbst k) hlt e]
          exact ⟨lo', u1, u2, u3, one.trans u4⟩
        | none =>
          have hfm : f < σ.m := by
            by_cases z : f < σ.m
            · exact z
            · obtain ⟨b, hb⟩ := nfs_all (k := k) (f := f) hv hlt z
              rw [e] at hb; cases hb
          rw [e] at one
          obtain ⟨lo', u1, u2, u3, u4⟩ := ih σ (f + 1) fu lo y hv (by omega) (by omega) (by omega) hy hlo
          rw [mach_none (bf := nbst k) hlt e]
          exact ⟨lo', u1, u2, u3, one.trans u4⟩
