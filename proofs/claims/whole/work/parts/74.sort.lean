/-! orders along the arcs -/
def fr (k : Nat → Nat → Bool) (s : Nat → Bool) (x : Nat) : Bool := s x && !(orJ (fun y => k y x && (s y && !(decide (y = x)))) 16)
def ss (k : Nat → Nat → Bool) (n : Nat) : Nat → Nat → Bool
  | 0 => fun c => decide (c < n)
  | i + 1 => fun c => ss k n i c && !(decide (c = lst (fr k (ss k n i)) 16))
def od (k : Nat → Nat → Bool) (n i : Nat) : Nat := lst (fr k (ss k n i)) 16
theorem ss_succ {k : Nat → Nat → Bool} {n i c : Nat} : ss k n (i + 1) c = (ss k n i c && !(decide (c = od k n i))) := rfl
theorem ss_lt {k : Nat → Nat → Bool} {n : Nat} : ∀ i c, ss k n i c = true → c < n := by
  intro i
  induction i with
  | zero => intro c h; simpa [ss] using h
  | succ i ih =>
    intro c h
    rw [ss_succ] at h
    simp only [Bool.and_eq_true] at h
    exact ih c h.1
theorem cnt_del {s : Nat → Bool} {p : Nat} : ∀ m, p < m → s p = true → cnt (fun c => s c && !(decide (c = p))) m + 1 = cnt s m := by
  intro m
  induction m with
  | zero => intro h; omega
  | succ m ih =>
    intro h hs
    by_cases e : p = m
    · subst e
      have : cnt (fun c => s c && !(decide (c = p))) p = cnt s p := cnt_congr (fun i hi => by have : ¬ i = p := by omega
                                                                                              simp [this])
      simp only [cnt]
      rw [this, hs]; simp
    · have := ih (by omega) hs
      have e2 : ¬ m = p := fun z => e z.symm
      simp only [cnt]
      simp only [e2, decide_false, Bool.not_false, Bool.and_true]
      omega
theorem od_fr {k : Nat → Nat → Bool} {n i : Nat} (h : od k n i < 16) : fr k (ss k n i) (od k n i) = true := lst_yes _ _ h
theorem od_ss {k : Nat → Nat → Bool} {n i : Nat} (h : od k n i < 16) : ss k n i (od k n i) = true := by
  have := od_fr h
  unfold fr at this
  simp only [Bool.and_eq_true] at this
  exact this.1
theorem cnt_ss {k : Nat → Nat → Bool} {n : Nat} (hn : n ≤ 16) : ∀ i, i ≤ n → (∀ j, j < i → od k n j < 16) → cnt (ss k n i) 16 = n - i := by
  intro i
  induction i with
  | zero => intro _ _; exact cnt_dec 16 n hn
  | succ i ih =>
    intro hi hj
    have e := ih (by omega) (fun j h => hj j (by omega))
    have := cnt_del (s := ss k n i) 16 (hj i (by omega)) (od_ss (hj i (by omega)))
    have e2 : cnt (ss k n (i + 1)) 16 = cnt (fun c => ss k n i c && !(decide (c = od k n i))) 16 := rfl
    omega
theorem acy_no {k : Nat → Nat → Bool} {n : Nat} (h : ∀ x, x < n → ldr k x = x) : ∀ x y, x < n → y < n → x ≠ y → rg k x y = false := by
  have A : ∀ x y, x < n → y < x → rg k x y = false := fun x y hx hy => lst_no (rg k x) x y (by have := h x hx; unfold ldr at this; omega)
  intro x y hx hy hne
  by_cases e : y < x
  · exact A x y hx e
  · rw [rg_comm]; exact A y x hy (by omega)
theorem no_acy {k : Nat → Nat → Bool} {n : Nat} (h : ∀ x y, x < n → y < n → x ≠ y → rg k x y = false) : ∀ x, x < n → ldr k x = x := by
  intro x hx
  have h1 := ldr_le k x
  by_cases e : ldr k x = x
  · exact e
  · have := ldr_yes k x
    rw [h x (ldr k x) hx (by omega) (fun z => e z.symm)] at this
    cases this
theorem fr_ex {k : Nat → Nat → Bool} {n : Nat} (hn : n ≤ 16) (h : ∀ x y, x < n → y < n → x ≠ y → rg k x y = false) {s : Nat → Bool} (hs : ∀ c, s c = true → c < n) (hf : ∀ x, x < 16 → fr k s x = false) : ∀ m x, s x = true → cnt (fun y => wr k 16 y x) 16 ≤ m → False := by
  have stp : ∀ x, s x = true → ∃ y, s y = true ∧ cnt (fun z => wr k 16 z y) 16 < cnt (fun z => wr k 16 z x) 16 := by
    intro x hx
    have hxn := hs x hx
    have h1 := hf x (by omega)
    unfold fr at h1
    rw [hx] at h1
    have h2 : orJ (fun y => k y x && (s y && !(decide (y = x)))) 16 = true := by simpa using h1
    obtain ⟨y, hy, h3⟩ := orJ_true.1 h2
    simp only [Bool.and_eq_true, Bool.not_eq_true', decide_eq_false_iff_not] at h3
    obtain ⟨h4, h5, h6⟩ := h3
    refine ⟨y, h5, cnt_slt (n := 16) (i := x) (fun z hz w => wr_tr 16 y z x hy w (wr_arc h4)) (by omega) ?_ (wr_refl k 16 x)⟩
    have h7 := h x y hxn (hs y h5) (fun z => h6 z.symm)
    unfold rg at h7
    rw [wr_arc h4] at h7
    simpa using h7
  intro m
  induction m with
  | zero =>
    intro x hx hc
    obtain ⟨y, -, h2⟩ := stp x hx
    omega
  | succ m ih =>
    intro x hx hc
    obtain ⟨y, h1, h2⟩ := stp x hx
    exact ih y h1 (by omega)
theorem acy_suc {k : Nat → Nat → Bool} {n : Nat} (hn : n ≤ 16) (h : ∀ x, x < n → ldr k x = x) : ∀ i, i ≤ n → ∀ j, j < i → od k n j < 16 := by
  intro i
  induction i with
  | zero => intro _ j hj; omega
  | succ i ih =>
    intro hi j hj
    have ihh := ih (by omega)
    by_cases e : j = i
    · subst e
      have hc := cnt_ss hn j (by omega) ihh
      obtain ⟨p, p1, p2, -⟩ := sel_ex (f := ss k n j) (n := 16) (j := 0) (by omega)
      by_cases q : od k n j < 16
      · exact q
      · have e0 : od k n j = 16 := by have := lst_le (fr k (ss k n j)) 16; unfold od at q ⊢; omega
        exact absurd (Nat.le_refl _) (fun z => fr_ex (s := ss k n j) hn (acy_no h) (ss_lt j) (fun x hx => lst_no (fr k (ss k n j)) 16 x (by show x < od k n j; omega)) _ p p2 z)
    · exact ihh j (by omega)
theorem suc_inv {k : Nat → Nat → Bool} {n : Nat} (hin : ∀ r c, r < 16 → c < 16 → k r c = true → r < n ∧ c < n) (hn : n ≤ 16) : ∀ i, i ≤ n → (∀ j, j < i → od k n j < 16) → (∀ u v, u < 16 → v < 16 → ss k n i u = true → k u v = true → ss k n i v = true) ∧ ∀ x z, x < n → z < n → x ≠ z → ss k n i x = false → rg k x z = false := by
  intro i
  induction i with
  | zero =>
    intro _ _
    refine ⟨fun u v hu hv _ h => by simp [ss, (hin u v hu hv h).2], fun x z hx _ _ h => by simp [ss, hx] at h⟩
  | succ i ih =>
    intro hi hj
    obtain ⟨C1, C2⟩ := ih (by omega) (fun j h => hj j (by omega))
    have hp := hj i (by omega)
    have hf := od_fr hp
    have hs := od_ss hp
    have C1' : ∀ u v, u < 16 → v < 16 → ss k n (i + 1) u = true → k u v = true → ss k n (i + 1) v = true := by
      intro u v hu hv h hk
      rw [ss_succ] at h ⊢
      simp only [Bool.and_eq_true, Bool.not_eq_true', decide_eq_false_iff_not] at h ⊢
      refine ⟨C1 u v hu hv h.1 hk, fun z => ?_⟩
      rw [z] at hk
      unfold fr at hf
      simp only [Bool.and_eq_true, Bool.not_eq_true'] at hf
      have : orJ (fun y => k y (od k n i) && (ss k n i y && !(decide (y = od k n i)))) 16 = true := orJ_true.2 ⟨u, hu, by simp [hk, h.1, h.2]⟩
      rw [hf.2] at this
      cases this
    refine ⟨C1', fun x z hx hz hne h => ?_⟩
    by_cases e : ss k n i x = false
    · exact C2 x z hx hz hne e
    · have ex : x = od k n i := by
        rw [ss_succ] at h
        cases q : ss k n i x with
        | false => exact absurd q e
        | true => rw [q] at h; simpa using h
      rw [ex] at h hx hne ⊢
      cases q : ss k n i z with
      | false => rw [rg_comm]; exact C2 z _ hz hx (fun y => hne y.symm) q
      | true =>
        have hz' : ss k n (i + 1) z = true := by
          rw [ss_succ, q]
          have : ¬ z = od k n i := fun y => hne y.symm
          simp [this]
        cases w : rg k (od k n i) z with
        | false => rfl
        | true =>
          unfold rg at w
          simp only [Bool.and_eq_true] at w
          have := wr_sound (fun y => ss k n (i + 1) y = true) (fun u v hu hv pu hk => C1' u v hu hv pu hk) 16 z (od k n i) (by omega) (by omega) hp w.2 hz'
          rw [h] at this
          cases this
theorem suc_acy {k : Nat → Nat → Bool} {n : Nat} (hin : ∀ r c, r < 16 → c < 16 → k r c = true → r < n ∧ c < n) (hn : n ≤ 16) (h : ∀ j, j < n → od k n j < 16) : ∀ x, x < n → ldr k x = x := by
  refine no_acy (fun x y hx hy hne => (suc_inv hin hn n (by omega) h).2 x y hx hy hne ?_)
  have hc := cnt_ss hn n (by omega) h
  cases q : ss k n n x with
  | false => rfl
  | true => have := cnt_lt (f := ss k n n) (p := x) (n := 16) (by omega) q; omega
theorem x_lws {G : TG} {S : TS} {N : TN} {T : TT} {R : TR} {B : TB} {U : TU} {L : TL} {C : TC} {H : TH} {k : Nat → Nat → Bool} {x : Int32} {s : Nat → Bool} (hk : ∀ r, r < 16 → rowOK (R.2.1 r) (k r)) (hx : rowOK x s) : f_X1_leastWithoutSource (E G S N T R B U L C H) 6 x = if lst (fr k s) 16 < 16 then some (nI (lst (fr k s) 16)) else some (-1) := by
  have stp : ∀ n i, i < 16 → L_X1_leastWithoutSource_2 (E G S N T R B U L C H) 6 x (n + 1) (some (-1)) (nI i) = if fr k s i = true then some (nI i) else L_X1_leastWithoutSource_2 (E G S N T R B U L C H) 6 x n (some (-1)) (nI (i + 1)) := by
    intro n i hi
    obtain ⟨y, ey, ry⟩ := x_sources (G := G) (S := S) (N := N) (T := T) (R := R) (B := B) (U := U) (L := L) (C := C) (H := H) (k := k) hk hi
    have r0 := (ry.and (hx.del hi)).eq0
    rw [L_X1_leastWithoutSource_2, if_neg (ge16 hi), hx.hasBit hi, Option.bind_some, e_ck6, ey, Option.bind_some, nI_1]
    unfold fr
    cases q : s i with
    | false => rw [if_pos (by decide), if_neg (by simp)]
    | true =>
      rw [if_neg (by decide)]
      by_cases z : orJ (fun y => k y i && (s y && !(decide (y = i)))) 16 = true
      · rw [if_neg, if_neg (by simp [z])]
        intro w
        obtain ⟨c, hc, h2⟩ := orJ_true.1 z
        have := r0.1 w c hc
        rw [h2] at this
        cases this
      · rw [if_pos, if_pos (by simp [z])]
        refine r0.2 (fun c hc => ?_)
        cases h2 : (k c i && (s c && !(decide (c = i)))) with
        | false => rfl
        | true => exact absurd (orJ_true.2 ⟨c, hc, h2⟩) z
  have key := pz_srch (fun n (_ : Unit) l => L_X1_leastWithoutSource_2 (E G S N T R B U L C H) 6 x n (some (-1)) l) (fr k s) 16 (some (-1)) (fun d => some (nI d)) (fun _ _ => True)
    (fun n s _ => by rw [L_X1_leastWithoutSource_2, if_pos ex16])
    (fun n d s' hd _ z => ⟨(), trivial, by rw [stp n d hd, if_neg (by rw [z]; decide)]⟩)
    (fun n d s' hd _ z => by rw [stp n d hd, if_pos z])
    FU () (pz_FU (by omega)) trivial
  exact key
theorem md_isLed {G : TG} {S : TS} {N : TN} {T : TT} {R : TR} {B : TB} {U : TU} {L : TL} {C : TC} {H : TH} {t n x : Nat} {k : Nat → Nat → Bool} {v : Nat → Nat → Int64} {y : Int32} {s : Nat → Bool} (hm : MC B.2.2.2.1 B.2.2.2.2 t k v) (ht : t < 8) (h1 : B.2.1 t = nI n) (hn : n ≤ 16) (hin : ∀ r c, r < 16 → c < 16 → k r c = true → r < n ∧ c < n) (hx : x < 16) (hy : rowOK y (fun c => decide (c < n) && !(s c))) : f_X6_isLed (E G S N T R B U L C H) 43 (nI t) (nI x) y = some (bI (orJ (fun z => k z x && (s z && !(decide (z = x)))) 16)) := by
  have key := pz_lpf (fun m s' l => L_X6_isLed_6 (E G S N T R B U L C H) 43 (nI t) (nI x) y m (fun x11 => cz x11 <| some x11) s' l) (some (bI (orJ (fun z => k z x && (s z && !(decide (z = x)))) n))) n (fun i => bI (orJ (fun z => k z x && (s z && !(decide (z = x)))) i))
    (fun m => by rw [L_X6_isLed_6, e_gR43_1, Option.bind_some, e_a45 (by omega), Option.bind_some, h1, if_pos (Int32.le_refl _), cz_bI])
    (fun m i hi => by
      have hi16 : i < 16 := by omega
      rw [L_X6_isLed_6, e_gR43_1, Option.bind_some, e_a45 (by omega), Option.bind_some, h1, if_neg (nI_ge hi (by omega)), nI_1, hy.sh hi16, e_ck43, md_has hm (by omega) hi16 hx, Option.bind_some]
      show _ = L_X6_isLed_6 (E G S N T R B U L C H) 43 (nI t) (nI x) y m _ (bI (orJ (fun z => k z x && (s z && !(decide (z = x)))) i || (k i x && (s i && !(decide (i = x)))))) _
      cases orJ (fun z => k z x && (s z && !(decide (z = x)))) i with
      | true => rw [if_neg (by decide)]; rfl
      | false =>
        rw [if_pos (by decide)]
        by_cases e : i = x
        · subst e; rw [if_pos rfl]; simp [bI]
        · rw [if_neg (fun z => e ((nI_eq (by omega) (by omega)).1 z))]
          have hd : decide (i < n) = true := by simp [hi]
          rw [hd]
          cases s i with
          | false => rw [if_neg (by decide)]; simp [bI]
          | true =>
            rw [if_pos (by decide)]
            cases k i x with
            | false => rw [if_pos (by decide)]; rfl
            | true => rw [if_neg (by decide)]; simp [e, bI])
    n 0 FU (by omega) (pz_FU (by omega))
  have e : orJ (fun z => k z x && (s z && !(decide (z = x)))) 16 = orJ (fun z => k z x && (s z && !(decide (z = x)))) n := orJ_more hn (fun z z1 z2 => by
    have : k z x = false := by
      cases q : k z x
      · rfl
      · exact absurd (hin z x z2 hx q).1 (by omega)
    simp [this])
  rw [e]
  exact key
theorem md_sortx {G : TG} {S : TS} {N : TN} {T : TT} {R : TR} {B : TB} {U : TU} {L : TL} {C : TC} {H : TH} {t n : Nat} {k : Nat → Nat → Bool} {v : Nat → Nat → Int64} {y : Int32} {s : Nat → Bool} (hm : MC B.2.2.2.1 B.2.2.2.2 t k v) (ht : t < 8) (h1 : B.2.1 t = nI n) (hn : n ≤ 16) (hin : ∀ r c, r < 16 → c < 16 → k r c = true → r < n ∧ c < n) (hs : ∀ c, s c = true → c < n) (hy : rowOK y (fun c => decide (c < n) && !(s c))) (hp : lst (fr k s) 16 < 16) (kk : Int32 → Option (HP × Int32)) : L_X6_sort_69 (E G S N T R B U L C H) 43 (nI t) y FU kk 0 = kk (nI (lst (fr k s) 16)) := by
  have hpn : lst (fr k s) 16 < n := by
    have := lst_yes (fr k s) 16 hp
    unfold fr at this
    simp only [Bool.and_eq_true] at this
    exact hs _ this.1
  have stp : ∀ m i, i < n → L_X6_sort_69 (E G S N T R B U L C H) 43 (nI t) y (m + 1) kk (nI i) = if fr k s i = true then kk (nI i) else L_X6_sort_69 (E G S N T R B U L C H) 43 (nI t) y m kk (nI (i + 1)) := by
    intro m i hi
    have hi16 : i < 16 := by omega
    have hd : decide (i < n) = true := by simp [hi]
    rw [L_X6_sort_69, hy.sh hi16, e_ck43, md_isLed hm ht h1 hn hin hi16 hy, Option.bind_some, nI_1, hd]
    unfold fr
    cases s i with
    | false => rw [if_pos (by decide), if_neg (by simp)]
    | true =>
      rw [if_neg (by decide)]
      cases orJ (fun z => k z i && (s z && !(decide (z = i)))) 16 with
      | false => rw [if_pos (by decide), if_pos (by decide)]
      | true => rw [if_neg (by decide), if_neg (by decide)]
  have key := pz_lpf (fun m (_ : Unit) l => L_X6_sort_69 (E G S N T R B U L C H) 43 (nI t) y m kk l) (kk (nI (lst (fr k s) 16))) (lst (fr k s) 16) (fun _ => ())
    (fun m => by rw [stp m _ hpn, if_pos (lst_yes _ _ hp)])
    (fun m i hi => by rw [stp m i (by omega), if_neg (by rw [lst_no _ _ i hi]; decide)])
    (lst (fr k s) 16) 0 FU (by omega) (pz_FU (by omega))
  exact key
theorem x_all {G : TG} {S : TS} {N : TN} {T : TT} {R : TR} {B : TB} {U : TU} {L : TL} {C : TC} {H : TH} {n : Nat} (h : R.1 = nI n) (h1 : 1 ≤ n) (hn : n ≤ 16) : f_X1_allNodes (E G S N T R B U L C H) 6 = some ((1 <<< (nI n &&& 31)) - 1) := by
  unfold f_X1_allNodes
  rw [e_gI6_0, Option.bind_some, h]
  have : f_X5_isSize (nI n) = some 1 := by
    unfold f_X5_isSize
    rw [if_neg (show ¬ nI n < 1 from nI_nlt (b := 1) h1 (by omega)), if_neg (show ¬ 16 < nI n from nI_nlt (a := 16) hn (by decide))]
  rw [this, Option.bind_some, if_neg one_ne, Option.bind_some]
