/-! the first index at which something holds -/
def lst (f : Nat → Bool) : Nat → Nat
  | 0 => 0
  | n + 1 => if lst f n < n then lst f n else if f n = true then n else n + 1
theorem lst_le (f : Nat → Bool) (n : Nat) : lst f n ≤ n := by
  induction n with
  | zero => exact Nat.le_refl _
  | succ n ih => simp only [lst]; split; omega; split <;> omega
theorem lst_no (f : Nat → Bool) (n : Nat) : ∀ i, i < lst f n → f i = false := by
  induction n with
  | zero => intro i hi; exact absurd hi (by simp [lst])
  | succ n ih =>
    intro i hi
    simp only [lst] at hi
    by_cases q : lst f n < n
    · rw [if_pos q] at hi; exact ih i hi
    · have e : lst f n = n := by have := lst_le f n; omega
      rw [if_neg q] at hi
      by_cases q2 : f n = true
      · rw [if_pos q2] at hi; exact ih i (by omega)
      · rw [if_neg q2] at hi
        by_cases e2 : i = n
        · subst e2; simpa using q2
        · exact ih i (by omega)
theorem lst_yes (f : Nat → Bool) (n : Nat) : lst f n < n → f (lst f n) = true := by
  induction n with
  | zero => intro h; exact absurd h (by omega)
  | succ n ih =>
    intro h
    simp only [lst] at h ⊢
    by_cases q : lst f n < n
    · rw [if_pos q]; exact ih q
    · rw [if_neg q] at h ⊢
      by_cases q2 : f n = true
      · rw [if_pos q2]; exact q2
      · rw [if_neg q2] at h; exact absurd h (by omega)
theorem lst_congr {f g : Nat → Bool} {n : Nat} (h : ∀ i, i < n → f i = g i) : lst f n = lst g n := by
  induction n with
  | zero => rfl
  | succ n ih => simp only [lst]; rw [ih (fun i hi => h i (by omega)), h n (by omega)]
/-- a search by a counting loop -/
theorem pz_srch {σ α : Type} (L : Nat → σ → Int32 → Option α) (f : Nat → Bool) (N : Nat) (k : Option α) (y : Nat → Option α) (I : Nat → σ → Prop)
    (hend : ∀ n s, I N s → L (n + 1) s (nI N) = k)
    (hno : ∀ n i s, i < N → I i s → f i = false → ∃ s', I (i + 1) s' ∧ L (n + 1) s (nI i) = L n s' (nI (i + 1)))
    (hyes : ∀ n i s, i < N → I i s → f i = true → L (n + 1) s (nI i) = y i) (m : Nat) (s : σ) (hm : N < m) (h0 : I 0 s) : L m s (nI 0) = if lst f N < N then y (lst f N) else k := by
  by_cases q : lst f N < N
  · rw [if_pos q]
    obtain ⟨s', -, e⟩ := pz_lp L (fun _ => y (lst f N)) (lst f N) I (fun n s hs => hyes n _ s q hs (lst_yes f N q)) (fun n i s hi hs => hno n i s (by omega) hs (lst_no f N i hi)) (lst f N) 0 m s (by omega) (by omega) h0
    exact e
  · have e0 : lst f N = N := by have := lst_le f N; omega
    rw [if_neg q]
    obtain ⟨s', -, e⟩ := pz_lp L (fun _ => k) N I (fun n s hs => hend n s hs) (fun n i s hi hs => hno n i s hi hs (lst_no f N i (by omega))) N 0 m s (by omega) hm h0
    exact e
/-! way -/
theorem SW.same {ρ : Type} {h : HP} {fx : HP → Option (HP × ρ)} {fm : HP → Option ρ} {r : ρ} (o : OK h) (h1 : fx h = some (h, r)) (h2 : fm h = some r) : SW h fx fm := ⟨h, r, h1, o, h2⟩
theorem cmd_way {h : HP} (o : OK h) (x1 x2 x3 : Int32) : SW h (fun h => f_X5_way h 0 x1 x2 x3) (fun h => f_X6_way h 43 x1 x2 x3) := by
  have oo := o
  obtain ⟨G, S, N, T, ⟨gz, ar, ne, re, sj, st, nx⟩, B, U, L, C, H, g, tR, tC, tk, tv, nT, qr, qc, qv, nL, ql, rfl, hK, hw, hM, hr⟩ := o
  cases h1 : tix tR x1 with
  | none =>
    refine SW.same (r := -1) oo ?_ ?_
    · show f_X5_way _ 0 x1 x2 x3 = _
      unfold f_X5_way
      rw [e_ck0, kt_gridAt hK hw, h1, Option.bind_some]; rfl
    · show f_X6_way _ 43 x1 x2 x3 = _
      unfold f_X6_way
      rw [e_ck43, md_isTable hM, h1, Option.bind_some, if_pos bN]
  | some a =>
    obtain ⟨ha, rfl, hRa⟩ := tix_some h1
    obtain ⟨w1, w2⟩ := hw a ha
    obtain ⟨w3, w4, w5, w6, w7⟩ := w2 hRa
    obtain ⟨s1, s2, s3, s4, s5⟩ := hK.1 a ha
    obtain ⟨s6, s7⟩ := s5 hRa
    obtain ⟨b1, b2, b3⟩ := (hM a ha).2 hRa
    have ex : f_X5_way (E G S N T (gz, ar, ne, re, sj, st, nx) B U L C H) 0 (nI a) x2 x3 = if bI (ix (tR a) x2).isSome = 0 then some (E G S N T (gz, ar, ne, re, sj, st, nx) B U L C H, -2) else if bI (ix (tR a) x3).isSome = 0 then some (E G S N T (gz, ar, ne, re, sj, st, nx) B U L C H, -2) else if bI (decide (tR a = tC a)) = 0 then some (E G S N T (gz, ar, ne, re, sj, st, nx) B U L C H, -3) else (f_X1_read (E G S N T (gz, ar, ne, re, sj, st, nx) B U L C H) 6 (g a)).bind fun h19 => (gR 4 h19 0 2).bind fun v21 => ck 0 h19 v21 <| (f_X1_wayLength h19 v21 x2 x3).bind fun v23 => some (h19, v23) := by
      unfold f_X5_way
      rw [e_ck0, kt_gridAt hK hw, h1, Option.bind_some, Option.map_some, om_s, e_ckG s2, g_hasRow s2 s4, Option.bind_some, e_ckG s2, g_hasRow s2 s4, Option.bind_some, e_ckG s2, g_square s2 s4 s6 w1 w4, Option.bind_some, e_gR0_2, Option.bind_some, e_ck6]
    cases e2 : ix (tR a) x2 with
    | none =>
      refine SW.same (r := -2) oo (ex.trans (by rw [e2]; rfl)) ?_
      show f_X6_way _ 43 (nI a) x2 x3 = _
      unfold f_X6_way
      rw [e_ck43, md_isTable hM, h1, Option.bind_some, if_neg bS, e_gR43_1, Option.bind_some, e_a45 (by omega), Option.bind_some, b1]
      rcases ix_none e2 with z | z
      · rw [if_pos z]
      · rw [if_pos z]; split <;> rfl
    | some i =>
      obtain ⟨hi', rfl⟩ := ix_some (by omega) e2
      cases e3 : ix (tR a) x3 with
      | none =>
        refine SW.same (r := -2) oo (ex.trans (by rw [e2, e3]; rfl)) ?_
        show f_X6_way _ 43 (nI a) (nI i) x3 = _
        unfold f_X6_way
        rw [e_ck43, md_isTable hM, h1, Option.bind_some, if_neg bS, if_neg (nI_pos (by omega)), e_gR43_1, Option.bind_some, e_a45 (by omega), Option.bind_some, b1, if_neg (nI_ge hi' (by omega)), Option.bind_some, e_a45 (by omega), Option.bind_some, b1]
        rcases ix_none e3 with z | z
        · rw [if_pos z]
        · rw [if_neg (Int32.not_lt.mpr z)]; split <;> rfl
      | some j =>
        obtain ⟨hj', rfl⟩ := ix_some (by omega) e3
        have em : ∀ R', f_X6_way (E G S N T R' B U L C H) 43 (nI a) (nI i) (nI j) = L_X6_way_44 (E G S N T R' B U L C H) 43 (nI a) (nI i) (nI j) FU (some (-3)) 0 := by
          intro R'
          unfold f_X6_way
          rw [e_ck43, md_isTable hM, h1, Option.bind_some, if_neg bS, if_neg (nI_pos (by omega)), e_gR43_1, Option.bind_some, e_a45 (by omega), Option.bind_some, b1, if_neg (nI_ge hi' (by omega)), if_neg (nI_pos (by omega)), Option.bind_some, e_a45 (by omega), Option.bind_some, b1, if_pos (nI_lt hj' (by omega))]
        rw [e2, e3, if_neg bS, if_neg bS] at ex
        by_cases q : tR a = tC a
        · have hin : ∀ r c, r < 16 → c < 16 → tk a r c = true → r < tR a ∧ c < tR a := fun r c hr hc z => by have := w5 r c hr hc z; omega
          obtain ⟨ar', ne', e4, g1, g2, g3⟩ := x_read (G := G) (S := S) (N := N) (T := T) (B := B) (U := U) (L := L) (C := C) (H := H) (gz := gz) (ar := ar) (ne := ne) (re := re) (sj := sj) (st := st) (nx := nx) s2 s4 s7
          rw [if_neg (by simp [q, bI]), e4, Option.bind_some, e_gR0_2, Option.bind_some, e_ck6] at ex
          have hi16 : i < 16 := by omega
          have hj16 : j < 16 := by omega
          have kx := pz_srch (fun n s l => L_X1_wayLength_24 (E G S N T (nI (tR a), ar', ne', re, sj, st, nx) B U L C H) 6 (nI j) n (some (-3)) s l) (fun d => rs (tk a) i d j) 16 (some (-3)) (fun d => some (nI d)) (fun d s => rowOK s (rs (tk a) i d))
            (fun n s _ => by rw [L_X1_wayLength_24, if_pos ex16])
            (fun n d s hd hs z => by
              obtain ⟨y, e5, hy⟩ := x_targets (G := G) (S := S) (N := N) (T := T) (B := B) (U := U) (L := L) (C := C) (H := H) (R := (nI (tR a), ar', ne', re, sj, st, nx)) g2 hs
              refine ⟨_, hs.or hy, ?_⟩
              rw [L_X1_wayLength_24, if_neg (ge16 hd), hs.hasBit hj16, Option.bind_some, z, if_pos (by decide), e_ck6, e5, Option.bind_some, nI_1])
            (fun n d s hd hs z => by
              rw [L_X1_wayLength_24, if_neg (ge16 hd), hs.hasBit hj16, Option.bind_some, z, if_neg (by decide)])
            FU (1 <<< (nI i &&& 31)) (pz_FU (by decide)) (rowOK.one hi16)
          have km := pz_srch (fun n (_ : Unit) l => L_X6_way_44 (E G S N T (nI (tR a), ar', ne', re, sj, st, nx) B U L C H) 43 (nI a) (nI i) (nI j) n (some (-3)) l) (fun d => rs (tk a) i d j) 16 (some (-3)) (fun d => some (nI d)) (fun _ _ => True)
            (fun n s _ => by rw [L_X6_way_44, if_pos ex16])
            (fun n d s hd _ z => by
              obtain ⟨y, hy, e5⟩ := md_reach (G := G) (S := S) (N := N) (T := T) (R := (nI (tR a), ar', ne', re, sj, st, nx)) (U := U) (L := L) (C := C) (H := H) b3 ha b1 w1 hin hi16 (d := d) (by omega)
              refine ⟨(), trivial, ?_⟩
              rw [L_X6_way_44, if_neg (ge16 hd), e_ck43, md_isGraph (by omega) b1 b2 w1 w4, Option.bind_some, if_neg (by simp [q, bI]), e_ck43, e5, Option.bind_some, hy.sh hj16, z, if_neg (by decide), nI_1])
            (fun n d s hd _ z => by
              obtain ⟨y, hy, e5⟩ := md_reach (G := G) (S := S) (N := N) (T := T) (R := (nI (tR a), ar', ne', re, sj, st, nx)) (U := U) (L := L) (C := C) (H := H) b3 ha b1 w1 hin hi16 (d := d) (by omega)
              rw [L_X6_way_44, if_neg (ge16 hd), e_ck43, md_isGraph (by omega) b1 b2 w1 w4, Option.bind_some, if_neg (by simp [q, bI]), e_ck43, e5, Option.bind_some, hy.sh hj16, z, if_pos (by decide)])
            FU () (pz_FU (by decide)) trivial
          have kx2 : f_X1_wayLength (E G S N T (nI (tR a), ar', ne', re, sj, st, nx) B U L C H) 6 (nI i) (nI j) = if lst (fun d => rs (tk a) i d j) 16 < 16 then some (nI (lst (fun d => rs (tk a) i d j) 16)) else some (-3) := by
            unfold f_X1_wayLength
            rw [pz_line hi16, Option.bind_some, if_neg one_ne, pz_line hj16, Option.bind_some, if_neg one_ne]
            exact kx
          have km2 := (em (nI (tR a), ar', ne', re, sj, st, nx)).trans km
          rw [kx2] at ex
          by_cases z : lst (fun d => rs (tk a) i d j) 16 < 16
          · rw [if_pos z] at ex
            simp only [if_pos z] at km2
            exact ⟨_, _, ex, OK.mk hK hw hM (hr.gr _ _ _ _ _), km2⟩
          · rw [if_neg z] at ex
            simp only [if_neg z] at km2
            exact ⟨_, _, ex, OK.mk hK hw hM (hr.gr _ _ _ _ _), km2⟩
        · refine SW.same (r := -3) oo (ex.trans (by rw [if_pos (by simp [q, bI])])) ((em _).trans ?_)
          rw [show FU = 5999 + 1 from FU_eq, L_X6_way_44, if_neg (by decide), e_ck43, md_isGraph (by omega) b1 b2 w1 w4, Option.bind_some, if_pos (by simp [q, bI])]
/-! what reaches what: one more node between at a time -/
def wr (k : Nat → Nat → Bool) : Nat → Nat → Nat → Bool
  | 0 => fun r c => k r c || decide (c = r)
  | j + 1 => fun r c => wr k j r c || (wr k j r j && wr k j j c)
theorem wr_up {k : Nat → Nat → Bool} {j r c : Nat} (h : wr k j r c = true) : ∀ m, wr k (j + m) r c = true := by
  intro m
  induction m with
  | zero => exact h
  | succ m ih => show (wr k (j + m) r c || _) = true; rw [ih]; rfl
theorem wr_refl (k : Nat → Nat → Bool) (j r : Nat) : wr k j r r = true := by
  have : wr k 0 r r = true := by simp [wr]
  have := wr_up this j
  rwa [Nat.zero_add] at this
theorem wr_sound {k : Nat → Nat → Bool} (P : Nat → Prop) (hP : ∀ x y, x < 16 → y < 16 → P x → k x y = true → P y) : ∀ j r c, j ≤ 16 → r < 16 → c < 16 → wr k j r c = true → P r → P c := by
  intro j
  induction j with
  | zero =>
    intro r c _ hr hc h p
    simp only [wr, Bool.or_eq_true, decide_eq_true_eq] at h
    rcases h with h | h
    · exact hP r c hr hc p h
    · rw [h]; exact p
  | succ j ih =>
    intro r c hj hr hc h p
    simp only [wr, Bool.or_eq_true, Bool.and_eq_true] at h
    rcases h with h | ⟨h1, h2⟩
    · exact ih r c (by omega) hr hc h p
    · exact ih j c (by omega) (by omega) hc h2 (ih r j (by omega) hr (by omega) h1 p)
theorem wr_tr {k : Nat → Nat → Bool} : ∀ j x r y, x < j → wr k j r x = true → wr k j x y = true → wr k j r y = true := by
  intro j
  induction j with
  | zero => intro x r y hx; exact absurd hx (by omega)
  | succ j ih =>
    intro x r y hx h1 h2
    simp only [wr, Bool.or_eq_true, Bool.and_eq_true] at h1 h2 ⊢
    by_cases e : x = j
    · subst e
      have a1 : wr k x r x = true := by rcases h1 with h | h; exact h; exact h.1
      have a2 : wr k x x y = true := by rcases h2 with h | h; exact h; exact h.2
      exact Or.inr ⟨a1, a2⟩
    · have hx' : x < j := by omega
      rcases h1 with h1 | ⟨h1, h1'⟩
      · rcases h2 with h2 | ⟨h2, h2'⟩
        · exact Or.inl (ih x r y hx' h1 h2)
        · exact Or.inr ⟨ih x r j hx' h1 h2, h2'⟩
      · rcases h2 with h2 | ⟨h2, h2'⟩
        · exact Or.inr ⟨h1, ih x j y hx' h1' h2⟩
        · exact Or.inr ⟨h1, h2'⟩
theorem wr_arc {k : Nat → Nat → Bool} {r c : Nat} (h : k r c = true) : wr k 16 r c = true := by
  have : wr k 0 r c = true := by simp [wr, h]
  exact wr_up this 16
theorem rs_up {k : Nat → Nat → Bool} {a d c : Nat} (h : rs k a d c = true) : rs k a (d + 1) c = true := by
  show (rs k a d c || _) = true; rw [h]; rfl
theorem cnt_slt {p q : Nat → Bool} {n i : Nat} (h : ∀ i, i < n → p i = true → q i = true) (hi : i < n) (h1 : p i = false) (h2 : q i = true) : cnt p n < cnt q n := by
  induction n with
  | zero => omega
  | succ n ih =>
    simp only [cnt]
    by_cases e : i = n
    · subst e
      have := cnt_imp (p := p) (q := q) (n := i) (fun j hj => h j (by omega))
      rw [h1, h2]; simp; omega
    · have := ih (fun j hj => h j (by omega)) (by omega)
      by_cases z : p n = true
      · rw [if_pos z, if_pos (h n (by omega) z)]; omega
      · rw [if_neg z]; split <;> omega
theorem rs_st {k : Nat → Nat → Bool} {a e : Nat} (h : ∀ c, c < 16 → rs k a (e + 1) c = rs k a e c) : ∀ c, c < 16 → rs k a (e + 2) c = rs k a (e + 1) c := by
  intro c hc
  have e1 : orJ (fun r => rs k a (e + 1) r && k r c) 16 = orJ (fun r => rs k a e r && k r c) 16 := orJ_congr (fun i hi => by rw [h i hi])
  show (rs k a (e + 1) c || orJ (fun r => rs k a (e + 1) r && k r c) 16) = rs k a (e + 1) c
  rw [e1]
  show ((rs k a e c || orJ (fun r => rs k a e r && k r c) 16) || orJ (fun r => rs k a e r && k r c) 16) = (rs k a e c || orJ (fun r => rs k a e r && k r c) 16)
  cases rs k a e c <;> cases orJ (fun r => rs k a e r && k r c) 16 <;> rfl
theorem rs_st2 {k : Nat → Nat → Bool} {a e : Nat} (h : ∀ c, c < 16 → rs k a (e + 1) c = rs k a e c) : ∀ m c, c < 16 → rs k a (e + m + 1) c = rs k a (e + m) c := by
  intro m
  induction m with
  | zero => exact h
  | succ m ih => exact rs_st ih
theorem rs_gr {k : Nat → Nat → Bool} {a : Nat} (ha : a < 16) : ∀ d, (∃ e, e ≤ d ∧ ∀ c, c < 16 → rs k a (e + 1) c = rs k a e c) ∨ d + 1 ≤ cnt (rs k a d) 16 := by
  intro d
  induction d with
  | zero => right; have := cnt_lt (f := rs k a 0) (p := a) (n := 16) ha (by simp [rs]); omega
  | succ d ih =>
    rcases ih with ⟨e, h1, h2⟩ | h
    · exact Or.inl ⟨e, by omega, h2⟩
    · by_cases q : ∃ c, c < 16 ∧ rs k a d c = false ∧ rs k a (d + 1) c = true
      · obtain ⟨c, c1, c2, c3⟩ := q
        right
        have := cnt_slt (p := rs k a d) (q := rs k a (d + 1)) (n := 16) (fun i _ z => rs_up z) c1 c2 c3
        omega
      · left
        refine ⟨d, by omega, fun c hc => ?_⟩
        cases z : rs k a d c with
        | true => exact rs_up z
        | false =>
          cases z2 : rs k a (d + 1) c with
          | false => rfl
          | true => exact absurd ⟨c, hc, z, z2⟩ q
theorem rs_cl {k : Nat → Nat → Bool} {a : Nat} (ha : a < 16) {r c : Nat} (hr : r < 16) (hc : c < 16) (h : rs k a 16 r = true) (hk : k r c = true) : rs k a 16 c = true := by
  rcases rs_gr (k := k) ha 16 with ⟨e, h1, h2⟩ | h3
  · have := rs_st2 h2 (16 - e) c hc
    rw [show e + (16 - e) = 16 by omega] at this
    rw [← this]
    show (rs k a 16 c || orJ (fun r => rs k a 16 r && k r c) 16) = true
    rw [orJ_true.2 ⟨r, hr, by rw [h, hk]; rfl⟩]; simp
  · have := cnt_le (rs k a 16) 16; omega
theorem rs_wr {k : Nat → Nat → Bool} {a c : Nat} (ha : a < 16) (hc : c < 16) : rs k a 16 c = wr k 16 a c := by
  have A : ∀ d c, c < 16 → rs k a d c = true → wr k 16 a c = true := by
    intro d
    induction d with
    | zero =>
      intro c _ h
      simp only [rs, decide_eq_true_eq] at h
      rw [h]; exact wr_refl k 16 a
    | succ d ih =>
      intro c hc h
      simp only [rs, Bool.or_eq_true] at h
      rcases h with h | h
      · exact ih c hc h
      · obtain ⟨r, hr, h2⟩ := orJ_true.1 h
        simp only [Bool.and_eq_true] at h2
        exact wr_tr 16 r a c hr (ih r hr h2.1) (wr_arc h2.2)
  cases z : rs k a 16 c with
  | true => exact (A 16 c hc z).symm
  | false =>
    cases z2 : wr k 16 a c with
    | false => rfl
    | true =>
      have a0 : rs k a 16 a = true := by
        have : ∀ d, rs k a d a = true := by
          intro d
          induction d with
          | zero => simp [rs]
          | succ d ih => exact rs_up ih
        exact this 16
      have := wr_sound (fun x => rs k a 16 x = true) (fun x y hx hy px hk => rs_cl ha hx hy px hk) 16 a c (by omega) ha hc z2 a0
      rw [z] at this; cases this
