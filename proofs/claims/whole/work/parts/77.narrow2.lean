/-! narrow orders: the class's side -/
theorem bst_allF {s : Nat → Bool} {w : Nat → Nat} : ∀ i, (∀ j, j < i → s j = false) → bst s w i = none := by
  intro i
  induction i with
  | zero => intro _; rfl
  | succ i ih => intro h; simp only [bst]; rw [ih (fun j hj => h j (by omega)), h i (by omega)]; rfl
theorem bst_ex {s : Nat → Bool} {w : Nat → Nat} {i c : Nat} (hc : c < i) (h : s c = true) : ∃ b, bst s w i = some b := by
  cases e : bst s w i with
  | some b => exact ⟨b, rfl⟩
  | none => rw [bst_none i e c hc] at h; cases h
theorem x_few {G : TG} {S : TS} {nu : Nat} {dn : Nat} {nl : Nat → Int32} {it : Nat → Nat → Int32} {T : TT} {R : TR} {B : TB} {U : TU} {L : TL} {C : TC} {H : TH} {n m b : Nat} {k : Nat → Nat → Bool} {x1 : Int32} {s : Nat → Bool} (hD : dn = 15 ∨ dn = 17) (hg : GR R n k) (hl : nl dn = nI m) (hm : m < 16) (h1 : rowOK x1 s) (e : bst s (nw k) 16 = some b) (x2 : Int32) : f_X1_moveFewest (E G S (nu, dn, nl, it) T R B U L C H) 6 x1 x2 dn = some (E G S (nu, dn, va_up nl dn (nI (m + 1)), va_up it dn (upd (it dn) m (nI b))) T R B U L C H, x2 &&& ((1 <<< (nI b &&& 31)) ^^^ (-1))) := by
  have hb := (bst_some 16 b e).1
  have key := pz_lpf (σ := Int32 × Int32) (fun f z l => L_X1_moveFewest_10 (E G S (nu, dn, nl, it) T R B U L C H) 6 x1 f (fun x10 => if 0 ≤ x10 then (ck 2 (E G S (nu, dn, nl, it) T R B U L C H) dn <| (f_X3_append (E G S (nu, dn, nl, it) T R B U L C H) dn x10).bind fun h13 => some (h13, (x2 &&& ((1 <<< (x10 &&& 31)) ^^^ (-1))))) else some (E G S (nu, dn, nl, it) T R B U L C H, x2)) z.1 z.2 l) (some (E G S (nu, dn, va_up nl dn (nI (m + 1)), va_up it dn (upd (it dn) m (nI b))) T R B U L C H, x2 &&& ((1 <<< (nI b &&& 31)) ^^^ (-1)))) 16 (fun i => (bI32 (bst s (nw k) i), wI32 (nw k) (bst s (nw k) i)))
    (fun f => by
      rw [L_X1_moveFewest_10, if_pos ex16, e]
      show (if 0 ≤ nI b then _ else _) = _
      rw [if_pos (nI_pos' (by omega)), e_ckN hD]
      show ((f_X3_append _ dn (nI b)).bind _) = _
      rw [k_append hD hl hm, Option.bind_some]; rfl)
    (fun f i hi => by
      have wi := nw_lt (k := k) hi
      rw [L_X1_moveFewest_10, if_neg (ge16 hi), e_gR6_2, Option.bind_some, e_a8 hi, Option.bind_some, (hg.2.2 i hi).pop, Option.bind_some, h1.hasBit hi, Option.bind_some, nI_1]
      simp only [bst]
      cases q : s i with
      | false =>
        rw [if_pos (by decide)]
        cases bst s (nw k) i <;> simp
      | true =>
        rw [if_neg (by decide)]
        cases e2 : bst s (nw k) i with
        | none =>
          show (if (16 : Int32) ≤ nI (nw k i) then _ else _) = _
          rw [if_neg (ge16 wi)]; rfl
        | some b' =>
          have hb' := (bst_some i b' e2).1
          have wb := nw_lt (k := k) (x := b') (by omega)
          show (if nI (nw k b') ≤ nI (nw k i) then _ else _) = _
          by_cases q2 : nw k i < nw k b'
          · rw [if_neg (nI_ge q2 (by omega))]; simp only [q2, and_self, if_true]; rfl
          · rw [if_pos (nI_le (by omega) (by omega))]; simp only [q2, and_false, if_false])
    16 0 FU (by omega) (pz_FU (by decide))
  unfold f_X1_moveFewest
  exact key
def CN (nu dn : Nat) (nl : Nat → Int32) (it : Nat → Nat → Int32) (N' : TN) (σ : NS) : Prop := ∃ nl' it', N' = (nu, dn, nl', it') ∧ nl' dn = nI σ.m ∧ (∀ j, j < σ.m → it' dn j = nI (σ.q j)) ∧ nl' nu = nl nu ∧ it' nu = it nu
theorem x_few2 {G : TG} {S : TS} {N : TN} {T : TT} {R : TR} {B : TB} {U : TU} {L : TL} {C : TC} {H : TH} {nu dn : Nat} {nl : Nat → Int32} {it : Nat → Nat → Int32} {n b : Nat} {k : Nat → Nat → Bool} {x1 : Int32} {s : Nat → Bool} {σ : NS} (hD : dn = 15 ∨ dn = 17) (hnd : nu ≠ dn) (hg : GR R n k) (hN : CN nu dn nl it N σ) (hm : σ.m < 16) (h1 : rowOK x1 s) (e : bst s (nw k) 16 = some b) (x2 : Int32) : ∃ N', CN nu dn nl it N' (nadd σ b) ∧ f_X1_moveFewest (E G S N T R B U L C H) 6 x1 x2 dn = some (E G S N' T R B U L C H, x2 &&& ((1 <<< (nI b &&& 31)) ^^^ (-1))) := by
  obtain ⟨nl', it', rfl, r1, r2, r3, r4⟩ := hN
  refine ⟨(nu, dn, va_up nl' dn (nI (σ.m + 1)), va_up it' dn (upd (it' dn) σ.m (nI b))), ⟨_, _, rfl, va_up_self _ _ _, fun j hj => ?_, ?_, ?_⟩, x_few hD hg r1 hm h1 e x2⟩
  · rw [va_up_self]
    rw [nadd_m] at hj
    rw [nadd_q]
    by_cases ej : j = σ.m
    · rw [ej, pk_us, va_up_self]
    · rw [pk_un ej, va_up_ne _ _ ej]; exact r2 j (by omega)
  · rw [va_up_ne _ _ hnd]; exact r3
  · rw [va_up_ne _ _ hnd]; exact r4
theorem nfs_add {k : Nat → Nat → Bool} {σ : NS} {f b c : Nat} (hf : f < σ.m) : nfs k (nadd σ b) f c = (nfs k σ f c && !(decide (c = b))) := by
  unfold nfs
  rw [nadd_m, if_pos (by omega), if_pos hf, nadd_q, nadd_s, va_up_ne _ _ (by omega)]
  cases nb k (σ.q f) c <;> simp
theorem x_mvall {G : TG} {S : TS} {N : TN} {T : TT} {R : TR} {B : TB} {mt : Int32} {ta : Nat → Int32} {tw : Nat → Int64} {L : TL} {C : TC} {H : TH} {nu dn n f : Nat} {nl : Nat → Int32} {it : Nat → Nat → Int32} {k : Nat → Nat → Bool} {x1 : Int32} {s0 : Nat → Bool} {p : Nat} (hD : dn = 15 ∨ dn = 17) (hnd : nu ≠ dn) (hg : GR R n k) (hn : n ≤ 16) (hfn : f < n) (h1 : rowOK x1 (fun c => nb k p c && s0 c)) (kk : HP → Int32 → Option (HP × Int32)) : ∀ d j fu r (σ : NS) (N : TN) (x4 : Int32), cnt (nfs k σ f) 16 ≤ d → j + d ≤ 15 → d < fu → (n - σ.m) + (n - f) ≤ r → CN nu dn nl it N σ → rowOK x4 σ.s → NV n σ → f < σ.m → σ.q f = p → (∀ c, σ.s c = true → s0 c = true) → ∃ N' x' r' σ', L_X1_moveAll_6 6 x1 dn fu kk (E G S N T R B (mt, ta, tw) L C H) x4 (nI j) = kk (E G S N' T R B (mt, ta, tw) L C H) x' ∧ CN nu dn nl it N' σ' ∧ rowOK x' σ'.s ∧ NV n σ' ∧ f < σ'.m ∧ (n - σ'.m) + (n - (f + 1)) ≤ r' ∧ mach (nbst k) n r σ f = mach (nbst k) n r' σ' (f + 1) := by
  intro d
  induction d with
  | zero =>
    intro j fu r σ N x4 hc hj hfu hr hN hx hv hf hp hs
    have allF : ∀ c, c < 16 → nfs k σ f c = false := by
      intro c hc'
      cases q : nfs k σ f c with
      | false => rfl
      | true => have := cnt_lt (f := nfs k σ f) hc' q; omega
    have e0 : x1 &&& x4 = 0 := ((h1.and hx).eq0).2 (fun c hc' => by
      have := allF c hc'
      unfold nfs at this
      rw [if_pos hf, hp] at this
      cases q : σ.s c with
      | false => simp
      | true => rw [q] at this; simp only [Bool.and_true] at this ⊢; rw [this]; rfl)
    cases fu with
    | zero => omega
    | succ fu =>
      have el : L_X1_moveAll_6 6 x1 dn (fu + 1) kk (E G S N T R B (mt, ta, tw) L C H) x4 (nI j) = kk (E G S N T R B (mt, ta, tw) L C H) x4 := by
        rw [L_X1_moveAll_6, if_neg (ge16 (by omega)), if_pos e0]
      by_cases q : σ.m = n
      · exact ⟨N, x4, (n - σ.m) + (n - (f + 1)), σ, el, hN, hx, hv, hf, Nat.le_refl _, by rw [mach_done q, mach_done q]⟩
      · have := hv.2.1
        cases r with
        | zero => omega
        | succ r => exact ⟨N, x4, r, σ, el, hN, hx, hv, hf, by omega, mach_none (bf := nbst k) (by omega) (bst_allF 16 allF)⟩
  | succ d ih =>
    intro j fu r σ N x4 hc hj hfu hr hN hx hv hf hp hs
    have hand : rowOK (x1 &&& x4) (nfs k σ f) := (h1.and hx).congr (fun c hc' => by
      unfold nfs
      rw [if_pos hf, hp]
      cases q : σ.s c with
      | false => simp
      | true => rw [hs c q]; simp)
    cases fu with
    | zero => omega
    | succ fu =>
      by_cases hz : x1 &&& x4 = 0
      · have allF := (hand.eq0).1 hz
        have el : L_X1_moveAll_6 6 x1 dn (fu + 1) kk (E G S N T R B (mt, ta, tw) L C H) x4 (nI j) = kk (E G S N T R B (mt, ta, tw) L C H) x4 := by
          rw [L_X1_moveAll_6, if_neg (ge16 (by omega)), if_pos hz]
        by_cases q : σ.m = n
        · exact ⟨N, x4, (n - σ.m) + (n - (f + 1)), σ, el, hN, hx, hv, hf, Nat.le_refl _, by rw [mach_done q, mach_done q]⟩
        · have := hv.2.1
          cases r with
          | zero => omega
          | succ r => exact ⟨N, x4, r, σ, el, hN, hx, hv, hf, by omega, mach_none (bf := nbst k) (by omega) (bst_allF 16 allF)⟩
      · have hne : ∃ c, c < 16 ∧ nfs k σ f c = true := by
          by_cases z : ∃ c, c < 16 ∧ nfs k σ f c = true
          · exact z
          · exfalso
            refine hz ((hand.eq0).2 (fun c hc' => ?_))
            cases q : nfs k σ f c with
            | false => rfl
            | true => exact absurd ⟨c, hc', q⟩ z
        obtain ⟨c, hc', hcs⟩ := hne
        obtain ⟨b, e⟩ := bst_ex (w := nw k) hc' hcs
        obtain ⟨hb, hbs⟩ := bst_some 16 b e
        have hsb := nfs_s hbs
        have hlt := cnt_lt (f := σ.s) hb hsb
        have hv2 := hv.2.1
        have hm16 : σ.m < 16 := by omega
        obtain ⟨N1, c1, e1⟩ := x_few2 (G := G) (S := S) (N := N) (T := T) (R := R) (B := B) (U := (mt, ta, tw)) (L := L) (C := C) (H := H) hD hnd hg hN hm16 hand e x4
        have hcd := cnt_del (s := nfs k σ f) 16 hb hbs
        have hce : cnt (nfs k (nadd σ b) f) 16 = cnt (fun c => nfs k σ f c && !(decide (c = b))) 16 := cnt_congr (fun i _ => nfs_add hf)
        cases r with
        | zero => omega
        | succ r =>
          obtain ⟨N', x', r', σ', u1, u2, u3, u4, u5, u6, u7⟩ := ih (j + 1) fu r (nadd σ b) N1 (x4 &&& ((1 <<< (nI b &&& 31)) ^^^ (-1))) (by omega) (by omega) (by omega) (by rw [nadd_m]; omega) c1 (hx.del hb) (hv.add hb hsb) (by rw [nadd_m]; omega) (by rw [nadd_q, va_up_ne _ _ (by omega)]; exact hp) (fun c z => by rw [nadd_s] at z; simp only [Bool.and_eq_true] at z; exact hs c z.1)
          refine ⟨N', x', r', σ', ?_, u2, u3, u4, u5, u6, ?_⟩
          · rw [L_X1_moveAll_6, if_neg (ge16 (by omega)), if_neg hz, e_ck6, e1, nI_1]
            exact u1
          · rw [mach_some (bf := nbst k) (by omega) e]; exact u7
def NS0 (n : Nat) : NS := (fun c => decide (c < n), 0, fun _ => 0)
theorem NV0 {n : Nat} (hn : n ≤ 16) : NV n (NS0 n) := ⟨fun c h => by simpa [NS0, NS.s] using h, by show cnt (fun c => decide (c < n)) 16 + 0 = n; rw [cnt_dec 16 n hn]; rfl, fun j hj => absurd hj (by show ¬ j < 0; omega)⟩
theorem x_narrow {G : TG} {S : TS} {N : TN} {T : TT} {gz : Int32} {ar : Nat → Int32} {ne : Nat → Int32} {re : Nat → Int32} {sj : Nat → Nat → Int64} {st : Nat} {nx : Nat} {B : TB} {U : TU} {L : TL} {C : TC} {H : TH} {nu dn n : Nat} {nl : Nat → Int32} {it : Nat → Nat → Int32} {k : Nat → Nat → Bool} (hD : dn = 15 ∨ dn = 17) (hnd : nu ≠ dn) (hg : GR (gz, ar, ne, re, sj, st, nx) n k) (h1 : 1 ≤ n) (hn : n ≤ 16) (hN0 : N = (nu, dn, nl, it)) : ∃ N' σ, f_X1_narrowInto (E G S N T (gz, ar, ne, re, sj, st, nx) B U L C H) 6 dn = some (E G S N' T (gz, ar, ne, re, sj, st, nx) B U L C H) ∧ CN nu dn nl it N' σ ∧ NV n σ ∧ σ.m = n ∧ mach (nbst k) n (n + n) (NS0 n) 0 = σ := by
  subst hN0
  obtain ⟨mt, ta, tw⟩ := U
  have hgz : gz = nI n := hg.1
  obtain ⟨⟨h36, x36⟩, ⟨N', σ, r, e, c1, c2, c3, c4, c5, c6⟩, e2⟩ := pz_lp (σ := HP × Int32) (fun m s i => L_X1_narrowInto_11 6 dn m (fun h36 => some h36) s.1 s.2 i) (fun s => some s.1) n
    (fun f s => ∃ N' σ r, s.1 = E G S N' T (gz, ar, ne, re, sj, st, nx) B (mt, ta, tw) L C H ∧ CN nu dn nl it N' σ ∧ rowOK s.2 σ.s ∧ NV n σ ∧ f ≤ σ.m ∧ (n - σ.m) + (n - f) ≤ r ∧ mach (nbst k) n (n + n) (NS0 n) 0 = mach (nbst k) n r σ f)
    (fun m s hI => by
      obtain ⟨s1, s2⟩ := s
      obtain ⟨N', σ, r, rfl, -⟩ := hI
      show L_X1_narrowInto_11 6 dn (m + 1) _ (E G S N' T (gz, ar, ne, re, sj, st, nx) B (mt, ta, tw) L C H) s2 (nI n) = _
      rw [L_X1_narrowInto_11]
      by_cases z : n < 16
      · rw [if_neg (ge16 z), e_gI6_0, Option.bind_some]
        show (if gz ≤ nI n then _ else _) = _
        rw [hgz, if_pos (Int32.le_refl _)]
      · rw [show n = 16 by omega, if_pos (by decide)])
    (fun m f s hf hI => by
      obtain ⟨s1, x⟩ := s
      obtain ⟨N', σ, r, rfl, c1, c2, c3, c4, c5, c6⟩ := hI
      have c2' : rowOK x σ.s := c2
      have hv2 := c3.2.1
      -- the second half, once the front is in the order
      have half : ∀ (N1 : TN) (σ1 : NS) (r1 : Nat) (x1 : Int32), CN nu dn nl it N1 σ1 → rowOK x1 σ1.s → NV n σ1 → f < σ1.m → (n - σ1.m) + (n - f) ≤ r1 → mach (nbst k) n (n + n) (NS0 n) 0 = mach (nbst k) n r1 σ1 f → ∃ s' : HP × Int32, (∃ N' σ r, s'.1 = E G S N' T (gz, ar, ne, re, sj, st, nx) B (mt, ta, tw) L C H ∧ CN nu dn nl it N' σ ∧ rowOK s'.2 σ.s ∧ NV n σ ∧ f + 1 ≤ σ.m ∧ (n - σ.m) + (n - (f + 1)) ≤ r ∧ mach (nbst k) n (n + n) (NS0 n) 0 = mach (nbst k) n r σ (f + 1)) ∧ (ck 2 (E G S N1 T (gz, ar, ne, re, sj, st, nx) B (mt, ta, tw) L C H) dn <| (f_X3_item (E G S N1 T (gz, ar, ne, re, sj, st, nx) B (mt, ta, tw) L C H) dn (nI f)).bind fun v17 => ck 0 (E G S N1 T (gz, ar, ne, re, sj, st, nx) B (mt, ta, tw) L C H) 6 <| (f_X1_neighboursOf (E G S N1 T (gz, ar, ne, re, sj, st, nx) B (mt, ta, tw) L C H) 6 v17).bind fun v20 => ck 0 (E G S N1 T (gz, ar, ne, re, sj, st, nx) B (mt, ta, tw) L C H) 6 <| (f_X1_moveAll (E G S N1 T (gz, ar, ne, re, sj, st, nx) B (mt, ta, tw) L C H) 6 (v20 &&& x1) x1 dn).bind fun (h23, v24) => L_X1_narrowInto_11 6 dn m (fun h36 => some h36) h23 v24 (nI (f + 1))) = L_X1_narrowInto_11 6 dn m (fun h36 => some h36) s'.1 s'.2 (nI (f + 1)) := by
        intro N1 σ1 r1 x1 d1 d2 d3 d4 d5 d6
        have hq := d3.2.2 f d4
        have hitem : N1.2.2.2 dn f = nI (σ1.q f) := by
          obtain ⟨nl', it', rfl, -, r2, -⟩ := d1
          exact r2 f d4
        have hnb : rowOK (ne (σ1.q f)) (nb k (σ1.q f)) := hg.2.2 _ hq
        have hcnt : cnt (nfs k σ1 f) 16 ≤ 15 := by
          have a1 := nw_lt (k := k) hq
          have a2 := cnt_imp (p := nfs k σ1 f) (q := nb k (σ1.q f)) (n := 16) (fun i _ z => by
            unfold nfs at z
            rw [if_pos d4] at z
            simp only [Bool.and_eq_true] at z
            exact z.1)
          unfold nw at a1
          omega
        obtain ⟨N2, x2, r2, σ2, u1, u2, u3, u4, u5, u6, u7⟩ := x_mvall (G := G) (S := S) (N := N1) (T := T) (R := (gz, ar, ne, re, sj, st, nx)) (B := B) (mt := mt) (ta := ta) (tw := tw) (L := L) (C := C) (H := H) hD hnd hg hn hf (hnb.and d2) (fun h7 x8 => some (h7, x8)) 15 0 FU r1 σ1 N1 x1 hcnt (by omega) (pz_FU (by decide)) d5 d1 d2 d3 d4 rfl (fun c z => z)
        refine ⟨(E G S N2 T (gz, ar, ne, re, sj, st, nx) B (mt, ta, tw) L C H, x2), ⟨N2, σ2, r2, rfl, u2, u3, u4, u5, u6, d6.trans u7⟩, ?_⟩
        rw [e_ckN hD, n_item (n := 0) hD (by omega) hitem, Option.bind_some, e_ck6, x_nbof hq, Option.bind_some, e_ck6]
        unfold f_X1_moveAll
        have u1' : L_X1_moveAll_6 6 (ne (σ1.q f) &&& x1) dn FU (fun h7 x8 => some (h7, x8)) (E G S N1 T (gz, ar, ne, re, sj, st, nx) B (mt, ta, tw) L C H) x1 0 = some (E G S N2 T (gz, ar, ne, re, sj, st, nx) B (mt, ta, tw) L C H, x2) := u1
        rw [u1']
        rfl
      have hlen : N'.2.2.1 dn = nI σ.m := by
        obtain ⟨nl', it', rfl, r1, -⟩ := c1
        exact r1
      show ∃ s' : HP × Int32, _ ∧ L_X1_narrowInto_11 6 dn (m + 1) _ (E G S N' T (gz, ar, ne, re, sj, st, nx) B (mt, ta, tw) L C H) x (nI f) = _
      rw [L_X1_narrowInto_11, if_neg (ge16 (by omega)), e_gI6_0, Option.bind_some]
      show ∃ s' : HP × Int32, _ ∧ (if gz ≤ nI f then _ else _) = _
      rw [if_neg (show ¬ gz ≤ nI f by rw [hgz]; exact nI_ge hf (by omega)), e_gIN hD, Option.bind_some, hlen, nI_1]
      by_cases hfm : f = σ.m
      · have hlt : σ.m < n := by omega
        obtain ⟨b, hb⟩ := nfs_all (k := k) (f := f) c3 hlt (by omega)
        have hbs : bst σ.s (nw k) 16 = some b := by
          rw [← hb]
          exact bst_congr 16 (fun j _ => by unfold nfs; rw [if_neg (by omega)])
        obtain ⟨hb16, hsb⟩ := bst_some 16 b hbs
        obtain ⟨N1, d1, e1⟩ := x_few2 (G := G) (S := S) (N := N') (T := T) (R := (gz, ar, ne, re, sj, st, nx)) (B := B) (U := (mt, ta, tw)) (L := L) (C := C) (H := H) hD hnd hg c1 (by omega) c2' hbs x
        cases r with
        | zero => omega
        | succ r =>
          obtain ⟨s', i1, i2⟩ := half N1 (nadd σ b) r (x &&& ((1 <<< (nI b &&& 31)) ^^^ (-1))) d1 (c2'.del hb16) (c3.add hb16 hsb) (by rw [nadd_m]; omega) (by rw [nadd_m]; omega) (by rw [c6, mach_some (bf := nbst k) hlt hb])
          refine ⟨s', i1, ?_⟩
          rw [if_pos (by rw [hfm]), e_ck6, e1]
          exact i2
      · obtain ⟨s', i1, i2⟩ := half N' σ r x c1 c2' c3 (by omega) c5 c6
        refine ⟨s', i1, ?_⟩
        rw [if_neg (fun z => hfm ((nI_eq (by omega) (by omega)).1 z))]
        exact i2)
    n 0 FU (E G S (nu, dn, va_up nl dn 0, it) T (gz, ar, ne, re, sj, st, nx) B (mt, ta, tw) L C H, (1 <<< (nI n &&& 31)) - 1) (by omega) (pz_FU (by omega)) ⟨(nu, dn, va_up nl dn 0, it), NS0 n, n + n, rfl, ⟨_, _, rfl, va_up_self _ _ _, fun j hj => absurd hj (by show ¬ j < 0; omega), va_up_ne _ _ hnd, rfl⟩, rowOK.full n hn, NV0 hn, Nat.zero_le _, by show n - 0 + (n - 0) ≤ n + n; omega, rfl⟩
  have e' : h36 = E G S N' T (gz, ar, ne, re, sj, st, nx) B (mt, ta, tw) L C H := e
  subst e'
  have hmn : σ.m = n := by have := c3.2.1; omega
  refine ⟨N', σ, ?_, c1, c3, hmn, by rw [c6, mach_done hmn]⟩
  unfold f_X1_narrowInto f_X3_clear
  rw [e_ckN hD, e_pIN hD, Option.bind_some, Option.bind_some, e_ck6, x_all (n := n) hgz h1 hn, Option.bind_some]
  exact e2
theorem cmd_narrow {h : HP} (o : OK h) (x1 : Int32) : S2 h (fun h => f_X5_narrow h 0 x1) (fun h => f_X6_narrow h 43 x1) := by
  have oo := o
  obtain ⟨G, S, ⟨nu, dn, nl, it⟩, T, ⟨gz, ar, ne, re, sj, st, nx⟩, B, U, ⟨ml, lo⟩, C, H, g, tR, tC, tk, tv, nT, qr, qc, qv, nL, ql, rfl, hK, hw, hM, hr⟩ := o
  obtain ⟨l1, l2, l3, l4, l5⟩ := hr.2.1
  have hN := nu_mem l2
  have hD := dn_mem l2
  have hnd : nu ≠ dn := by rcases l2 with ⟨h1, h2⟩ | ⟨h1, h2⟩ <;> (simp only [] at h1 h2; omega)
  cases h1 : tix tR x1 with
  | none =>
    refine S2.same (r := -1) oo ?_ ?_
    · show f_X5_narrow _ 0 x1 = _
      unfold f_X5_narrow
      rw [e_ck0, kt_gridAt hK hw, h1, Option.bind_some]; rfl
    · show f_X6_narrow _ 43 x1 = _
      unfold f_X6_narrow
      rw [e_ck43, md_isTable hM, h1, Option.bind_some, if_pos bN]
  | some a =>
    obtain ⟨ha, rfl, hRa⟩ := tix_some h1
    obtain ⟨w1, w2⟩ := hw a ha
    obtain ⟨w3, w4, w5, w6, w7⟩ := w2 hRa
    obtain ⟨s1, s2, s3, s4, s5⟩ := hK.1 a ha
    obtain ⟨s6, s7⟩ := s5 hRa
    obtain ⟨b1, b2, b3⟩ := (hM a ha).2 hRa
    by_cases q : tR a = tC a
    · have hin : ∀ r c, r < 16 → c < 16 → tk a r c = true → r < tR a ∧ c < tR a := fun r c hr hc z => by have := w5 r c hr hc z; omega
      obtain ⟨ar', ne', e4, hg⟩ := x_read (G := G) (S := S) (N := (nu, dn, nl, it)) (T := T) (B := B) (U := U) (L := (ml, lo)) (C := C) (H := H) (gz := gz) (ar := ar) (ne := ne) (re := re) (sj := sj) (st := st) (nx := nx) s2 s4 s7
      generalize hk : tk a = k at *
      generalize hn : tR a = n at *
      obtain ⟨N1, σ, e5, c1, c2, c3, c4⟩ := x_narrow (G := G) (S := S) (N := (nu, dn, nl, it)) (T := T) (B := B) (U := U) (L := (ml, lo)) (C := C) (H := H) hD hnd hg hRa w1 rfl
      obtain ⟨nl', it', rfl, r1, r2, r3, r4⟩ := c1
      rw [c3] at r1 r2
      have c5 := c2.2.2
      rw [c3] at c5
      obtain ⟨lo', u1, u2, u3, u4⟩ := md_narrow (G := G) (S := S) (N := (dn, nu, nl', it')) (T := T) (R := (nI n, ar', ne', re, sj, st, nx)) (B := B) (U := U) (ml := ml) (lo := lo) (C := C) (H := H) b3 ha b1 w1 hin (fun h27 x28 => (pI 5 h27 43 8 x28).bind fun h29 => ck 5 h29 43 <| (f_X6_widthOf h29 43 (nI a)).bind fun v31 => some (h29, v31)) (n + n) (NS0 n) 0 FU lo 0 (NV0 w1) (Nat.zero_le _) (by show n - 0 + (n - 0) ≤ n + n; omega) (pz_FU (by omega)) (rowOK.zero.congr (fun c _ => by simp [NS0, NS.s])) (fun j hj => absurd hj (by show ¬ j < 0; omega))
      rw [c4] at u1 u2 u3
      refine S2.mk (r := nI (wd (nb k) σ.q n)) (E G S (dn, nu, nl', it') T (nI n, ar', ne', re, sj, st, nx) B U (ml, lo) C H) (E G S (dn, nu, nl', it') T (nI n, ar', ne', re, sj, st, nx) B U (nI n, lo') C H) ?_ isE_E ?_ (OK.mk hK hw hM ((hr.gr (nI n) ar' ne' re sj).lst (nL' := n) (ql' := σ.q) ⟨w1, ?_, r1, rfl, fun i hi => ⟨c5 i hi, r2 i hi, u1 i hi⟩⟩))
      · show f_X5_narrow _ 0 (nI a) = _
        unfold f_X5_narrow
        rw [e_ck0, kt_gridAt hK hw, h1, Option.bind_some, Option.map_some, om_s, e_ckG s2, g_square s2 s4 s6 w1 w4, Option.bind_some, if_neg (by simp [q, bI]), e_gR0_2, Option.bind_some, e_ck6, e4, Option.bind_some, e_gR0_2, Option.bind_some, e_gR0_5, Option.bind_some, e_ck6]
        show ((f_X1_narrowInto _ 6 dn).bind _) = _
        rw [e5, Option.bind_some, e_ck0]
        unfold f_X5_putDraftNumbers
        rw [e_gR0_4, Option.bind_some, e_gR0_5, Option.bind_some, e_pR0_4, Option.bind_some, e_pR0_5, Option.bind_some, Option.bind_some, e_gR0_2, Option.bind_some, e_gR0_4, Option.bind_some, e_ck6]
        show ((f_X1_widthOf _ 6 dn).bind _) = _
        rw [x_width hg hD w1 r1 (fun i hi => ⟨c5 i hi, r2 i hi⟩), Option.bind_some]
      · show f_X6_narrow _ 43 (nI a) = _
        unfold f_X6_narrow
        rw [e_ck43, md_isTable hM, h1, Option.bind_some, if_neg bS, e_ck43, md_isGraph (by omega) b1 b2 w1 w4, Option.bind_some, if_neg (by simp [q, bI])]
        refine u4.trans ?_
        show ((pI 5 _ 43 8 (nI n)).bind _) = _
        rw [e_pI43_8, Option.bind_some, e_ck43, md_width b3 ha w1 rfl (fun i hi => ⟨c5 i hi, u1 i hi⟩), Option.bind_some]
      · rcases l2 with ⟨z1, z2⟩ | ⟨z1, z2⟩
        · exact Or.inr ⟨z2, z1⟩
        · exact Or.inl ⟨z2, z1⟩
    · refine S2.same (r := -3) oo ?_ ?_
      · show f_X5_narrow _ 0 (nI a) = _
        unfold f_X5_narrow
        rw [e_ck0, kt_gridAt hK hw, h1, Option.bind_some, Option.map_some, om_s, e_ckG s2, g_square s2 s4 s6 w1 w4, Option.bind_some, if_pos (by simp [q, bI])]
      · show f_X6_narrow _ 43 (nI a) = _
        unfold f_X6_narrow
        rw [e_ck43, md_isTable hM, h1, Option.bind_some, if_neg bS, e_ck43, md_isGraph (by omega) b1 b2 w1 w4, Option.bind_some, if_pos (by simp [q, bI])]
