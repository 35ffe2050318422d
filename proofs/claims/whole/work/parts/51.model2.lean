/-- counting loops that do not begin at 0, the state known at each count -/
theorem pz_lpfo {σ α : Type} (L : Nat → σ → Int32 → Option α) (r : Option α) (o N : Nat) (F : Nat → σ)
    (hx : ∀ n, L (n + 1) (F N) (nI (o + N)) = r)
    (hs : ∀ n i, i < N → L (n + 1) (F i) (nI (o + i)) = L n (F (i + 1)) (nI (o + i + 1))) :
    ∀ n, N < n → L n (F 0) (nI (o + 0)) = r := by
  intro n hn
  obtain ⟨s', e, h⟩ := pz_lpo L (fun _ => r) o N (fun i s => s = F i) (fun n s e => by subst e; exact hx n) (fun n i s hi e => ⟨F (i + 1), rfl, by subst e; exact hs n i hi⟩) N 0 n (F 0) (by omega) hn rfl
  exact h
theorem m256 {t : Nat} : (256 : Int32) * nI t = nI (256 * t) := by rw [show (256 : Int32) = nI 256 from rfl, pk_mul]
theorem m256b {t : Nat} : ((256 : Int32) * nI t) + 256 = nI (256 * t + 256) := by rw [m256, show (256 : Int32) = nI 256 from rfl, nI_add]
theorem MC.at {kp : Nat → Int32} {va : Nat → Int64} {t : Nat} {k : Nat → Nat → Bool} {v : Nat → Nat → Int64} (h : MC kp va t k v) {p : Nat} (hp : p < 256) : kp (256 * t + p) = bI (kf k p) ∧ va (256 * t + p) = v (p / 16) (p % 16) := by
  have := h (p / 16) (p % 16) (by omega) (by omega)
  rw [show 16 * (p / 16) + p % 16 = p by omega] at this
  exact this
theorem cnt_step {f : Nat → Bool} {i : Nat} : cnt f (i + 1) = cnt f i + (if f i = true then 1 else 0) := rfl
theorem md_many {G : TG} {S : TS} {N : TN} {T : TT} {R : TR} {B : TB} {U : TU} {L : TL} {C : TC} {H : TH} {t : Nat} {k : Nat → Nat → Bool} {v : Nat → Nat → Int64} (hm : MC B.2.2.2.1 B.2.2.2.2 t k v) (ht : t ≤ 8) : f_X6_many (E G S N T R B U L C H) 43 (nI t) = some (nI (cnt (kf k) 256)) := by
  have key := pz_lpfo (fun n s i => L_X6_many_8 (E G S N T R B U L C H) 43 (nI t) n (fun x5 => some x5) s i) (some (nI (cnt (kf k) 256))) (256 * t) 256 (fun i => nI (cnt (kf k) i))
    (fun n => by rw [L_X6_many_8, m256b, if_pos (Int32.le_refl _)])
    (fun n i hi => by
      rw [L_X6_many_8, m256b, if_neg (nI_ge (by omega) (by omega)), e_gR43_3, Option.bind_some, e_a47 (by omega), Option.bind_some, (hm.at hi).1, nI_1]
      by_cases q : kf k i = true
      · rw [q, if_neg (by decide), nI_1, cnt_step, if_pos q]
      · have q' : kf k i = false := by simpa using q
        rw [q', if_pos (by decide), show (0 : Int32) = nI 0 from rfl, nI_add, cnt_step, if_neg q]) FU (pz_FU (by decide))
  unfold f_X6_many
  rw [m256]
  exact key
theorem ahead256 (k : Nat → Nat → Bool) : cnt (kf k) 256 = ahead k 16 := by rw [ahead_kf]
theorem md_putAt {G : TG} {S : TS} {N : TN} {T : TT} {R : TR} {th : Nat → Int32} {hi : Nat → Int32} {wi : Nat → Int32} {kp : Nat → Int32} {va : Nat → Int64} {U : TU} {L : TL} {C : TC} {H : TH} {tR tC : Nat → Nat} {tk : Nat → Nat → Nat → Bool} {tv : Nat → Nat → Nat → Int64} {R0 C0 t : Nat} {k : Nat → Nat → Bool} {v : Nat → Nat → Int64} (hM : MG (th, hi, wi, kp, va) tR tC tk tv) (hS : MS (th, hi, wi, kp, va) R0 C0 k v) (hR : 1 ≤ R0) (ht : t < 8) : ∃ B', f_X6_putAt (E G S N T R (th, hi, wi, kp, va) U L C H) 43 (nI t) = (if ahead k 16 ≤ 128 then some (E G S N T R B' U L C H, nI (ahead k 16)) else some ((E G S N T R (th, hi, wi, kp, va) U L C H), -4)) ∧ MG B' (va_up tR t R0) (va_up tC t C0) (va_up tk t k) (va_up tv t v) := by
  have hal : ahead k 16 ≤ 256 := ahead_le k 16
  obtain ⟨s', ⟨kp', va', e, f1, f2⟩, e2⟩ := pz_lp (fun n h i => L_X6_putAt_52 43 (nI t) n (fun h24 => some (h24, nI (ahead k 16))) h i) (fun h24 => some (h24, nI (ahead k 16))) 256
    (fun i h => ∃ kp' va', h = (E G S N T R (upd th t 1, upd hi t (nI R0), upd wi t (nI C0), kp', va') U L C H) ∧ (∀ p, (p < 256 * t ∨ 256 * t + 256 ≤ p) → kp' p = kp p ∧ va' p = va p) ∧ ∀ p, p < i → kp' (256 * t + p) = kp (2048 + p) ∧ va' (256 * t + p) = va (2048 + p))
    (fun n s _ => by simp only [L_X6_putAt_52, if_pos ex256])
    (fun n i s hi' hI => by
      obtain ⟨kp', va', rfl, f1, f2⟩ := hI
      have hb : kp (2048 + i) = bI (kf k i) := (hS.2.2.at hi').1
      have hn : vp_nar .boolean (kp (2048 + i)) = kp (2048 + i) := by rw [hb]; cases kf k i <;> decide
      refine ⟨_, ⟨upd kp' (256 * t + i) (kp (2048 + i)), vp_updL va' (256 * t + i) (va (2048 + i)), rfl, fun p hp => ?_, fun p hp => ?_⟩, ?_⟩
      · rw [pk_un (by omega), pk_uLn (by omega)]; exact f1 p hp
      · by_cases e : p = i
        · subst e; exact ⟨pk_us, pk_uLs⟩
        · rw [pk_un (by omega), pk_uLn (by omega)]; exact f2 p (by omega)
      · have g1 := (f1 (2048 + i) (by omega)).1
        have g2 := (f1 (2048 + i) (by omega)).2
        rw [L_X6_putAt_52, if_neg (ge256 hi'), show (2048 : Int32) = nI 2048 from rfl, nI_add, m256, nI_add, e_gR43_3, Option.bind_some, Option.bind_some, e_a47 (by omega), Option.bind_some, e_s47 (by omega), Option.bind_some, e_gR43_4, Option.bind_some, Option.bind_some, e_a48 (by omega), Option.bind_some, e_s48 (by omega), Option.bind_some, nI_1]
        show L_X6_putAt_52 43 (nI t) n _ (E G S N T R (upd th t 1, upd hi t (nI R0), upd wi t (nI C0), upd kp' (256 * t + i) (vp_nar .boolean (kp' (2048 + i))), vp_updL va' (256 * t + i) (va' (2048 + i))) U L C H) _ = _
        rw [g1, g2, hn]) 256 0 FU (E G S N T R (upd th t 1, upd hi t (nI R0), upd wi t (nI C0), kp, va) U L C H) rfl (pz_FU (by decide)) ⟨kp, va, rfl, fun p _ => ⟨rfl, rfl⟩, fun p hp => absurd hp (by omega)⟩
  subst e
  refine ⟨(upd th t 1, upd hi t (nI R0), upd wi t (nI C0), kp', va'), ?_, fun t' ht' => ?_⟩
  · unfold f_X6_putAt
    rw [e_ck43, show (8 : Int32) = nI 8 from rfl, md_many hS.2.2 (Nat.le_refl 8), Option.bind_some, ahead256]
    by_cases q : ahead k 16 ≤ 128
    · rw [if_pos (show nI (ahead k 16) ≤ 128 from nI_le q (by decide)), if_pos q, e_gR43_0, Option.bind_some, e_s44 (by omega), Option.bind_some, pz_nz1, e_gR43_1, Option.bind_some, Option.bind_some, e_a45 (by decide), Option.bind_some, e_s45 (by omega), Option.bind_some, e_gR43_2, Option.bind_some, Option.bind_some, e_a46 (by decide), Option.bind_some, e_s46 (by omega), Option.bind_some]
      show L_X6_putAt_52 43 (nI t) FU _ (E G S N T R (upd th t 1, upd hi t (hi 8), upd wi t (wi 8), kp, va) U L C H) 0 = _
      rw [show hi 8 = nI R0 from hS.1, show wi 8 = nI C0 from hS.2.1]
      exact e2
    · rw [if_neg (show ¬ nI (ahead k 16) ≤ 128 from nI_ge (a := 128) (by omega) (by omega)), if_neg q]
  · by_cases e : t' = t
    · subst e
      rw [va_up_self, va_up_self, va_up_self, va_up_self]
      refine ⟨?_, fun _ => ⟨pk_us, pk_us, fun r c hr hc => ?_⟩⟩
      · show upd th t' 1 t' = _
        rw [pk_us]; simp [bI, hR]
      · obtain ⟨a1, a2⟩ := f2 (16 * r + c) (by omega)
        obtain ⟨b1, b2⟩ := hS.2.2 r c hr hc
        exact ⟨a1.trans b1, a2.trans b2⟩
    · have e2 : va_up tR t R0 t' = tR t' := va_up_ne _ _ e
      have e3 : va_up tC t C0 t' = tC t' := va_up_ne _ _ e
      have e4 : va_up tk t k t' = tk t' := va_up_ne _ _ e
      have e5 : va_up tv t v t' = tv t' := va_up_ne _ _ e
      rw [e2, e3, e4, e5]
      obtain ⟨a1, a2⟩ := hM t' ht'
      refine ⟨(pk_un e).trans a1, fun q => ?_⟩
      obtain ⟨b1, b2, b3⟩ := a2 q
      refine ⟨(pk_un e).trans b1, (pk_un e).trans b2, fun r c hr hc => ?_⟩
      obtain ⟨d1, d2⟩ := f1 (256 * t' + (16 * r + c)) (by omega)
      obtain ⟨c1, c2⟩ := b3 r c hr hc
      exact ⟨d1.trans c1, d2.trans c2⟩
theorem md_take {G : TG} {S : TS} {N : TN} {T : TT} {R : TR} {th : Nat → Int32} {hi : Nat → Int32} {wi : Nat → Int32} {kp : Nat → Int32} {va : Nat → Int64} {U : TU} {L : TL} {C : TC} {H : TH} {tR tC : Nat → Nat} {tk : Nat → Nat → Nat → Bool} {tv : Nat → Nat → Nat → Int64} {t : Nat} (hM : MG (th, hi, wi, kp, va) tR tC tk tv) (ht : t < 8) (hR : 1 ≤ tR t) : ∃ B', f_X6_take (E G S N T R (th, hi, wi, kp, va) U L C H) 43 (nI t) = some (E G S N T R B' U L C H) ∧ MG B' tR tC tk tv ∧ MS B' (tR t) (tC t) (tk t) (tv t) := by
  obtain ⟨h1, h2, h3⟩ := (hM t ht).2 hR
  obtain ⟨⟨th1, hi1, wi1, kp1, va1⟩, e0, hM1, hS1⟩ := md_begin (G := G) (S := S) (N := N) (T := T) (R := R) (U := U) (L := L) (C := C) (H := H) (R0 := tR t) (C0 := tC t) hM
  obtain ⟨-, -, g3⟩ := (hM1 t ht).2 hR
  obtain ⟨s', ⟨kp', va', e, f1, f2⟩, e2⟩ := pz_lp (fun n h i => L_X6_take_18 43 (nI t) n (fun h17 => some h17) h i) (fun h17 => some h17) 256
    (fun i h => ∃ kp' va', h = (E G S N T R (th1, hi1, wi1, kp', va') U L C H) ∧ (∀ p, p < 2048 → kp' p = kp1 p ∧ va' p = va1 p) ∧ ∀ p, p < i → kp' (2048 + p) = kp1 (256 * t + p) ∧ va' (2048 + p) = va1 (256 * t + p))
    (fun n s _ => by simp only [L_X6_take_18, if_pos ex256])
    (fun n i s hi' hI => by
      obtain ⟨kp', va', rfl, f1, f2⟩ := hI
      have hb : kp1 (256 * t + i) = bI (kf (tk t) i) := (g3.at hi').1
      have hn : vp_nar .boolean (kp1 (256 * t + i)) = kp1 (256 * t + i) := by rw [hb]; cases kf (tk t) i <;> decide
      refine ⟨_, ⟨upd kp' (2048 + i) (kp1 (256 * t + i)), vp_updL va' (2048 + i) (va1 (256 * t + i)), rfl, fun p hp => ?_, fun p hp => ?_⟩, ?_⟩
      · rw [pk_un (by omega), pk_uLn (by omega)]; exact f1 p hp
      · by_cases e : p = i
        · subst e; exact ⟨pk_us, pk_uLs⟩
        · rw [pk_un (by omega), pk_uLn (by omega)]; exact f2 p (by omega)
      · have q1 := (f1 (256 * t + i) (by omega)).1
        have q2 := (f1 (256 * t + i) (by omega)).2
        rw [L_X6_take_18, if_neg (ge256 hi'), show (2048 : Int32) = nI 2048 from rfl, nI_add, m256, nI_add, e_gR43_3, Option.bind_some, Option.bind_some, e_a47 (by omega), Option.bind_some, e_s47 (by omega), Option.bind_some, e_gR43_4, Option.bind_some, Option.bind_some, e_a48 (by omega), Option.bind_some, e_s48 (by omega), Option.bind_some, nI_1]
        show L_X6_take_18 43 (nI t) n _ (E G S N T R (th1, hi1, wi1, upd kp' (2048 + i) (vp_nar .boolean (kp' (256 * t + i))), vp_updL va' (2048 + i) (va' (256 * t + i))) U L C H) _ = _
        rw [q1, q2, hn]) 256 0 FU (E G S N T R (th1, hi1, wi1, kp1, va1) U L C H) rfl (pz_FU (by decide)) ⟨kp1, va1, rfl, fun p _ => ⟨rfl, rfl⟩, fun p hp => absurd hp (by omega)⟩
  subst e
  refine ⟨(th1, hi1, wi1, kp', va'), ?_, hM1.scratch (fun _ _ => rfl) (fun _ _ => rfl) (fun p hp => (f1 p hp).1) (fun p hp => (f1 p hp).2), hS1.1, hS1.2.1, fun r c hr hc => ?_⟩
  · unfold f_X6_take
    rw [e_gR43_1, Option.bind_some, e_a45 (by omega), Option.bind_some, e_gR43_2, Option.bind_some, e_a46 (by omega), Option.bind_some, e_ck43]
    show (f_X6_begin (E G S N T R (th, hi, wi, kp, va) U L C H) 43 (hi t) (wi t)).bind _ = _
    rw [show hi t = nI (tR t) from h1, show wi t = nI (tC t) from h2, e0, Option.bind_some]
    exact e2
  · obtain ⟨a1, a2⟩ := f2 (16 * r + c) (by omega)
    obtain ⟨b1, b2⟩ := g3 r c hr hc
    exact ⟨a1.trans b1, a2.trans b2⟩
/-- a double loop of the reference over the places of a table, in their order -/
abbrev bf (r c r' c' : Nat) : Prop := r' < r ∨ (r' = r ∧ c' < c)
theorem mdbl {α : Type} (Lo : Nat → HP → Int32 → Option α) (Li : Int32 → Nat → (HP → Option α) → HP → Int32 → Option α) (kk : HP → Option α) (St : TB → HP) (R0 C0 : Nat) (hR : R0 ≤ 16) (hC : C0 ≤ 16) (I : Nat → Nat → TB → Prop)
    (hox : ∀ n B, I R0 0 B → Lo (n + 1) (St B) (nI R0) = kk (St B))
    (hos : ∀ n B r, r < R0 → I r 0 B → Lo (n + 1) (St B) (nI r) = Li (nI r) FU (fun h' => Lo n h' (nI (r + 1))) (St B) (nI 0))
    (hix : ∀ r n k' B, r < R0 → I r C0 B → Li (nI r) (n + 1) k' (St B) (nI C0) = k' (St B))
    (hrow : ∀ r B, r < R0 → I r C0 B → I (r + 1) 0 B)
    (hst : ∀ r c n k' B, r < R0 → c < C0 → I r c B → ∃ B', I r (c + 1) B' ∧ Li (nI r) (n + 1) k' (St B) (nI c) = Li (nI r) n k' (St B') (nI (c + 1)))
    (B : TB) (h0 : I 0 0 B) : ∃ B', I R0 0 B' ∧ Lo FU (St B) (nI 0) = kk (St B') := by
  have inner : ∀ r, r < R0 → ∀ k' B, I r 0 B → ∃ B', I (r + 1) 0 B' ∧ Li (nI r) FU k' (St B) (nI 0) = k' (St B') := by
    intro r hr k' B hB
    obtain ⟨s', ⟨B', e, hB'⟩, e2⟩ := pz_lp (fun n h c => Li (nI r) n k' h c) k' C0 (fun c h => ∃ B, h = St B ∧ I r c B)
      (fun n s hI => by obtain ⟨B, rfl, hB⟩ := hI; exact hix r n k' B hr hB)
      (fun n c s hc hI => by
        obtain ⟨B, rfl, hB⟩ := hI
        obtain ⟨B', h1, h2⟩ := hst r c n k' B hr hc hB
        exact ⟨_, ⟨B', rfl, h1⟩, h2⟩) C0 0 FU (St B) (by omega) (pz_FU (by omega)) ⟨B, rfl, hB⟩
    subst e
    exact ⟨B', hrow r B' hr hB', e2⟩
  obtain ⟨s', ⟨B', e, hB'⟩, e2⟩ := pz_lp Lo kk R0 (fun r h => ∃ B, h = St B ∧ I r 0 B)
    (fun n s hI => by obtain ⟨B, rfl, hB⟩ := hI; exact hox n B hB)
    (fun n r s hr hI => by
      obtain ⟨B, rfl, hB⟩ := hI
      obtain ⟨B', h1, h2⟩ := inner r hr (fun h' => Lo n h' (nI (r + 1))) B hB
      exact ⟨_, ⟨B', rfl, h1⟩, by rw [hos n _ r hr hB, h2]⟩) R0 0 FU (St B) (by omega) (pz_FU (by omega)) ⟨B, rfl, h0⟩
  subst e
  exact ⟨B', hB', e2⟩
