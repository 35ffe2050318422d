/-- a double loop of the reference over the places of table a that keeps some of them in the new table -/
theorem mop {G : TG} {S : TS} {N : TN} {T : TT} {R : TR} {B : TB} {U : TU} {L : TL} {C : TC} {H : TH} {α : Type} {tR tC : Nat → Nat} {tk : Nat → Nat → Nat → Bool} {tv : Nat → Nat → Nat → Int64} (Lo : Nat → HP → Int32 → Option α) (Li : Int32 → Nat → (HP → Option α) → HP → Int32 → Option α) (kk : HP → Option α) (Bd : Int32 → Nat → (HP → Option α) → HP → Int32 → Option α) (a Rz Cz : Nat) (ha : a < 8) (hR1 : 1 ≤ tR a) (hR : tR a ≤ 16) (hC : tC a ≤ 16) (K : Nat → Nat → Bool) (V : Nat → Nat → Int64)
    (hLo : ∀ n h x, Lo (n + 1) h x = (gR 5 h 43 1).bind fun v => (aI h v (nI a)).bind fun w => if w ≤ x then kk h else Li x FU (fun h' => Lo n h' (x + 1)) h 0)
    (hLi : ∀ x n k' h y, Li x (n + 1) k' h y = (gR 5 h 43 2).bind fun v => (aI h v (nI a)).bind fun w => if w ≤ y then k' h else Bd x n k' h y)
    (hBd : ∀ r c n k' (B : TB), r < tR a → c < tC a → MG B tR tC tk tv → Bd (nI r) n k' (E G S N T R B U L C H) (nI c) = if K r c = true then (f_X6_keep (E G S N T R B U L C H) 43 (nI r) (nI c) (V r c)).bind fun h44 => Li (nI r) n k' h44 (nI c + 1) else Li (nI r) n k' (E G S N T R B U L C H) (nI c + 1))
    (hM : MG B tR tC tk tv) (hS : MS B Rz Cz (fun _ _ => false) (fun _ _ => 0)) :
    ∃ B', MG B' tR tC tk tv ∧ MS B' Rz Cz (fun r c => decide (r < tR a ∧ c < tC a) && K r c) (fun r c => if (decide (r < tR a ∧ c < tC a) && K r c) = true then V r c else 0) ∧ Lo FU (E G S N T R B U L C H) 0 = kk (E G S N T R B' U L C H) := by
  obtain ⟨B', ⟨h1, h2⟩, h3⟩ := mdbl Lo Li kk (fun B => E G S N T R B U L C H) (tR a) (tC a) hR hC
    (fun r0 c0 B => MG B tR tC tk tv ∧ MS B Rz Cz (fun r c => decide (bf r0 c0 r c ∧ c < tC a) && K r c) (fun r c => if (decide (bf r0 c0 r c ∧ c < tC a) && K r c) = true then V r c else 0))
    (fun n B hI => by
      obtain ⟨b1, b2, b3⟩ := (hI.1 a ha).2 hR1
      rw [hLo, e_gR43_1, Option.bind_some, e_a45 (by omega), Option.bind_some, b1, if_pos (Int32.le_refl _)])
    (fun n B r hr hI => by
      obtain ⟨b1, b2, b3⟩ := (hI.1 a ha).2 hR1
      rw [hLo, e_gR43_1, Option.bind_some, e_a45 (by omega), Option.bind_some, b1, if_neg (nI_ge hr (by omega)), nI_1]; rfl)
    (fun r n k' B hr hI => by
      obtain ⟨b1, b2, b3⟩ := (hI.1 a ha).2 hR1
      rw [hLi, e_gR43_2, Option.bind_some, e_a46 (by omega), Option.bind_some, b2, if_pos (Int32.le_refl _)])
    (fun r0 B hr hI => ⟨hI.1, hI.2.congr (fun r c _ _ => by
        have : (bf (r0 + 1) 0 r c ∧ c < tC a) ↔ (bf r0 (tC a) r c ∧ c < tC a) := by unfold bf; omega
        simp only [this]) (fun r c _ _ => by
        have : (bf (r0 + 1) 0 r c ∧ c < tC a) ↔ (bf r0 (tC a) r c ∧ c < tC a) := by unfold bf; omega
        simp only [this])⟩)
    (fun r0 c0 n k' B hr hc hI => by
      obtain ⟨b1, b2, b3⟩ := (hI.1 a ha).2 hR1
      have e0 : Li (nI r0) (n + 1) k' (E G S N T R B U L C H) (nI c0) = Bd (nI r0) n k' (E G S N T R B U L C H) (nI c0) := by
        rw [hLi, e_gR43_2, Option.bind_some, e_a46 (by omega), Option.bind_some, b2, if_neg (nI_ge hc (by omega))]
      have es : ∀ r c, (r = r0 ∧ c = c0) ∨ ((bf r0 (c0 + 1) r c ∧ c < tC a) ↔ (bf r0 c0 r c ∧ c < tC a)) := by
        intro r c
        by_cases e : r = r0 ∧ c = c0
        · exact Or.inl e
        · right; unfold bf; omega
      have en : ¬ (bf r0 c0 r0 c0 ∧ c0 < tC a) := by unfold bf; omega
      have ep : bf r0 (c0 + 1) r0 c0 ∧ c0 < tC a := by unfold bf; omega
      by_cases q : K r0 c0 = true
      · obtain ⟨th, hi, wi, kp, va⟩ := B
        obtain ⟨B', f1, f2, f3⟩ := md_keep (G := G) (S := S) (N := N) (T := T) (R := R) (U := U) (L := L) (C := C) (H := H) hI.1 hI.2 (r := r0) (c := c0) (by omega) (by omega) (V r0 c0)
        refine ⟨B', ⟨f2, f3.congr (fun r c _ _ => ?_) (fun r c _ _ => ?_)⟩, ?_⟩
        · rcases es r c with ⟨rfl, rfl⟩ | h
          · simp [k2, ep, q]
          · by_cases e : r = r0 ∧ c = c0
            · obtain ⟨rfl, rfl⟩ := e; simp [k2, ep, q]
            · have e' : ¬ (r = r0 ∧ c = c0) := fun z => e ⟨by omega, by omega⟩
              simp only [k2, if_neg e', h]
        · rcases es r c with ⟨rfl, rfl⟩ | h
          · simp [v2, ep, q]
          · by_cases e : r = r0 ∧ c = c0
            · obtain ⟨rfl, rfl⟩ := e; simp [v2, ep, q]
            · have e' : ¬ (r = r0 ∧ c = c0) := fun z => e ⟨by omega, by omega⟩
              simp only [v2, if_neg e', h]
        · rw [e0, hBd r0 c0 n k' _ hr hc hI.1, if_pos q, f1, Option.bind_some, nI_1]
      · have q' : K r0 c0 = false := by simpa using q
        refine ⟨B, ⟨hI.1, hI.2.congr (fun r c _ _ => ?_) (fun r c _ _ => ?_)⟩, ?_⟩
        · rcases es r c with ⟨rfl, rfl⟩ | h
          · simp [q']
          · simp only [h]
        · rcases es r c with ⟨rfl, rfl⟩ | h
          · simp [q']
          · simp only [h]
        · rw [e0, hBd r0 c0 n k' _ hr hc hI.1, if_neg q, nI_1])
    B ⟨hM, hS.congr (fun r c _ _ => by simp [bf]) (fun r c _ _ => by simp [bf])⟩
  refine ⟨B', h1, h2.congr (fun r c _ _ => ?_) (fun r c _ _ => ?_), h3⟩
  · have : (bf (tR a) 0 r c ∧ c < tC a) ↔ (r < tR a ∧ c < tC a) := by unfold bf; omega
    simp only [this]
  · have : (bf (tR a) 0 r c ∧ c < tC a) ↔ (r < tR a ∧ c < tC a) := by unfold bf; omega
    simp only [this]
/-- likewise, rows and columns changed about: a double loop of the reference over the places of table a that keeps some of them in the new table -/
theorem mopT {G : TG} {S : TS} {N : TN} {T : TT} {R : TR} {B : TB} {U : TU} {L : TL} {C : TC} {H : TH} {α : Type} {tR tC : Nat → Nat} {tk : Nat → Nat → Nat → Bool} {tv : Nat → Nat → Nat → Int64} (Lo : Nat → HP → Int32 → Option α) (Li : Int32 → Nat → (HP → Option α) → HP → Int32 → Option α) (kk : HP → Option α) (Bd : Int32 → Nat → (HP → Option α) → HP → Int32 → Option α) (a Rz Cz : Nat) (ha : a < 8) (hR1 : 1 ≤ tR a) (hR : tR a ≤ 16) (hC : tC a ≤ 16) (K : Nat → Nat → Bool) (V : Nat → Nat → Int64)
    (hLo : ∀ n h x, Lo (n + 1) h x = (gR 5 h 43 1).bind fun v => (aI h v (nI a)).bind fun w => if w ≤ x then kk h else Li x FU (fun h' => Lo n h' (x + 1)) h 0)
    (hLi : ∀ x n k' h y, Li x (n + 1) k' h y = (gR 5 h 43 2).bind fun v => (aI h v (nI a)).bind fun w => if w ≤ y then k' h else Bd x n k' h y)
    (hBd : ∀ r c n k' (B : TB), r < tR a → c < tC a → MG B tR tC tk tv → Bd (nI r) n k' (E G S N T R B U L C H) (nI c) = if K r c = true then (f_X6_keep (E G S N T R B U L C H) 43 (nI c) (nI r) (V r c)).bind fun h44 => Li (nI r) n k' h44 (nI c + 1) else Li (nI r) n k' (E G S N T R B U L C H) (nI c + 1))
    (hM : MG B tR tC tk tv) (hS : MS B Rz Cz (fun _ _ => false) (fun _ _ => 0)) :
    ∃ B', MG B' tR tC tk tv ∧ MS B' Rz Cz (fun c r => decide (r < tR a ∧ c < tC a) && K r c) (fun c r => if (decide (r < tR a ∧ c < tC a) && K r c) = true then V r c else 0) ∧ Lo FU (E G S N T R B U L C H) 0 = kk (E G S N T R B' U L C H) := by
  obtain ⟨B', ⟨h1, h2⟩, h3⟩ := mdbl Lo Li kk (fun B => E G S N T R B U L C H) (tR a) (tC a) hR hC
    (fun r0 c0 B => MG B tR tC tk tv ∧ MS B Rz Cz (fun c r => decide (bf r0 c0 r c ∧ c < tC a) && K r c) (fun c r => if (decide (bf r0 c0 r c ∧ c < tC a) && K r c) = true then V r c else 0))
    (fun n B hI => by
      obtain ⟨b1, b2, b3⟩ := (hI.1 a ha).2 hR1
      rw [hLo, e_gR43_1, Option.bind_some, e_a45 (by omega), Option.bind_some, b1, if_pos (Int32.le_refl _)])
    (fun n B r hr hI => by
      obtain ⟨b1, b2, b3⟩ := (hI.1 a ha).2 hR1
      rw [hLo, e_gR43_1, Option.bind_some, e_a45 (by omega), Option.bind_some, b1, if_neg (nI_ge hr (by omega)), nI_1]; rfl)
    (fun r n k' B hr hI => by
      obtain ⟨b1, b2, b3⟩ := (hI.1 a ha).2 hR1
      rw [hLi, e_gR43_2, Option.bind_some, e_a46 (by omega), Option.bind_some, b2, if_pos (Int32.le_refl _)])
    (fun r0 B hr hI => ⟨hI.1, hI.2.congr (fun c r _ _ => by
        have : (bf (r0 + 1) 0 r c ∧ c < tC a) ↔ (bf r0 (tC a) r c ∧ c < tC a) := by unfold bf; omega
        simp only [this]) (fun c r _ _ => by
        have : (bf (r0 + 1) 0 r c ∧ c < tC a) ↔ (bf r0 (tC a) r c ∧ c < tC a) := by unfold bf; omega
        simp only [this])⟩)
    (fun r0 c0 n k' B hr hc hI => by
      obtain ⟨b1, b2, b3⟩ := (hI.1 a ha).2 hR1
      have e0 : Li (nI r0) (n + 1) k' (E G S N T R B U L C H) (nI c0) = Bd (nI r0) n k' (E G S N T R B U L C H) (nI c0) := by
        rw [hLi, e_gR43_2, Option.bind_some, e_a46 (by omega), Option.bind_some, b2, if_neg (nI_ge hc (by omega))]
      have es : ∀ r c, (r = r0 ∧ c = c0) ∨ ((bf r0 (c0 + 1) r c ∧ c < tC a) ↔ (bf r0 c0 r c ∧ c < tC a)) := by
        intro r c
        by_cases e : r = r0 ∧ c = c0
        · exact Or.inl e
        · right; unfold bf; omega
      have en : ¬ (bf r0 c0 r0 c0 ∧ c0 < tC a) := by unfold bf; omega
      have ep : bf r0 (c0 + 1) r0 c0 ∧ c0 < tC a := by unfold bf; omega
      by_cases q : K r0 c0 = true
      · obtain ⟨th, hi, wi, kp, va⟩ := B
        obtain ⟨B', f1, f2, f3⟩ := md_keep (G := G) (S := S) (N := N) (T := T) (R := R) (U := U) (L := L) (C := C) (H := H) hI.1 hI.2 (r := c0) (c := r0) (by omega) (by omega) (V r0 c0)
        refine ⟨B', ⟨f2, f3.congr (fun c r _ _ => ?_) (fun c r _ _ => ?_)⟩, ?_⟩
        · rcases es r c with ⟨rfl, rfl⟩ | h
          · simp [k2, ep, q]
          · by_cases e : r = r0 ∧ c = c0
            · obtain ⟨rfl, rfl⟩ := e; simp [k2, ep, q]
            · have e' : ¬ (c = c0 ∧ r = r0) := fun z => e ⟨by omega, by omega⟩
              simp only [k2, if_neg e', h]
        · rcases es r c with ⟨rfl, rfl⟩ | h
          · simp [v2, ep, q]
          · by_cases e : r = r0 ∧ c = c0
            · obtain ⟨rfl, rfl⟩ := e; simp [v2, ep, q]
            · have e' : ¬ (c = c0 ∧ r = r0) := fun z => e ⟨by omega, by omega⟩
              simp only [v2, if_neg e', h]
        · rw [e0, hBd r0 c0 n k' _ hr hc hI.1, if_pos q, f1, Option.bind_some, nI_1]
      · have q' : K r0 c0 = false := by simpa using q
        refine ⟨B, ⟨hI.1, hI.2.congr (fun c r _ _ => ?_) (fun c r _ _ => ?_)⟩, ?_⟩
        · rcases es r c with ⟨rfl, rfl⟩ | h
          · simp [q']
          · simp only [h]
        · rcases es r c with ⟨rfl, rfl⟩ | h
          · simp [q']
          · simp only [h]
        · rw [e0, hBd r0 c0 n k' _ hr hc hI.1, if_neg q, nI_1])
    B ⟨hM, hS.congr (fun c r _ _ => by simp [bf]) (fun c r _ _ => by simp [bf])⟩
  refine ⟨B', h1, h2.congr (fun c r _ _ => ?_) (fun c r _ _ => ?_), h3⟩
  · have : (bf (tR a) 0 r c ∧ c < tC a) ↔ (r < tR a ∧ c < tC a) := by unfold bf; omega
    simp only [this]
  · have : (bf (tR a) 0 r c ∧ c < tC a) ↔ (r < tR a ∧ c < tC a) := by unfold bf; omega
    simp only [this]
