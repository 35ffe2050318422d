abbrev TG : Type := (Nat → Int32) × (Nat → Int32) × (Nat → Nat → Int32) × (Nat → Nat → Int64)
abbrev TS : Type := (Nat → Option Nat) × (Nat)
abbrev TN : Type := (Nat) × (Nat) × (Nat → Int32) × (Nat → Nat → Int32)
abbrev TT : Type := (Int32) × (Nat → Int32) × (Nat → Int32) × (Nat → Int64)
abbrev TR : Type := (Int32) × (Nat → Int32) × (Nat → Int32) × (Nat → Int32) × (Nat → Nat → Int64) × (Nat) × (Nat)
abbrev TB : Type := (Nat → Int32) × (Nat → Int32) × (Nat → Int32) × (Nat → Int32) × (Nat → Int64)
abbrev TU : Type := (Int32) × (Nat → Int32) × (Nat → Int64)
abbrev TL : Type := (Int32) × (Nat → Int32)
abbrev TC : Type := (Nat → Int64) × (Int32)
abbrev TH : Type := (Nat → Int64) × (Nat → Int64)
def isG (a : Nat) : Bool := a == 12 || (decide (19 ≤ a) && decide (a ≤ 40) && a % 3 == 1)
theorem isG_cases {a : Nat} (h : isG a = true) : a = 12 ∨ a = 19 ∨ a = 22 ∨ a = 25 ∨ a = 28 ∨ a = 31 ∨ a = 34 ∨ a = 37 ∨ a = 40 := by
  simp [isG] at h
  omega
theorem isG_lo {a : Nat} (h : isG a = true) : 12 ≤ a ∧ a + 2 < NC := by
  have := isG_cases h
  unfold NC
  omega
def E (G : TG) (S : TS) (N : TN) (T : TT) (R : TR) (B : TB) (U : TU) (L : TL) (C : TC) (H : TH) : HP := fun a =>
  if a = 0 then .inl (4, [.ref 1, .ref 2, .ref 6, .ref (S.2), .ref (N.1), .ref (N.2.1)]) else
  if a = 1 then .inr (8, .inr (.inr (.inr (S.1)))) else
  if a = 2 then .inl (3, [.int (T.1), .ref 3, .ref 4, .ref 5]) else
  if a = 3 then .inr (64, .inl (T.2.1)) else
  if a = 4 then .inr (64, .inl (T.2.2.1)) else
  if a = 5 then .inr (64, .inr (.inl (T.2.2.2))) else
  if a = 6 then .inl (0, [.int (R.1), .ref 7, .ref 8, .ref 9, .ref (R.2.2.2.2.2.1), .ref (R.2.2.2.2.2.2)]) else
  if a = 7 then .inr (16, .inl (R.2.1)) else
  if a = 8 then .inr (16, .inl (R.2.2.1)) else
  if a = 9 then .inr (16, .inl (R.2.2.2.1)) else
  if a = 10 ∨ a = 11 then .inr (16, .inr (.inl (((R.2.2.2.2.1)) a))) else
  if a = 15 ∨ a = 17 then .inl (2, [.int (((N.2.2.1)) a), .ref (a + 1)]) else
  if a = 16 ∨ a = 18 then .inr (16, .inl (((N.2.2.2)) (a - 1))) else
  if isG a = true then .inl (1, [.int (((G.1)) a), .int (((G.2.1)) a), .ref (a + 1), .ref (a + 2)]) else
  if isG (a - 1) = true then .inr (16, .inl (((G.2.2.1)) (a - 1))) else
  if isG (a - 2) = true then .inr (256, .inr (.inl (((G.2.2.2)) (a - 2)))) else
  if a = 43 then .inl (5, [.ref 44, .ref 45, .ref 46, .ref 47, .ref 48, .int (U.1), .ref 49, .ref 50, .int (L.1), .ref 51, .ref 52, .int (C.2), .ref 53, .ref 54]) else
  if a = 44 then .inr (9, .inr (.inr (.inl (B.1)))) else
  if a = 45 then .inr (9, .inl (B.2.1)) else
  if a = 46 then .inr (9, .inl (B.2.2.1)) else
  if a = 47 then .inr (2304, .inr (.inr (.inl (B.2.2.2.1)))) else
  if a = 48 then .inr (2304, .inr (.inl (B.2.2.2.2))) else
  if a = 49 then .inr (64, .inl (U.2.1)) else
  if a = 50 then .inr (64, .inr (.inl (U.2.2))) else
  if a = 51 then .inr (16, .inl (L.2)) else
  if a = 52 then .inr (3000, .inr (.inl (C.1))) else
  if a = 53 then .inr (16, .inr (.inl (H.1))) else
  if a = 54 then .inr (16, .inr (.inl (H.2))) else
  .inl (9, [])
theorem E_0 {G : TG} {S : TS} {N : TN} {T : TT} {R : TR} {B : TB} {U : TU} {L : TL} {C : TC} {H : TH} : E G S N T R B U L C H 0 = .inl (4, [.ref 1, .ref 2, .ref 6, .ref (S.2), .ref (N.1), .ref (N.2.1)]) := rfl
theorem E_1 {G : TG} {S : TS} {N : TN} {T : TT} {R : TR} {B : TB} {U : TU} {L : TL} {C : TC} {H : TH} : E G S N T R B U L C H 1 = .inr (8, .inr (.inr (.inr (S.1)))) := rfl
theorem E_2 {G : TG} {S : TS} {N : TN} {T : TT} {R : TR} {B : TB} {U : TU} {L : TL} {C : TC} {H : TH} : E G S N T R B U L C H 2 = .inl (3, [.int (T.1), .ref 3, .ref 4, .ref 5]) := rfl
theorem E_3 {G : TG} {S : TS} {N : TN} {T : TT} {R : TR} {B : TB} {U : TU} {L : TL} {C : TC} {H : TH} : E G S N T R B U L C H 3 = .inr (64, .inl (T.2.1)) := rfl
theorem E_4 {G : TG} {S : TS} {N : TN} {T : TT} {R : TR} {B : TB} {U : TU} {L : TL} {C : TC} {H : TH} : E G S N T R B U L C H 4 = .inr (64, .inl (T.2.2.1)) := rfl
theorem E_5 {G : TG} {S : TS} {N : TN} {T : TT} {R : TR} {B : TB} {U : TU} {L : TL} {C : TC} {H : TH} : E G S N T R B U L C H 5 = .inr (64, .inr (.inl (T.2.2.2))) := rfl
theorem E_6 {G : TG} {S : TS} {N : TN} {T : TT} {R : TR} {B : TB} {U : TU} {L : TL} {C : TC} {H : TH} : E G S N T R B U L C H 6 = .inl (0, [.int (R.1), .ref 7, .ref 8, .ref 9, .ref (R.2.2.2.2.2.1), .ref (R.2.2.2.2.2.2)]) := rfl
theorem E_7 {G : TG} {S : TS} {N : TN} {T : TT} {R : TR} {B : TB} {U : TU} {L : TL} {C : TC} {H : TH} : E G S N T R B U L C H 7 = .inr (16, .inl (R.2.1)) := rfl
theorem E_8 {G : TG} {S : TS} {N : TN} {T : TT} {R : TR} {B : TB} {U : TU} {L : TL} {C : TC} {H : TH} : E G S N T R B U L C H 8 = .inr (16, .inl (R.2.2.1)) := rfl
theorem E_9 {G : TG} {S : TS} {N : TN} {T : TT} {R : TR} {B : TB} {U : TU} {L : TL} {C : TC} {H : TH} : E G S N T R B U L C H 9 = .inr (16, .inl (R.2.2.2.1)) := rfl
theorem E_43 {G : TG} {S : TS} {N : TN} {T : TT} {R : TR} {B : TB} {U : TU} {L : TL} {C : TC} {H : TH} : E G S N T R B U L C H 43 = .inl (5, [.ref 44, .ref 45, .ref 46, .ref 47, .ref 48, .int (U.1), .ref 49, .ref 50, .int (L.1), .ref 51, .ref 52, .int (C.2), .ref 53, .ref 54]) := rfl
theorem E_44 {G : TG} {S : TS} {N : TN} {T : TT} {R : TR} {B : TB} {U : TU} {L : TL} {C : TC} {H : TH} : E G S N T R B U L C H 44 = .inr (9, .inr (.inr (.inl (B.1)))) := rfl
theorem E_45 {G : TG} {S : TS} {N : TN} {T : TT} {R : TR} {B : TB} {U : TU} {L : TL} {C : TC} {H : TH} : E G S N T R B U L C H 45 = .inr (9, .inl (B.2.1)) := rfl
theorem E_46 {G : TG} {S : TS} {N : TN} {T : TT} {R : TR} {B : TB} {U : TU} {L : TL} {C : TC} {H : TH} : E G S N T R B U L C H 46 = .inr (9, .inl (B.2.2.1)) := rfl
theorem E_47 {G : TG} {S : TS} {N : TN} {T : TT} {R : TR} {B : TB} {U : TU} {L : TL} {C : TC} {H : TH} : E G S N T R B U L C H 47 = .inr (2304, .inr (.inr (.inl (B.2.2.2.1)))) := rfl
theorem E_48 {G : TG} {S : TS} {N : TN} {T : TT} {R : TR} {B : TB} {U : TU} {L : TL} {C : TC} {H : TH} : E G S N T R B U L C H 48 = .inr (2304, .inr (.inl (B.2.2.2.2))) := rfl
theorem E_49 {G : TG} {S : TS} {N : TN} {T : TT} {R : TR} {B : TB} {U : TU} {L : TL} {C : TC} {H : TH} : E G S N T R B U L C H 49 = .inr (64, .inl (U.2.1)) := rfl
theorem E_50 {G : TG} {S : TS} {N : TN} {T : TT} {R : TR} {B : TB} {U : TU} {L : TL} {C : TC} {H : TH} : E G S N T R B U L C H 50 = .inr (64, .inr (.inl (U.2.2))) := rfl
theorem E_51 {G : TG} {S : TS} {N : TN} {T : TT} {R : TR} {B : TB} {U : TU} {L : TL} {C : TC} {H : TH} : E G S N T R B U L C H 51 = .inr (16, .inl (L.2)) := rfl
theorem E_52 {G : TG} {S : TS} {N : TN} {T : TT} {R : TR} {B : TB} {U : TU} {L : TL} {C : TC} {H : TH} : E G S N T R B U L C H 52 = .inr (3000, .inr (.inl (C.1))) := rfl
theorem E_53 {G : TG} {S : TS} {N : TN} {T : TT} {R : TR} {B : TB} {U : TU} {L : TL} {C : TC} {H : TH} : E G S N T R B U L C H 53 = .inr (16, .inr (.inl (H.1))) := rfl
theorem E_54 {G : TG} {S : TS} {N : TN} {T : TT} {R : TR} {B : TB} {U : TU} {L : TL} {C : TC} {H : TH} : E G S N T R B U L C H 54 = .inr (16, .inr (.inl (H.2))) := rfl
theorem E_L {G : TG} {S : TS} {N : TN} {T : TT} {R : TR} {B : TB} {U : TU} {L : TL} {C : TC} {H : TH} {a : Nat} (h : a = 10 ∨ a = 11) : E G S N T R B U L C H a = .inr (16, .inr (.inl ((R.2.2.2.2.1) a))) := by rcases h with rfl | rfl <;> rfl
theorem E_N {G : TG} {S : TS} {N : TN} {T : TT} {R : TR} {B : TB} {U : TU} {L : TL} {C : TC} {H : TH} {a : Nat} (h : a = 15 ∨ a = 17) : E G S N T R B U L C H a = .inl (2, [.int ((N.2.2.1) a), .ref (a + 1)]) := by rcases h with rfl | rfl <;> rfl
theorem E_Ni {G : TG} {S : TS} {N : TN} {T : TT} {R : TR} {B : TB} {U : TU} {L : TL} {C : TC} {H : TH} {a : Nat} (h : a = 15 ∨ a = 17) : E G S N T R B U L C H (a + 1) = .inr (16, .inl ((N.2.2.2) a)) := by rcases h with rfl | rfl <;> rfl
theorem E_G {G : TG} {S : TS} {N : TN} {T : TT} {R : TR} {B : TB} {U : TU} {L : TL} {C : TC} {H : TH} {a : Nat} (h : isG a = true) : E G S N T R B U L C H a = .inl (1, [.int ((G.1) a), .int ((G.2.1) a), .ref (a + 1), .ref (a + 2)]) := by rcases isG_cases h with rfl | rfl | rfl | rfl | rfl | rfl | rfl | rfl | rfl <;> rfl
theorem E_Gk {G : TG} {S : TS} {N : TN} {T : TT} {R : TR} {B : TB} {U : TU} {L : TL} {C : TC} {H : TH} {a : Nat} (h : isG a = true) : E G S N T R B U L C H (a + 1) = .inr (16, .inl ((G.2.2.1) a)) := by rcases isG_cases h with rfl | rfl | rfl | rfl | rfl | rfl | rfl | rfl | rfl <;> rfl
theorem E_Gv {G : TG} {S : TS} {N : TN} {T : TT} {R : TR} {B : TB} {U : TU} {L : TL} {C : TC} {H : TH} {a : Nat} (h : isG a = true) : E G S N T R B U L C H (a + 2) = .inr (256, .inr (.inl ((G.2.2.2) a))) := by rcases isG_cases h with rfl | rfl | rfl | rfl | rfl | rfl | rfl | rfl | rfl <;> rfl
