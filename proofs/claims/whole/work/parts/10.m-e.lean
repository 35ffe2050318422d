noncomputable def L_X2_addMultiple_13 (x0 : Nat) (x1 : Nat) (x2 : Int64) (x4 : Int32) : Nat → (HP → Option (HP)) → HP → Int32 → Option (HP)
  | 0, _, _, _ => none
  | n + 1, k, h, x5 =>
      if 16 ≤ x5 then (
        k h
      ) else (
        ck 1 h x1 <|
        (f_X2_keeps h x1 x4 x5).bind fun v4 =>
        if v4 = 0 then (
          L_X2_addMultiple_13 x0 x1 x2 x4 n k h (x5 + 1)
        ) else (
          ck 1 h x1 <|
          (f_X2_value h x1 x4 x5).bind fun v8 =>
          ck 1 h x0 <|
          (f_X2_putSum h x0 x4 x5 (x2 * v8)).bind fun h11 =>
          L_X2_addMultiple_13 x0 x1 x2 x4 n k h11 (x5 + 1)
        )
      )
noncomputable def L_X2_addMultiple_3 (x0 : Nat) (x1 : Nat) (x2 : Int64) : Nat → (HP → Option (HP)) → HP → Int32 → Option (HP)
  | 0, _, _, _ => none
  | n + 1, k, h, x4 =>
      if 16 ≤ x4 then (
        k h
      ) else (
        L_X2_addMultiple_13 x0 x1 x2 x4 FU (fun h13 =>
          L_X2_addMultiple_3 x0 x1 x2 n k h13 (x4 + 1)) h 0
      )
noncomputable def f_X2_addMultiple (h : HP) (x0 : Nat) (x1 : Nat) (x2 : Int64) : Option (HP) :=
  L_X2_addMultiple_3 x0 x1 x2 FU (fun h14 =>
    some h14) h 0
abbrev rmX2_addMultiple : Room := { frames := 3, cells := 0, slots := 0, locals := 68 }
theorem hd_X2_addMultiple : yX2_addMultiple.cls = RX2 ∧ yX2_addMultiple.cls ≠ "java/lang/invoke/MethodHandle" ∧ yX2_addMultiple.cls ≠ "java/lang/invoke/VarHandle" ∧ (parseMethodDescriptor yX2_addMultiple.desc).map (fun d => d.parameters.length) = some 2 := by decide +kernel
set_option maxRecDepth 100000 in
set_option maxHeartbeats 4000000 in
theorem w_X2_addMultiple_13 {p : Program} {l : Launch} {e : Env} {s : State} {m : MethodId} {args : Array Value} {below : List Frame} {meth : Method} {c : Code} {D : va_G} {ad : Nat → Nat} {cy : Nat → ClassId} (E : EE p s m args c cX2_addMultiple 6 (wsM yX2_addMultiple cX2_addMultiple 6 none) RX2 D cy) (hr : meth.sig.returnType = none) (hlk : meth.locks = false) {h' : HP} (x0 : Nat) (x1 : Nat) (x2 : Int64) (x4 : Int32) : ∀ (n : Nat) (k : (HP → Option (HP))) (h : HP) (x5 : Int32), (∀ (h : HP), k h = some h' → JJ p l e rmX2_addMultiple s m args below meth c 0 0 (MQ below (QV D ad cy none h') args s 0 0 (Aw ad)) D ad cy (Aw ad) 6 h [(0, .ref (ad x0)), (1, .ref (ad x1)), (2, .long x2), (4, .int x4)] 55 []) → L_X2_addMultiple_13 x0 x1 x2 x4 n k h x5 = some h' → JJ p l e rmX2_addMultiple s m args below meth c 0 0 (MQ below (QV D ad cy none h') args s 0 0 (Aw ad)) D ad cy (Aw ad) 6 h [(0, .ref (ad x0)), (1, .ref (ad x1)), (2, .long x2), (4, .int x4), (5, .int x5)] 13 [] := by
  intro n
  induction n with
  | zero => intro k h x5 hk hf; cases hf
  | succ n ih =>
    intro k h x5 hk hf
    unfold L_X2_addMultiple_13 at hf
    refine j_iload E 4 rfl dX2_addMultiple_13 ?_
    refine j_bipush (v := 16) E dX2_addMultiple_15 (by decide) ?_
    refine j_icmp_ge (tgt := 55) E dX2_addMultiple_17 (by decide) (fun z2 => ?_) (fun z2 => ?_)
    · have hf := ifp hf z2
      refine j_perm (lv' := [(0, .ref (ad x0)), (1, .ref (ad x1)), (2, .long x2), (4, .int x4)]) [0, 1, 2, 3] rfl ?_
      exact hk h hf
    · have hf := ifn hf z2
      refine j_aload_n E 1 rfl dX2_addMultiple_20 rfl ?_
      refine j_iload E 3 rfl dX2_addMultiple_21 ?_
      refine j_iload E 4 rfl dX2_addMultiple_23 ?_
      obtain ⟨k3, hf⟩ := ck_spec hf
      obtain ⟨v4, e5, hf⟩ := bs hf
      refine j_callV (ci := 1) (b := x1) (As := [.int x4, .int x5]) (rest := []) (v := (some (.int v4))) E (c_X2_keeps l D ad cy h x1 x4 x5 e5) (mcw E.1.2.2.2.2 uw_2_5 uw_2_2 uw_2_3 uw_2_4 uw_1_4 rfl rfl hd_X2_keeps ⟨by decide, by decide⟩) rfl k3 rfl rfl (Nat.le_of_ble_eq_true rfl) dX2_addMultiple_25 ⟨Nat.zero_le _, Nat.zero_le _⟩ ?_
      refine j_stk (st' := [.int v4]) rfl ?_
      refine j_if_eq (tgt := 49) E dX2_addMultiple_28 (by decide) (fun z6 => ?_) (fun z6 => ?_)
      · have hf := ifp hf z6
        refine j_iinc (v := (x5 + 1)) (k0 := 4) (lv' := [(5, .int (x5 + 1)), (0, .ref (ad x0)), (1, .ref (ad x1)), (2, .long x2), (4, .int x4)]) E dX2_addMultiple_49 rfl (congrArg (fun z => x5 + z) (by decide)) (by decide) rfl ?_
        refine j_goto (tgt := 13) E dX2_addMultiple_52 (by decide) ?_
        refine j_perm (lv' := [(0, .ref (ad x0)), (1, .ref (ad x1)), (2, .long x2), (4, .int x4), (5, .int (x5 + 1))]) [1, 2, 3, 4, 0] rfl ?_
        exact ih k h (x5 + 1) hk hf
      · have hf := ifn hf z6
        refine j_aload_n E 0 rfl dX2_addMultiple_31 rfl ?_
        refine j_iload E 3 rfl dX2_addMultiple_32 ?_
        refine j_iload E 4 rfl dX2_addMultiple_34 ?_
        refine j_lload_n E 2 rfl dX2_addMultiple_36 rfl ?_
        refine j_aload_n E 1 rfl dX2_addMultiple_37 rfl ?_
        refine j_iload E 3 rfl dX2_addMultiple_38 ?_
        refine j_iload E 4 rfl dX2_addMultiple_40 ?_
        obtain ⟨k7, hf⟩ := ck_spec hf
        obtain ⟨v8, e9, hf⟩ := bs hf
        refine j_callV (ci := 1) (b := x1) (As := [.int x4, .int x5]) (rest := [.long x2, .int x5, .int x4, .ref (ad x0)]) (v := (some (.long v8))) E (c_X2_value l D ad cy h x1 x4 x5 e9) (mcw E.1.2.2.2.2 uw_1_224 uw_1_221 uw_1_222 uw_1_223 uw_1_4 rfl rfl hd_X2_value ⟨by decide, by decide⟩) rfl k7 rfl rfl (Nat.le_of_ble_eq_true rfl) dX2_addMultiple_42 ⟨Nat.zero_le _, Nat.zero_le _⟩ ?_
        refine j_stk (st' := [.long v8, .long x2, .int x5, .int x4, .ref (ad x0)]) rfl ?_
        refine j_lmul E dX2_addMultiple_45 ?_
        obtain ⟨k10, hf⟩ := ck_spec hf
        obtain ⟨h11, e12, hf⟩ := bs hf
        refine j_callV (ci := 1) (b := x0) (As := [.int x4, .int x5, .long (x2 * v8)]) (rest := []) (v := none) E (c_X2_putSum l D ad cy h x0 x4 x5 (x2 * v8) e12) (mcw E.1.2.2.2.2 uw_1_220 uw_2_69 uw_1_218 uw_1_219 uw_1_4 rfl rfl hd_X2_putSum ⟨by decide, by decide⟩) rfl k10 rfl rfl (Nat.le_of_ble_eq_true rfl) dX2_addMultiple_46 ⟨Nat.zero_le _, Nat.zero_le _⟩ ?_
        refine j_stk (st' := []) rfl ?_
        refine j_iinc (v := (x5 + 1)) (k0 := 4) (lv' := [(5, .int (x5 + 1)), (0, .ref (ad x0)), (1, .ref (ad x1)), (2, .long x2), (4, .int x4)]) E dX2_addMultiple_49 rfl (congrArg (fun z => x5 + z) (by decide)) (by decide) rfl ?_
        refine j_goto (tgt := 13) E dX2_addMultiple_52 (by decide) ?_
        refine j_perm (lv' := [(0, .ref (ad x0)), (1, .ref (ad x1)), (2, .long x2), (4, .int x4), (5, .int (x5 + 1))]) [1, 2, 3, 4, 0] rfl ?_
        exact ih k h11 (x5 + 1) hk hf
set_option maxRecDepth 100000 in
set_option maxHeartbeats 4000000 in
theorem w_X2_addMultiple_3 {p : Program} {l : Launch} {e : Env} {s : State} {m : MethodId} {args : Array Value} {below : List Frame} {meth : Method} {c : Code} {D : va_G} {ad : Nat → Nat} {cy : Nat → ClassId} (E : EE p s m args c cX2_addMultiple 6 (wsM yX2_addMultiple cX2_addMultiple 6 none) RX2 D cy) (hr : meth.sig.returnType = none) (hlk : meth.locks = false) {h' : HP} (x0 : Nat) (x1 : Nat) (x2 : Int64) : ∀ (n : Nat) (k : (HP → Option (HP))) (h : HP) (x4 : Int32), (∀ (h : HP), k h = some h' → JJ p l e rmX2_addMultiple s m args below meth c 0 0 (MQ below (QV D ad cy none h') args s 0 0 (Aw ad)) D ad cy (Aw ad) 6 h [] 61 []) → L_X2_addMultiple_3 x0 x1 x2 n k h x4 = some h' → JJ p l e rmX2_addMultiple s m args below meth c 0 0 (MQ below (QV D ad cy none h') args s 0 0 (Aw ad)) D ad cy (Aw ad) 6 h [(0, .ref (ad x0)), (1, .ref (ad x1)), (2, .long x2), (4, .int x4)] 3 [] := by
  intro n
  induction n with
  | zero => intro k h x4 hk hf; cases hf
  | succ n ih =>
    intro k h x4 hk hf
    unfold L_X2_addMultiple_3 at hf
    refine j_iload E 3 rfl dX2_addMultiple_3 ?_
    refine j_bipush (v := 16) E dX2_addMultiple_5 (by decide) ?_
    refine j_icmp_ge (tgt := 61) E dX2_addMultiple_7 (by decide) (fun z1 => ?_) (fun z1 => ?_)
    · have hf := ifp hf z1
      refine j_perm (lv' := []) [] rfl ?_
      exact hk h hf
    · have hf := ifn hf z1
      refine j_iconst (v := 0) E dX2_addMultiple_10 (by decide) ?_
      refine j_istore (lv' := [(5, .int 0), (0, .ref (ad x0)), (1, .ref (ad x1)), (2, .long x2), (4, .int x4)]) E dX2_addMultiple_11 (by decide) rfl ?_
      refine j_perm (lv' := [(0, .ref (ad x0)), (1, .ref (ad x1)), (2, .long x2), (4, .int x4), (5, .int 0)]) [1, 2, 3, 4, 0] rfl ?_
      refine w_X2_addMultiple_13 E hr hlk x0 x1 x2 x4 FU _ h 0 (fun h13 hf => ?_) hf
      refine j_iinc (v := (x4 + 1)) (k0 := 3) (lv' := [(4, .int (x4 + 1)), (0, .ref (ad x0)), (1, .ref (ad x1)), (2, .long x2)]) E dX2_addMultiple_55 rfl (congrArg (fun z => x4 + z) (by decide)) (by decide) rfl ?_
      refine j_goto (tgt := 3) E dX2_addMultiple_58 (by decide) ?_
      refine j_perm (lv' := [(0, .ref (ad x0)), (1, .ref (ad x1)), (2, .long x2), (4, .int (x4 + 1))]) [1, 2, 3, 0] rfl ?_
      exact ih k h13 (x4 + 1) hk hf
set_option maxRecDepth 100000 in
set_option maxHeartbeats 4000000 in
theorem c_X2_addMultiple (l : Launch) (D : va_G) (ad : Nat → Nat) (cy : Nat → ClassId) (h : HP) (x0 : Nat) (x1 : Nat) (x2 : Int64) {h' : HP} (hf : f_X2_addMultiple h x0 x1 x2 = some h') : Met l yX2_addMultiple (wsM yX2_addMultiple cX2_addMultiple 6 none) rmX2_addMultiple (va_Pc [.ref (ad x0), .ref (ad x1), .long x2] (PW D ad cy h)) (QV D ad cy none h') 0 0 (Aw ad) := by
  refine met_of (own := RX2) (lv := [(0, .ref (ad x0)), (1, .ref (ad x1)), (2, .long x2)]) (by decide) rfl (Nat.le_of_ble_eq_true rfl) rfl (fun p e s m args below meth c E hr hlk => ?_)
  unfold f_X2_addMultiple at hf
  refine j_iconst (v := 0) E dX2_addMultiple_0 (by decide) ?_
  refine j_istore (lv' := [(4, .int 0), (0, .ref (ad x0)), (1, .ref (ad x1)), (2, .long x2)]) E dX2_addMultiple_1 (by decide) rfl ?_
  refine j_perm (lv' := [(0, .ref (ad x0)), (1, .ref (ad x1)), (2, .long x2), (4, .int 0)]) [1, 2, 3, 0] rfl ?_
  refine w_X2_addMultiple_3 E hr hlk x0 x1 x2 FU _ h 0 (fun h14 hf => ?_) hf
  cases hf
  exact j_vret E hr hlk dX2_addMultiple_61
noncomputable def L_X2_addRowMultiple_3 (x0 : Nat) (x1 : Int32) (x2 : Nat) (x3 : Int32) (x4 : Int64) : Nat → (HP → Option (HP)) → HP → Int32 → Option (HP)
  | 0, _, _, _ => none
  | n + 1, k, h, x6 =>
      if 16 ≤ x6 then (
        k h
      ) else (
        ck 1 h x2 <|
        (f_X2_keeps h x2 x3 x6).bind fun v3 =>
        if v3 = 0 then (
          L_X2_addRowMultiple_3 x0 x1 x2 x3 x4 n k h (x6 + 1)
        ) else (
          ck 1 h x2 <|
          (f_X2_value h x2 x3 x6).bind fun v7 =>
          ck 1 h x0 <|
          (f_X2_putSum h x0 x1 x6 (x4 * v7)).bind fun h10 =>
          L_X2_addRowMultiple_3 x0 x1 x2 x3 x4 n k h10 (x6 + 1)
        )
      )
noncomputable def f_X2_addRowMultiple (h : HP) (x0 : Nat) (x1 : Int32) (x2 : Nat) (x3 : Int32) (x4 : Int64) : Option (HP) :=
  L_X2_addRowMultiple_3 x0 x1 x2 x3 x4 FU (fun h12 =>
    some h12) h 0
abbrev rmX2_addRowMultiple : Room := { frames := 3, cells := 0, slots := 0, locals := 68 }
theorem hd_X2_addRowMultiple : yX2_addRowMultiple.cls = RX2 ∧ yX2_addRowMultiple.cls ≠ "java/lang/invoke/MethodHandle" ∧ yX2_addRowMultiple.cls ≠ "java/lang/invoke/VarHandle" ∧ (parseMethodDescriptor yX2_addRowMultiple.desc).map (fun d => d.parameters.length) = some 4 := by decide +kernel
set_option maxRecDepth 100000 in
set_option maxHeartbeats 4000000 in
theorem w_X2_addRowMultiple_3 {p : Program} {l : Launch} {e : Env} {s : State} {m : MethodId} {args : Array Value} {below : List Frame} {meth : Method} {c : Code} {D : va_G} {ad : Nat → Nat} {cy : Nat → ClassId} (E : EE p s m args c cX2_addRowMultiple 7 (wsM yX2_addRowMultiple cX2_addRowMultiple 7 none) RX2 D cy) (hr : meth.sig.returnType = none) (hlk : meth.locks = false) {h' : HP} (x0 : Nat) (x1 : Int32) (x2 : Nat) (x3 : Int32) (x4 : Int64) : ∀ (n : Nat) (k : (HP → Option (HP))) (h : HP) (x6 : Int32), (∀ (h : HP), k h = some h' → JJ p l e rmX2_addRowMultiple s m args below meth c 0 0 (MQ below (QV D ad cy none h') args s 0 0 (Aw ad)) D ad cy (Aw ad) 7 h [] 43 []) → L_X2_addRowMultiple_3 x0 x1 x2 x3 x4 n k h x6 = some h' → JJ p l e rmX2_addRowMultiple s m args below meth c 0 0 (MQ below (QV D ad cy none h') args s 0 0 (Aw ad)) D ad cy (Aw ad) 7 h [(0, .ref (ad x0)), (1, .int x1), (2, .ref (ad x2)), (3, .int x3), (4, .long x4), (6, .int x6)] 3 [] := by
  intro n
  induction n with
  | zero => intro k h x6 hk hf; cases hf
  | succ n ih =>
    intro k h x6 hk hf
    unfold L_X2_addRowMultiple_3 at hf
    refine j_iload E 5 rfl dX2_addRowMultiple_3 ?_
    refine j_bipush (v := 16) E dX2_addRowMultiple_5 (by decide) ?_
    refine j_icmp_ge (tgt := 43) E dX2_addRowMultiple_7 (by decide) (fun z1 => ?_) (fun z1 => ?_)
    · have hf := ifp hf z1
      refine j_perm (lv' := []) [] rfl ?_
      exact hk h hf
    · have hf := ifn hf z1
      refine j_aload_n E 2 rfl dX2_addRowMultiple_10 rfl ?_
      refine j_iload_n E 3 rfl dX2_addRowMultiple_11 rfl ?_
      refine j_iload E 5 rfl dX2_addRowMultiple_12 ?_
      obtain ⟨k2, hf⟩ := ck_spec hf
      obtain ⟨v3, e4, hf⟩ := bs hf
      refine j_callV (ci := 1) (b := x2) (As := [.int x3, .int x6]) (rest := []) (v := (some (.int v3))) E (c_X2_keeps l D ad cy h x2 x3 x6 e4) (mcw E.1.2.2.2.2 uw_2_5 uw_2_2 uw_2_3 uw_2_4 uw_1_4 rfl rfl hd_X2_keeps ⟨by decide, by decide⟩) rfl k2 rfl rfl (Nat.le_of_ble_eq_true rfl) dX2_addRowMultiple_14 ⟨Nat.zero_le _, Nat.zero_le _⟩ ?_
      refine j_stk (st' := [.int v3]) rfl ?_
      refine j_if_eq (tgt := 37) E dX2_addRowMultiple_17 (by decide) (fun z5 => ?_) (fun z5 => ?_)
      · have hf := ifp hf z5
        refine j_iinc (v := (x6 + 1)) (k0 := 5) (lv' := [(6, .int (x6 + 1)), (0, .ref (ad x0)), (1, .int x1), (2, .ref (ad x2)), (3, .int x3), (4, .long x4)]) E dX2_addRowMultiple_37 rfl (congrArg (fun z => x6 + z) (by decide)) (by decide) rfl ?_
        refine j_goto (tgt := 3) E dX2_addRowMultiple_40 (by decide) ?_
        refine j_perm (lv' := [(0, .ref (ad x0)), (1, .int x1), (2, .ref (ad x2)), (3, .int x3), (4, .long x4), (6, .int (x6 + 1))]) [1, 2, 3, 4, 5, 0] rfl ?_
        exact ih k h (x6 + 1) hk hf
      · have hf := ifn hf z5
        refine j_aload_n E 0 rfl dX2_addRowMultiple_20 rfl ?_
        refine j_iload_n E 1 rfl dX2_addRowMultiple_21 rfl ?_
        refine j_iload E 5 rfl dX2_addRowMultiple_22 ?_
        refine j_lload E 4 rfl dX2_addRowMultiple_24 ?_
        refine j_aload_n E 2 rfl dX2_addRowMultiple_26 rfl ?_
        refine j_iload_n E 3 rfl dX2_addRowMultiple_27 rfl ?_
        refine j_iload E 5 rfl dX2_addRowMultiple_28 ?_
        obtain ⟨k6, hf⟩ := ck_spec hf
        obtain ⟨v7, e8, hf⟩ := bs hf
        refine j_callV (ci := 1) (b := x2) (As := [.int x3, .int x6]) (rest := [.long x4, .int x6, .int x1, .ref (ad x0)]) (v := (some (.long v7))) E (c_X2_value l D ad cy h x2 x3 x6 e8) (mcw E.1.2.2.2.2 uw_1_224 uw_1_221 uw_1_222 uw_1_223 uw_1_4 rfl rfl hd_X2_value ⟨by decide, by decide⟩) rfl k6 rfl rfl (Nat.le_of_ble_eq_true rfl) dX2_addRowMultiple_30 ⟨Nat.zero_le _, Nat.zero_le _⟩ ?_
        refine j_stk (st' := [.long v7, .long x4, .int x6, .int x1, .ref (ad x0)]) rfl ?_
        refine j_lmul E dX2_addRowMultiple_33 ?_
        obtain ⟨k9, hf⟩ := ck_spec hf
        obtain ⟨h10, e11, hf⟩ := bs hf
        refine j_callV (ci := 1) (b := x0) (As := [.int x1, .int x6, .long (x4 * v7)]) (rest := []) (v := none) E (c_X2_putSum l D ad cy h x0 x1 x6 (x4 * v7) e11) (mcw E.1.2.2.2.2 uw_1_220 uw_2_69 uw_1_218 uw_1_219 uw_1_4 rfl rfl hd_X2_putSum ⟨by decide, by decide⟩) rfl k9 rfl rfl (Nat.le_of_ble_eq_true rfl) dX2_addRowMultiple_34 ⟨Nat.zero_le _, Nat.zero_le _⟩ ?_
        refine j_stk (st' := []) rfl ?_
        refine j_iinc (v := (x6 + 1)) (k0 := 5) (lv' := [(6, .int (x6 + 1)), (0, .ref (ad x0)), (1, .int x1), (2, .ref (ad x2)), (3, .int x3), (4, .long x4)]) E dX2_addRowMultiple_37 rfl (congrArg (fun z => x6 + z) (by decide)) (by decide) rfl ?_
        refine j_goto (tgt := 3) E dX2_addRowMultiple_40 (by decide) ?_
        refine j_perm (lv' := [(0, .ref (ad x0)), (1, .int x1), (2, .ref (ad x2)), (3, .int x3), (4, .long x4), (6, .int (x6 + 1))]) [1, 2, 3, 4, 5, 0] rfl ?_
        exact ih k h10 (x6 + 1) hk hf
set_option maxRecDepth 100000 in
set_option maxHeartbeats 4000000 in
theorem c_X2_addRowMultiple (l : Launch) (D : va_G) (ad : Nat → Nat) (cy : Nat → ClassId) (h : HP) (x0 : Nat) (x1 : Int32) (x2 : Nat) (x3 : Int32) (x4 : Int64) {h' : HP} (hf : f_X2_addRowMultiple h x0 x1 x2 x3 x4 = some h') : Met l yX2_addRowMultiple (wsM yX2_addRowMultiple cX2_addRowMultiple 7 none) rmX2_addRowMultiple (va_Pc [.ref (ad x0), .int x1, .ref (ad x2), .int x3, .long x4] (PW D ad cy h)) (QV D ad cy none h') 0 0 (Aw ad) := by
  refine met_of (own := RX2) (lv := [(0, .ref (ad x0)), (1, .int x1), (2, .ref (ad x2)), (3, .int x3), (4, .long x4)]) (by decide) rfl (Nat.le_of_ble_eq_true rfl) rfl (fun p e s m args below meth c E hr hlk => ?_)
  unfold f_X2_addRowMultiple at hf
  refine j_iconst (v := 0) E dX2_addRowMultiple_0 (by decide) ?_
  refine j_istore (lv' := [(6, .int 0), (0, .ref (ad x0)), (1, .int x1), (2, .ref (ad x2)), (3, .int x3), (4, .long x4)]) E dX2_addRowMultiple_1 (by decide) rfl ?_
  refine j_perm (lv' := [(0, .ref (ad x0)), (1, .int x1), (2, .ref (ad x2)), (3, .int x3), (4, .long x4), (6, .int 0)]) [1, 2, 3, 4, 5, 0] rfl ?_
  refine w_X2_addRowMultiple_3 E hr hlk x0 x1 x2 x3 x4 FU _ h 0 (fun h12 hf => ?_) hf
  cases hf
  exact j_vret E hr hlk dX2_addRowMultiple_43
noncomputable def L_X2_becomeProduct_23 (x0 : Nat) (x1 : Nat) (x2 : Nat) (x3 : Int32) : Nat → (HP → Option (HP)) → HP → Int32 → Option (HP)
  | 0, _, _, _ => none
  | n + 1, k, h, x4 =>
      if 16 ≤ x4 then (
        k h
      ) else (
        ck 1 h x1 <|
        (f_X2_keeps h x1 x3 x4).bind fun v9 =>
        if v9 = 0 then (
          L_X2_becomeProduct_23 x0 x1 x2 x3 n k h (x4 + 1)
        ) else (
          ck 1 h x1 <|
          (f_X2_value h x1 x3 x4).bind fun v13 =>
          ck 1 h x0 <|
          (f_X2_addRowMultiple h x0 x3 x2 x4 v13).bind fun h16 =>
          L_X2_becomeProduct_23 x0 x1 x2 x3 n k h16 (x4 + 1)
        )
      )
noncomputable def L_X2_becomeProduct_14 (x0 : Nat) (x1 : Nat) (x2 : Nat) : Nat → (HP → Option (HP)) → HP → Int32 → Option (HP)
  | 0, _, _, _ => none
  | n + 1, k, h, x3 =>
      if 16 ≤ x3 then (
        k h
      ) else (
        L_X2_becomeProduct_23 x0 x1 x2 x3 FU (fun h18 =>
          L_X2_becomeProduct_14 x0 x1 x2 n k h18 (x3 + 1)) h 0
      )
noncomputable def f_X2_becomeProduct (h : HP) (x0 : Nat) (x1 : Nat) (x2 : Nat) : Option (HP) :=
  (gI 1 h x1 0).bind fun v1 =>
  (gI 1 h x2 1).bind fun v2 =>
  ck 1 h x0 <|
  (f_X2_begin h x0 v1 v2).bind fun h4 =>
  L_X2_becomeProduct_14 x0 x1 x2 FU (fun h19 =>
    some h19) h4 0
abbrev rmX2_becomeProduct : Room := { frames := 4, cells := 0, slots := 0, locals := 94 }
theorem hd_X2_becomeProduct : yX2_becomeProduct.cls = RX2 ∧ yX2_becomeProduct.cls ≠ "java/lang/invoke/MethodHandle" ∧ yX2_becomeProduct.cls ≠ "java/lang/invoke/VarHandle" ∧ (parseMethodDescriptor yX2_becomeProduct.desc).map (fun d => d.parameters.length) = some 2 := by decide +kernel
set_option maxRecDepth 100000 in
set_option maxHeartbeats 4000000 in
theorem w_X2_becomeProduct_23 {p : Program} {l : Launch} {e : Env} {s : State} {m : MethodId} {args : Array Value} {below : List Frame} {meth : Method} {c : Code} {D : va_G} {ad : Nat → Nat} {cy : Nat → ClassId} (E : EE p s m args c cX2_becomeProduct 5 (wsM yX2_becomeProduct cX2_becomeProduct 5 none) RX2 D cy) (hr : meth.sig.returnType = none) (hlk : meth.locks = false) {h' : HP} (x0 : Nat) (x1 : Nat) (x2 : Nat) (x3 : Int32) : ∀ (n : Nat) (k : (HP → Option (HP))) (h : HP) (x4 : Int32), (∀ (h : HP), k h = some h' → JJ p l e rmX2_becomeProduct s m args below meth c 0 0 (MQ below (QV D ad cy none h') args s 0 0 (Aw ad)) D ad cy (Aw ad) 5 h [(0, .ref (ad x0)), (1, .ref (ad x1)), (2, .ref (ad x2)), (3, .int x3)] 61 []) → L_X2_becomeProduct_23 x0 x1 x2 x3 n k h x4 = some h' → JJ p l e rmX2_becomeProduct s m args below meth c 0 0 (MQ below (QV D ad cy none h') args s 0 0 (Aw ad)) D ad cy (Aw ad) 5 h [(0, .ref (ad x0)), (1, .ref (ad x1)), (2, .ref (ad x2)), (3, .int x3), (4, .int x4)] 23 [] := by
  intro n
  induction n with
  | zero => intro k h x4 hk hf; cases hf
  | succ n ih =>
    intro k h x4 hk hf
    unfold L_X2_becomeProduct_23 at hf
    refine j_iload E 4 rfl dX2_becomeProduct_23 ?_
    refine j_bipush (v := 16) E dX2_becomeProduct_25 (by decide) ?_
    refine j_icmp_ge (tgt := 61) E dX2_becomeProduct_27 (by decide) (fun z7 => ?_) (fun z7 => ?_)
    · have hf := ifp hf z7
      refine j_perm (lv' := [(0, .ref (ad x0)), (1, .ref (ad x1)), (2, .ref (ad x2)), (3, .int x3)]) [0, 1, 2, 3] rfl ?_
      exact hk h hf
    · have hf := ifn hf z7
      refine j_aload_n E 1 rfl dX2_becomeProduct_30 rfl ?_
      refine j_iload_n E 3 rfl dX2_becomeProduct_31 rfl ?_
      refine j_iload E 4 rfl dX2_becomeProduct_32 ?_
      obtain ⟨k8, hf⟩ := ck_spec hf
      obtain ⟨v9, e10, hf⟩ := bs hf
      refine j_callV (ci := 1) (b := x1) (As := [.int x3, .int x4]) (rest := []) (v := (some (.int v9))) E (c_X2_keeps l D ad cy h x1 x3 x4 e10) (mcw E.1.2.2.2.2 uw_2_5 uw_2_2 uw_2_3 uw_2_4 uw_1_4 rfl rfl hd_X2_keeps ⟨by decide, by decide⟩) rfl k8 rfl rfl (Nat.le_of_ble_eq_true rfl) dX2_becomeProduct_34 ⟨Nat.zero_le _, Nat.zero_le _⟩ ?_
      refine j_stk (st' := [.int v9]) rfl ?_
      refine j_if_eq (tgt := 55) E dX2_becomeProduct_37 (by decide) (fun z11 => ?_) (fun z11 => ?_)
      · have hf := ifp hf z11
        refine j_iinc (v := (x4 + 1)) (k0 := 4) (lv' := [(4, .int (x4 + 1)), (0, .ref (ad x0)), (1, .ref (ad x1)), (2, .ref (ad x2)), (3, .int x3)]) E dX2_becomeProduct_55 rfl (congrArg (fun z => x4 + z) (by decide)) (by decide) rfl ?_
        refine j_goto (tgt := 23) E dX2_becomeProduct_58 (by decide) ?_
        refine j_perm (lv' := [(0, .ref (ad x0)), (1, .ref (ad x1)), (2, .ref (ad x2)), (3, .int x3), (4, .int (x4 + 1))]) [1, 2, 3, 4, 0] rfl ?_
        exact ih k h (x4 + 1) hk hf
      · have hf := ifn hf z11
        refine j_aload_n E 0 rfl dX2_becomeProduct_40 rfl ?_
        refine j_iload_n E 3 rfl dX2_becomeProduct_41 rfl ?_
        refine j_aload_n E 2 rfl dX2_becomeProduct_42 rfl ?_
        refine j_iload E 4 rfl dX2_becomeProduct_43 ?_
        refine j_aload_n E 1 rfl dX2_becomeProduct_45 rfl ?_
        refine j_iload_n E 3 rfl dX2_becomeProduct_46 rfl ?_
        refine j_iload E 4 rfl dX2_becomeProduct_47 ?_
        obtain ⟨k12, hf⟩ := ck_spec hf
        obtain ⟨v13, e14, hf⟩ := bs hf
        refine j_callV (ci := 1) (b := x1) (As := [.int x3, .int x4]) (rest := [.int x4, .ref (ad x2), .int x3, .ref (ad x0)]) (v := (some (.long v13))) E (c_X2_value l D ad cy h x1 x3 x4 e14) (mcw E.1.2.2.2.2 uw_1_224 uw_1_221 uw_1_222 uw_1_223 uw_1_4 rfl rfl hd_X2_value ⟨by decide, by decide⟩) rfl k12 rfl rfl (Nat.le_of_ble_eq_true rfl) dX2_becomeProduct_49 ⟨Nat.zero_le _, Nat.zero_le _⟩ ?_
        refine j_stk (st' := [.long v13, .int x4, .ref (ad x2), .int x3, .ref (ad x0)]) rfl ?_
        obtain ⟨k15, hf⟩ := ck_spec hf
        obtain ⟨h16, e17, hf⟩ := bs hf
        refine j_callV (ci := 1) (b := x0) (As := [.int x3, .ref (ad x2), .int x4, .long v13]) (rest := []) (v := none) E (c_X2_addRowMultiple l D ad cy h x0 x3 x2 x4 v13 e17) (mcw E.1.2.2.2.2 uw_2_82 uw_2_79 uw_2_81 us_1_3 uw_1_4 rfl rfl hd_X2_addRowMultiple ⟨by decide, by decide⟩) rfl k15 rfl rfl (Nat.le_of_ble_eq_true rfl) dX2_becomeProduct_52 ⟨Nat.zero_le _, Nat.zero_le _⟩ ?_
        refine j_stk (st' := []) rfl ?_
        refine j_iinc (v := (x4 + 1)) (k0 := 4) (lv' := [(4, .int (x4 + 1)), (0, .ref (ad x0)), (1, .ref (ad x1)), (2, .ref (ad x2)), (3, .int x3)]) E dX2_becomeProduct_55 rfl (congrArg (fun z => x4 + z) (by decide)) (by decide) rfl ?_
        refine j_goto (tgt := 23) E dX2_becomeProduct_58 (by decide) ?_
        refine j_perm (lv' := [(0, .ref (ad x0)), (1, .ref (ad x1)), (2, .ref (ad x2)), (3, .int x3), (4, .int (x4 + 1))]) [1, 2, 3, 4, 0] rfl ?_
        exact ih k h16 (x4 + 1) hk hf
set_option maxRecDepth 100000 in
set_option maxHeartbeats 4000000 in
theorem w_X2_becomeProduct_14 {p : Program} {l : Launch} {e : Env} {s : State} {m : MethodId} {args : Array Value} {below : List Frame} {meth : Method} {c : Code} {D : va_G} {ad : Nat → Nat} {cy : Nat → ClassId} (E : EE p s m args c cX2_becomeProduct 5 (wsM yX2_becomeProduct cX2_becomeProduct 5 none) RX2 D cy) (hr : meth.sig.returnType = none) (hlk : meth.locks = false) {h' : HP} (x0 : Nat) (x1 : Nat) (x2 : Nat) : ∀ (n : Nat) (k : (HP → Option (HP))) (h : HP) (x3 : Int32), (∀ (h : HP), k h = some h' → JJ p l e rmX2_becomeProduct s m args below meth c 0 0 (MQ below (QV D ad cy none h') args s 0 0 (Aw ad)) D ad cy (Aw ad) 5 h [] 67 []) → L_X2_becomeProduct_14 x0 x1 x2 n k h x3 = some h' → JJ p l e rmX2_becomeProduct s m args below meth c 0 0 (MQ below (QV D ad cy none h') args s 0 0 (Aw ad)) D ad cy (Aw ad) 5 h [(0, .ref (ad x0)), (1, .ref (ad x1)), (2, .ref (ad x2)), (3, .int x3)] 14 [] := by
  intro n
  induction n with
  | zero => intro k h x3 hk hf; cases hf
  | succ n ih =>
    intro k h x3 hk hf
    unfold L_X2_becomeProduct_14 at hf
    refine j_iload_n E 3 rfl dX2_becomeProduct_14 rfl ?_
    refine j_bipush (v := 16) E dX2_becomeProduct_15 (by decide) ?_
    refine j_icmp_ge (tgt := 67) E dX2_becomeProduct_17 (by decide) (fun z6 => ?_) (fun z6 => ?_)
    · have hf := ifp hf z6
      refine j_perm (lv' := []) [] rfl ?_
      exact hk h hf
    · have hf := ifn hf z6
      refine j_iconst (v := 0) E dX2_becomeProduct_20 (by decide) ?_
      refine j_istore (lv' := [(4, .int 0), (0, .ref (ad x0)), (1, .ref (ad x1)), (2, .ref (ad x2)), (3, .int x3)]) E dX2_becomeProduct_21 (by decide) rfl ?_
      refine j_perm (lv' := [(0, .ref (ad x0)), (1, .ref (ad x1)), (2, .ref (ad x2)), (3, .int x3), (4, .int 0)]) [1, 2, 3, 4, 0] rfl ?_
      refine w_X2_becomeProduct_23 E hr hlk x0 x1 x2 x3 FU _ h 0 (fun h18 hf => ?_) hf
      refine j_iinc (v := (x3 + 1)) (k0 := 3) (lv' := [(3, .int (x3 + 1)), (0, .ref (ad x0)), (1, .ref (ad x1)), (2, .ref (ad x2))]) E dX2_becomeProduct_61 rfl (congrArg (fun z => x3 + z) (by decide)) (by decide) rfl ?_
      refine j_goto (tgt := 14) E dX2_becomeProduct_64 (by decide) ?_
      refine j_perm (lv' := [(0, .ref (ad x0)), (1, .ref (ad x1)), (2, .ref (ad x2)), (3, .int (x3 + 1))]) [1, 2, 3, 0] rfl ?_
      exact ih k h18 (x3 + 1) hk hf
set_option maxRecDepth 100000 in
set_option maxHeartbeats 4000000 in
theorem c_X2_becomeProduct (l : Launch) (D : va_G) (ad : Nat → Nat) (cy : Nat → ClassId) (h : HP) (x0 : Nat) (x1 : Nat) (x2 : Nat) {h' : HP} (hf : f_X2_becomeProduct h x0 x1 x2 = some h') : Met l yX2_becomeProduct (wsM yX2_becomeProduct cX2_becomeProduct 5 none) rmX2_becomeProduct (va_Pc [.ref (ad x0), .ref (ad x1), .ref (ad x2)] (PW D ad cy h)) (QV D ad cy none h') 0 0 (Aw ad) := by
  refine met_of (own := RX2) (lv := [(0, .ref (ad x0)), (1, .ref (ad x1)), (2, .ref (ad x2))]) (by decide) rfl (Nat.le_of_ble_eq_true rfl) rfl (fun p e s m args below meth c E hr hlk => ?_)
  unfold f_X2_becomeProduct at hf
  refine j_aload_n E 0 rfl dX2_becomeProduct_0 rfl ?_
  refine j_aload_n E 1 rfl dX2_becomeProduct_1 rfl ?_
  obtain ⟨v1, ev1, hf⟩ := bs hf
  refine j_getI (ci := 1) (k0 := 0) (T := TX2) (N := 4) E (mI inUX2) rfl (by decide) (mU uw_1_73) ev1 dX2_becomeProduct_2 ?_
  refine j_aload_n E 2 rfl dX2_becomeProduct_5 rfl ?_
  obtain ⟨v2, ev2, hf⟩ := bs hf
  refine j_getI (ci := 1) (k0 := 1) (T := TX2) (N := 4) E (mI inUX2) rfl (by decide) (mU uw_1_77) ev2 dX2_becomeProduct_6 ?_
  obtain ⟨k3, hf⟩ := ck_spec hf
  obtain ⟨h4, e5, hf⟩ := bs hf
  refine j_callV (ci := 1) (b := x0) (As := [.int v1, .int v2]) (rest := []) (v := none) E (c_X2_begin l D ad cy h x0 v1 v2 e5) (mcw E.1.2.2.2.2 uw_1_139 uw_2_78 uw_1_137 uw_1_138 uw_1_4 rfl rfl hd_X2_begin ⟨by decide, by decide⟩) rfl k3 rfl rfl (Nat.le_of_ble_eq_true rfl) dX2_becomeProduct_9 ⟨Nat.zero_le _, Nat.zero_le _⟩ ?_
  refine j_stk (st' := []) rfl ?_
  refine j_iconst (v := 0) E dX2_becomeProduct_12 (by decide) ?_
  refine j_istore_n (lv' := [(3, .int 0), (0, .ref (ad x0)), (1, .ref (ad x1)), (2, .ref (ad x2))]) E dX2_becomeProduct_13 rfl (by decide) rfl ?_
  refine j_perm (lv' := [(0, .ref (ad x0)), (1, .ref (ad x1)), (2, .ref (ad x2)), (3, .int 0)]) [1, 2, 3, 0] rfl ?_
  refine w_X2_becomeProduct_14 E hr hlk x0 x1 x2 FU _ h4 0 (fun h19 hf => ?_) hf
  cases hf
  exact j_vret E hr hlk dX2_becomeProduct_67
noncomputable def L_X2_becomeEach_23 (x0 : Nat) (x1 : Nat) (x2 : Nat) (x3 : Int32) : Nat → (HP → Option (HP)) → HP → Int32 → Option (HP)
  | 0, _, _, _ => none
  | n + 1, k, h, x4 =>
      if 16 ≤ x4 then (
        k h
      ) else (
        ck 1 h x1 <|
        (f_X2_keeps h x1 x3 x4).bind fun v9 =>
        if v9 = 0 then (
          L_X2_becomeEach_23 x0 x1 x2 x3 n k h (x4 + 1)
        ) else (
          ck 1 h x2 <|
          (f_X2_keeps h x2 x3 x4).bind fun v13 =>
          if v13 = 0 then (
            L_X2_becomeEach_23 x0 x1 x2 x3 n k h (x4 + 1)
          ) else (
            ck 1 h x1 <|
            (f_X2_value h x1 x3 x4).bind fun v17 =>
            ck 1 h x2 <|
            (f_X2_value h x2 x3 x4).bind fun v20 =>
            ck 1 h x0 <|
            (f_X2_put h x0 x3 x4 (v17 * v20)).bind fun h23 =>
            L_X2_becomeEach_23 x0 x1 x2 x3 n k h23 (x4 + 1)
          )
        )
      )
noncomputable def L_X2_becomeEach_14 (x0 : Nat) (x1 : Nat) (x2 : Nat) : Nat → (HP → Option (HP)) → HP → Int32 → Option (HP)
  | 0, _, _, _ => none
  | n + 1, k, h, x3 =>
      if 16 ≤ x3 then (
        k h
      ) else (
        L_X2_becomeEach_23 x0 x1 x2 x3 FU (fun h25 =>
          L_X2_becomeEach_14 x0 x1 x2 n k h25 (x3 + 1)) h 0
      )
noncomputable def f_X2_becomeEach (h : HP) (x0 : Nat) (x1 : Nat) (x2 : Nat) : Option (HP) :=
  (gI 1 h x1 0).bind fun v1 =>
  (gI 1 h x1 1).bind fun v2 =>
  ck 1 h x0 <|
  (f_X2_begin h x0 v1 v2).bind fun h4 =>
  L_X2_becomeEach_14 x0 x1 x2 FU (fun h26 =>
    some h26) h4 0
abbrev rmX2_becomeEach : Room := { frames := 2, cells := 0, slots := 0, locals := 44 }
theorem hd_X2_becomeEach : yX2_becomeEach.cls = RX2 ∧ yX2_becomeEach.cls ≠ "java/lang/invoke/MethodHandle" ∧ yX2_becomeEach.cls ≠ "java/lang/invoke/VarHandle" ∧ (parseMethodDescriptor yX2_becomeEach.desc).map (fun d => d.parameters.length) = some 2 := by decide +kernel
set_option maxRecDepth 100000 in
set_option maxHeartbeats 4000000 in
theorem w_X2_becomeEach_23 {p : Program} {l : Launch} {e : Env} {s : State} {m : MethodId} {args : Array Value} {below : List Frame} {meth : Method} {c : Code} {D : va_G} {ad : Nat → Nat} {cy : Nat → ClassId} (E : EE p s m args c cX2_becomeEach 5 (wsM yX2_becomeEach cX2_becomeEach 5 none) RX2 D cy) (hr : meth.sig.returnType = none) (hlk : meth.locks = false) {h' : HP} (x0 : Nat) (x1 : Nat) (x2 : Nat) (x3 : Int32) : ∀ (n : Nat) (k : (HP → Option (HP))) (h : HP) (x4 : Int32), (∀ (h : HP), k h = some h' → JJ p l e rmX2_becomeEach s m args below meth c 0 0 (MQ below (QV D ad cy none h') args s 0 0 (Aw ad)) D ad cy (Aw ad) 5 h [(0, .ref (ad x0)), (1, .ref (ad x1)), (2, .ref (ad x2)), (3, .int x3)] 78 []) → L_X2_becomeEach_23 x0 x1 x2 x3 n k h x4 = some h' → JJ p l e rmX2_becomeEach s m args below meth c 0 0 (MQ below (QV D ad cy none h') args s 0 0 (Aw ad)) D ad cy (Aw ad) 5 h [(0, .ref (ad x0)), (1, .ref (ad x1)), (2, .ref (ad x2)), (3, .int x3), (4, .int x4)] 23 [] := by
  intro n
  induction n with
  | zero => intro k h x4 hk hf; cases hf
  | succ n ih =>
    intro k h x4 hk hf
    unfold L_X2_becomeEach_23 at hf
    refine j_iload E 4 rfl dX2_becomeEach_23 ?_
    refine j_bipush (v := 16) E dX2_becomeEach_25 (by decide) ?_
    refine j_icmp_ge (tgt := 78) E dX2_becomeEach_27 (by decide) (fun z7 => ?_) (fun z7 => ?_)
    · have hf := ifp hf z7
      refine j_perm (lv' := [(0, .ref (ad x0)), (1, .ref (ad x1)), (2, .ref (ad x2)), (3, .int x3)]) [0, 1, 2, 3] rfl ?_
      exact hk h hf
    · have hf := ifn hf z7
      refine j_aload_n E 1 rfl dX2_becomeEach_30 rfl ?_
      refine j_iload_n E 3 rfl dX2_becomeEach_31 rfl ?_
      refine j_iload E 4 rfl dX2_becomeEach_32 ?_
      obtain ⟨k8, hf⟩ := ck_spec hf
      obtain ⟨v9, e10, hf⟩ := bs hf
      refine j_callV (ci := 1) (b := x1) (As := [.int x3, .int x4]) (rest := []) (v := (some (.int v9))) E (c_X2_keeps l D ad cy h x1 x3 x4 e10) (mcw E.1.2.2.2.2 uw_2_5 uw_2_2 uw_2_3 uw_2_4 uw_1_4 rfl rfl hd_X2_keeps ⟨by decide, by decide⟩) rfl k8 rfl rfl (Nat.le_of_ble_eq_true rfl) dX2_becomeEach_34 ⟨Nat.zero_le _, Nat.zero_le _⟩ ?_
      refine j_stk (st' := [.int v9]) rfl ?_
      refine j_if_eq (tgt := 72) E dX2_becomeEach_37 (by decide) (fun z11 => ?_) (fun z11 => ?_)
      · have hf := ifp hf z11
        refine j_iinc (v := (x4 + 1)) (k0 := 4) (lv' := [(4, .int (x4 + 1)), (0, .ref (ad x0)), (1, .ref (ad x1)), (2, .ref (ad x2)), (3, .int x3)]) E dX2_becomeEach_72 rfl (congrArg (fun z => x4 + z) (by decide)) (by decide) rfl ?_
        refine j_goto (tgt := 23) E dX2_becomeEach_75 (by decide) ?_
        refine j_perm (lv' := [(0, .ref (ad x0)), (1, .ref (ad x1)), (2, .ref (ad x2)), (3, .int x3), (4, .int (x4 + 1))]) [1, 2, 3, 4, 0] rfl ?_
        exact ih k h (x4 + 1) hk hf
      · have hf := ifn hf z11
        refine j_aload_n E 2 rfl dX2_becomeEach_40 rfl ?_
        refine j_iload_n E 3 rfl dX2_becomeEach_41 rfl ?_
        refine j_iload E 4 rfl dX2_becomeEach_42 ?_
        obtain ⟨k12, hf⟩ := ck_spec hf
        obtain ⟨v13, e14, hf⟩ := bs hf
        refine j_callV (ci := 1) (b := x2) (As := [.int x3, .int x4]) (rest := []) (v := (some (.int v13))) E (c_X2_keeps l D ad cy h x2 x3 x4 e14) (mcw E.1.2.2.2.2 uw_2_5 uw_2_2 uw_2_3 uw_2_4 uw_1_4 rfl rfl hd_X2_keeps ⟨by decide, by decide⟩) rfl k12 rfl rfl (Nat.le_of_ble_eq_true rfl) dX2_becomeEach_44 ⟨Nat.zero_le _, Nat.zero_le _⟩ ?_
        refine j_stk (st' := [.int v13]) rfl ?_
        refine j_if_eq (tgt := 72) E dX2_becomeEach_47 (by decide) (fun z15 => ?_) (fun z15 => ?_)
        · have hf := ifp hf z15
          refine j_iinc (v := (x4 + 1)) (k0 := 4) (lv' := [(4, .int (x4 + 1)), (0, .ref (ad x0)), (1, .ref (ad x1)), (2, .ref (ad x2)), (3, .int x3)]) E dX2_becomeEach_72 rfl (congrArg (fun z => x4 + z) (by decide)) (by decide) rfl ?_
          refine j_goto (tgt := 23) E dX2_becomeEach_75 (by decide) ?_
          refine j_perm (lv' := [(0, .ref (ad x0)), (1, .ref (ad x1)), (2, .ref (ad x2)), (3, .int x3), (4, .int (x4 + 1))]) [1, 2, 3, 4, 0] rfl ?_
          exact ih k h (x4 + 1) hk hf
        · have hf := ifn hf z15
          refine j_aload_n E 0 rfl dX2_becomeEach_50 rfl ?_
          refine j_iload_n E 3 rfl dX2_becomeEach_51 rfl ?_
          refine j_iload E 4 rfl dX2_becomeEach_52 ?_
          refine j_aload_n E 1 rfl dX2_becomeEach_54 rfl ?_
          refine j_iload_n E 3 rfl dX2_becomeEach_55 rfl ?_
          refine j_iload E 4 rfl dX2_becomeEach_56 ?_
          obtain ⟨k16, hf⟩ := ck_spec hf
          obtain ⟨v17, e18, hf⟩ := bs hf
          refine j_callV (ci := 1) (b := x1) (As := [.int x3, .int x4]) (rest := [.int x4, .int x3, .ref (ad x0)]) (v := (some (.long v17))) E (c_X2_value l D ad cy h x1 x3 x4 e18) (mcw E.1.2.2.2.2 uw_1_224 uw_1_221 uw_1_222 uw_1_223 uw_1_4 rfl rfl hd_X2_value ⟨by decide, by decide⟩) rfl k16 rfl rfl (Nat.le_of_ble_eq_true rfl) dX2_becomeEach_58 ⟨Nat.zero_le _, Nat.zero_le _⟩ ?_
          refine j_stk (st' := [.long v17, .int x4, .int x3, .ref (ad x0)]) rfl ?_
          refine j_aload_n E 2 rfl dX2_becomeEach_61 rfl ?_
          refine j_iload_n E 3 rfl dX2_becomeEach_62 rfl ?_
          refine j_iload E 4 rfl dX2_becomeEach_63 ?_
          obtain ⟨k19, hf⟩ := ck_spec hf
          obtain ⟨v20, e21, hf⟩ := bs hf
          refine j_callV (ci := 1) (b := x2) (As := [.int x3, .int x4]) (rest := [.long v17, .int x4, .int x3, .ref (ad x0)]) (v := (some (.long v20))) E (c_X2_value l D ad cy h x2 x3 x4 e21) (mcw E.1.2.2.2.2 uw_1_224 uw_1_221 uw_1_222 uw_1_223 uw_1_4 rfl rfl hd_X2_value ⟨by decide, by decide⟩) rfl k19 rfl rfl (Nat.le_of_ble_eq_true rfl) dX2_becomeEach_65 ⟨Nat.zero_le _, Nat.zero_le _⟩ ?_
          refine j_stk (st' := [.long v20, .long v17, .int x4, .int x3, .ref (ad x0)]) rfl ?_
          refine j_lmul E dX2_becomeEach_68 ?_
          obtain ⟨k22, hf⟩ := ck_spec hf
          obtain ⟨h23, e24, hf⟩ := bs hf
          refine j_callV (ci := 1) (b := x0) (As := [.int x3, .int x4, .long (v17 * v20)]) (rest := []) (v := none) E (c_X2_put l D ad cy h x0 x3 x4 (v17 * v20) e24) (mcw E.1.2.2.2.2 uw_1_229 uw_1_226 uw_1_227 uw_1_228 uw_1_4 rfl rfl hd_X2_put ⟨by decide, by decide⟩) rfl k22 rfl rfl (Nat.le_of_ble_eq_true rfl) dX2_becomeEach_69 ⟨Nat.zero_le _, Nat.zero_le _⟩ ?_
          refine j_stk (st' := []) rfl ?_
          refine j_iinc (v := (x4 + 1)) (k0 := 4) (lv' := [(4, .int (x4 + 1)), (0, .ref (ad x0)), (1, .ref (ad x1)), (2, .ref (ad x2)), (3, .int x3)]) E dX2_becomeEach_72 rfl (congrArg (fun z => x4 + z) (by decide)) (by decide) rfl ?_
          refine j_goto (tgt := 23) E dX2_becomeEach_75 (by decide) ?_
          refine j_perm (lv' := [(0, .ref (ad x0)), (1, .ref (ad x1)), (2, .ref (ad x2)), (3, .int x3), (4, .int (x4 + 1))]) [1, 2, 3, 4, 0] rfl ?_
          exact ih k h23 (x4 + 1) hk hf
set_option maxRecDepth 100000 in
set_option maxHeartbeats 4000000 in
theorem w_X2_becomeEach_14 {p : Program} {l : Launch} {e : Env} {s : State} {m : MethodId} {args : Array Value} {below : List Frame} {meth : Method} {c : Code} {D : va_G} {ad : Nat → Nat} {cy : Nat → ClassId} (E : EE p s m args c cX2_becomeEach 5 (wsM yX2_becomeEach cX2_becomeEach 5 none) RX2 D cy) (hr : meth.sig.returnType = none) (hlk : meth.locks = false) {h' : HP} (x0 : Nat) (x1 : Nat) (x2 : Nat) : ∀ (n : Nat) (k : (HP → Option (HP))) (h : HP) (x3 : Int32), (∀ (h : HP), k h = some h' → JJ p l e rmX2_becomeEach s m args below meth c 0 0 (MQ below (QV D ad cy none h') args s 0 0 (Aw ad)) D ad cy (Aw ad) 5 h [] 84 []) → L_X2_becomeEach_14 x0 x1 x2 n k h x3 = some h' → JJ p l e rmX2_becomeEach s m args below meth c 0 0 (MQ below (QV D ad cy none h') args s 0 0 (Aw ad)) D ad cy (Aw ad) 5 h [(0, .ref (ad x0)), (1, .ref (ad x1)), (2, .ref (ad x2)), (3, .int x3)] 14 [] := by
  intro n
  induction n with
  | zero => intro k h x3 hk hf; cases hf
  | succ n ih =>
    intro k h x3 hk hf
    unfold L_X2_becomeEach_14 at hf
    refine j_iload_n E 3 rfl dX2_becomeEach_14 rfl ?_
    refine j_bipush (v := 16) E dX2_becomeEach_15 (by decide) ?_
    refine j_icmp_ge (tgt := 84) E dX2_becomeEach_17 (by decide) (fun z6 => ?_) (fun z6 => ?_)
    · have hf := ifp hf z6
      refine j_perm (lv' := []) [] rfl ?_
      exact hk h hf
    · have hf := ifn hf z6
      refine j_iconst (v := 0) E dX2_becomeEach_20 (by decide) ?_
      refine j_istore (lv' := [(4, .int 0), (0, .ref (ad x0)), (1, .ref (ad x1)), (2, .ref (ad x2)), (3, .int x3)]) E dX2_becomeEach_21 (by decide) rfl ?_
      refine j_perm (lv' := [(0, .ref (ad x0)), (1, .ref (ad x1)), (2, .ref (ad x2)), (3, .int x3), (4, .int 0)]) [1, 2, 3, 4, 0] rfl ?_
      refine w_X2_becomeEach_23 E hr hlk x0 x1 x2 x3 FU _ h 0 (fun h25 hf => ?_) hf
      refine j_iinc (v := (x3 + 1)) (k0 := 3) (lv' := [(3, .int (x3 + 1)), (0, .ref (ad x0)), (1, .ref (ad x1)), (2, .ref (ad x2))]) E dX2_becomeEach_78 rfl (congrArg (fun z => x3 + z) (by decide)) (by decide) rfl ?_
      refine j_goto (tgt := 14) E dX2_becomeEach_81 (by decide) ?_
      refine j_perm (lv' := [(0, .ref (ad x0)), (1, .ref (ad x1)), (2, .ref (ad x2)), (3, .int (x3 + 1))]) [1, 2, 3, 0] rfl ?_
      exact ih k h25 (x3 + 1) hk hf
set_option maxRecDepth 100000 in
set_option maxHeartbeats 4000000 in
theorem c_X2_becomeEach (l : Launch) (D : va_G) (ad : Nat → Nat) (cy : Nat → ClassId) (h : HP) (x0 : Nat) (x1 : Nat) (x2 : Nat) {h' : HP} (hf : f_X2_becomeEach h x0 x1 x2 = some h') : Met l yX2_becomeEach (wsM yX2_becomeEach cX2_becomeEach 5 none) rmX2_becomeEach (va_Pc [.ref (ad x0), .ref (ad x1), .ref (ad x2)] (PW D ad cy h)) (QV D ad cy none h') 0 0 (Aw ad) := by
  refine met_of (own := RX2) (lv := [(0, .ref (ad x0)), (1, .ref (ad x1)), (2, .ref (ad x2))]) (by decide) rfl (Nat.le_of_ble_eq_true rfl) rfl (fun p e s m args below meth c E hr hlk => ?_)
  unfold f_X2_becomeEach at hf
  refine j_aload_n E 0 rfl dX2_becomeEach_0 rfl ?_
  refine j_aload_n E 1 rfl dX2_becomeEach_1 rfl ?_
  obtain ⟨v1, ev1, hf⟩ := bs hf
  refine j_getI (ci := 1) (k0 := 0) (T := TX2) (N := 4) E (mI inUX2) rfl (by decide) (mU uw_1_73) ev1 dX2_becomeEach_2 ?_
  refine j_aload_n E 1 rfl dX2_becomeEach_5 rfl ?_
  obtain ⟨v2, ev2, hf⟩ := bs hf
  refine j_getI (ci := 1) (k0 := 1) (T := TX2) (N := 4) E (mI inUX2) rfl (by decide) (mU uw_1_77) ev2 dX2_becomeEach_6 ?_
  obtain ⟨k3, hf⟩ := ck_spec hf
  obtain ⟨h4, e5, hf⟩ := bs hf
  refine j_callV (ci := 1) (b := x0) (As := [.int v1, .int v2]) (rest := []) (v := none) E (c_X2_begin l D ad cy h x0 v1 v2 e5) (mcw E.1.2.2.2.2 uw_1_139 uw_2_78 uw_1_137 uw_1_138 uw_1_4 rfl rfl hd_X2_begin ⟨by decide, by decide⟩) rfl k3 rfl rfl (Nat.le_of_ble_eq_true rfl) dX2_becomeEach_9 ⟨Nat.zero_le _, Nat.zero_le _⟩ ?_
  refine j_stk (st' := []) rfl ?_
  refine j_iconst (v := 0) E dX2_becomeEach_12 (by decide) ?_
  refine j_istore_n (lv' := [(3, .int 0), (0, .ref (ad x0)), (1, .ref (ad x1)), (2, .ref (ad x2))]) E dX2_becomeEach_13 rfl (by decide) rfl ?_
  refine j_perm (lv' := [(0, .ref (ad x0)), (1, .ref (ad x1)), (2, .ref (ad x2)), (3, .int 0)]) [1, 2, 3, 0] rfl ?_
  refine w_X2_becomeEach_14 E hr hlk x0 x1 x2 FU _ h4 0 (fun h26 hf => ?_) hf
  cases hf
  exact j_vret E hr hlk dX2_becomeEach_84
noncomputable def L_X2_becomeMasked_25 (x0 : Nat) (x1 : Nat) (x2 : Nat) (x3 : Int32) (x4 : Int32) : Nat → (HP → Option (HP)) → HP → Int32 → Option (HP)
  | 0, _, _, _ => none
  | n + 1, k, h, x5 =>
      if 16 ≤ x5 then (
        k h
      ) else (
        ck 1 h x1 <|
        (f_X2_keeps h x1 x4 x5).bind fun v9 =>
        if v9 = 0 then (
          L_X2_becomeMasked_25 x0 x1 x2 x3 x4 n k h (x5 + 1)
        ) else (
          ck 1 h x2 <|
          (f_X2_keeps h x2 x4 x5).bind fun v13 =>
          if v13 = x3 then (
            ck 1 h x1 <|
            (f_X2_value h x1 x4 x5).bind fun v17 =>
            ck 1 h x0 <|
            (f_X2_put h x0 x4 x5 v17).bind fun h20 =>
            L_X2_becomeMasked_25 x0 x1 x2 x3 x4 n k h20 (x5 + 1)
          ) else (
            L_X2_becomeMasked_25 x0 x1 x2 x3 x4 n k h (x5 + 1)
          )
        )
      )
noncomputable def L_X2_becomeMasked_15 (x0 : Nat) (x1 : Nat) (x2 : Nat) (x3 : Int32) : Nat → (HP → Option (HP)) → HP → Int32 → Option (HP)
  | 0, _, _, _ => none
  | n + 1, k, h, x4 =>
      if 16 ≤ x4 then (
        k h
      ) else (
        L_X2_becomeMasked_25 x0 x1 x2 x3 x4 FU (fun h22 =>
          L_X2_becomeMasked_15 x0 x1 x2 x3 n k h22 (x4 + 1)) h 0
      )
noncomputable def f_X2_becomeMasked (h : HP) (x0 : Nat) (x1 : Nat) (x2 : Nat) (x3 : Int32) : Option (HP) :=
  (gI 1 h x1 0).bind fun v1 =>
  (gI 1 h x1 1).bind fun v2 =>
  ck 1 h x0 <|
  (f_X2_begin h x0 v1 v2).bind fun h4 =>
  L_X2_becomeMasked_15 x0 x1 x2 x3 FU (fun h23 =>
    some h23) h4 0
abbrev rmX2_becomeMasked : Room := { frames := 2, cells := 0, slots := 0, locals := 44 }
theorem hd_X2_becomeMasked : yX2_becomeMasked.cls = RX2 ∧ yX2_becomeMasked.cls ≠ "java/lang/invoke/MethodHandle" ∧ yX2_becomeMasked.cls ≠ "java/lang/invoke/VarHandle" ∧ (parseMethodDescriptor yX2_becomeMasked.desc).map (fun d => d.parameters.length) = some 3 := by decide +kernel
set_option maxRecDepth 100000 in
set_option maxHeartbeats 4000000 in
theorem w_X2_becomeMasked_25 {p : Program} {l : Launch} {e : Env} {s : State} {m : MethodId} {args : Array Value} {below : List Frame} {meth : Method} {c : Code} {D : va_G} {ad : Nat → Nat} {cy : Nat → ClassId} (E : EE p s m args c cX2_becomeMasked 6 (wsM yX2_becomeMasked cX2_becomeMasked 6 none) RX2 D cy) (hr : meth.sig.returnType = none) (hlk : meth.locks = false) {h' : HP} (x0 : Nat) (x1 : Nat) (x2 : Nat) (x3 : Int32) (x4 : Int32) : ∀ (n : Nat) (k : (HP → Option (HP))) (h : HP) (x5 : Int32), (∀ (h : HP), k h = some h' → JJ p l e rmX2_becomeMasked s m args below meth c 0 0 (MQ below (QV D ad cy none h') args s 0 0 (Aw ad)) D ad cy (Aw ad) 6 h [(0, .ref (ad x0)), (1, .ref (ad x1)), (2, .ref (ad x2)), (3, .int x3), (4, .int x4)] 77 []) → L_X2_becomeMasked_25 x0 x1 x2 x3 x4 n k h x5 = some h' → JJ p l e rmX2_becomeMasked s m args below meth c 0 0 (MQ below (QV D ad cy none h') args s 0 0 (Aw ad)) D ad cy (Aw ad) 6 h [(0, .ref (ad x0)), (1, .ref (ad x1)), (2, .ref (ad x2)), (3, .int x3), (4, .int x4), (5, .int x5)] 25 [] := by
  intro n
  induction n with
  | zero => intro k h x5 hk hf; cases hf
  | succ n ih =>
    intro k h x5 hk hf
    unfold L_X2_becomeMasked_25 at hf
    refine j_iload E 5 rfl dX2_becomeMasked_25 ?_
    refine j_bipush (v := 16) E dX2_becomeMasked_27 (by decide) ?_
    refine j_icmp_ge (tgt := 77) E dX2_becomeMasked_29 (by decide) (fun z7 => ?_) (fun z7 => ?_)
    · have hf := ifp hf z7
      refine j_perm (lv' := [(0, .ref (ad x0)), (1, .ref (ad x1)), (2, .ref (ad x2)), (3, .int x3), (4, .int x4)]) [0, 1, 2, 3, 4] rfl ?_
      exact hk h hf
    · have hf := ifn hf z7
      refine j_aload_n E 1 rfl dX2_becomeMasked_32 rfl ?_
      refine j_iload E 4 rfl dX2_becomeMasked_33 ?_
      refine j_iload E 5 rfl dX2_becomeMasked_35 ?_
      obtain ⟨k8, hf⟩ := ck_spec hf
      obtain ⟨v9, e10, hf⟩ := bs hf
      refine j_callV (ci := 1) (b := x1) (As := [.int x4, .int x5]) (rest := []) (v := (some (.int v9))) E (c_X2_keeps l D ad cy h x1 x4 x5 e10) (mcw E.1.2.2.2.2 uw_2_5 uw_2_2 uw_2_3 uw_2_4 uw_1_4 rfl rfl hd_X2_keeps ⟨by decide, by decide⟩) rfl k8 rfl rfl (Nat.le_of_ble_eq_true rfl) dX2_becomeMasked_37 ⟨Nat.zero_le _, Nat.zero_le _⟩ ?_
      refine j_stk (st' := [.int v9]) rfl ?_
      refine j_if_eq (tgt := 71) E dX2_becomeMasked_40 (by decide) (fun z11 => ?_) (fun z11 => ?_)
      · have hf := ifp hf z11
        refine j_iinc (v := (x5 + 1)) (k0 := 5) (lv' := [(5, .int (x5 + 1)), (0, .ref (ad x0)), (1, .ref (ad x1)), (2, .ref (ad x2)), (3, .int x3), (4, .int x4)]) E dX2_becomeMasked_71 rfl (congrArg (fun z => x5 + z) (by decide)) (by decide) rfl ?_
        refine j_goto (tgt := 25) E dX2_becomeMasked_74 (by decide) ?_
        refine j_perm (lv' := [(0, .ref (ad x0)), (1, .ref (ad x1)), (2, .ref (ad x2)), (3, .int x3), (4, .int x4), (5, .int (x5 + 1))]) [1, 2, 3, 4, 5, 0] rfl ?_
        exact ih k h (x5 + 1) hk hf
      · have hf := ifn hf z11
        refine j_aload_n E 2 rfl dX2_becomeMasked_43 rfl ?_
        refine j_iload E 4 rfl dX2_becomeMasked_44 ?_
        refine j_iload E 5 rfl dX2_becomeMasked_46 ?_
        obtain ⟨k12, hf⟩ := ck_spec hf
        obtain ⟨v13, e14, hf⟩ := bs hf
        refine j_callV (ci := 1) (b := x2) (As := [.int x4, .int x5]) (rest := []) (v := (some (.int v13))) E (c_X2_keeps l D ad cy h x2 x4 x5 e14) (mcw E.1.2.2.2.2 uw_2_5 uw_2_2 uw_2_3 uw_2_4 uw_1_4 rfl rfl hd_X2_keeps ⟨by decide, by decide⟩) rfl k12 rfl rfl (Nat.le_of_ble_eq_true rfl) dX2_becomeMasked_48 ⟨Nat.zero_le _, Nat.zero_le _⟩ ?_
        refine j_stk (st' := [.int v13]) rfl ?_
        refine j_iload_n E 3 rfl dX2_becomeMasked_51 rfl ?_
        refine j_icmp_ne (tgt := 71) E dX2_becomeMasked_52 (by decide) (fun z15 => ?_) (fun z15 => ?_)
        · have hf := ifn hf z15
          refine j_iinc (v := (x5 + 1)) (k0 := 5) (lv' := [(5, .int (x5 + 1)), (0, .ref (ad x0)), (1, .ref (ad x1)), (2, .ref (ad x2)), (3, .int x3), (4, .int x4)]) E dX2_becomeMasked_71 rfl (congrArg (fun z => x5 + z) (by decide)) (by decide) rfl ?_
          refine j_goto (tgt := 25) E dX2_becomeMasked_74 (by decide) ?_
          refine j_perm (lv' := [(0, .ref (ad x0)), (1, .ref (ad x1)), (2, .ref (ad x2)), (3, .int x3), (4, .int x4), (5, .int (x5 + 1))]) [1, 2, 3, 4, 5, 0] rfl ?_
          exact ih k h (x5 + 1) hk hf
        · have hf := ifp hf z15
          refine j_aload_n E 0 rfl dX2_becomeMasked_55 rfl ?_
          refine j_iload E 4 rfl dX2_becomeMasked_56 ?_
          refine j_iload E 5 rfl dX2_becomeMasked_58 ?_
          refine j_aload_n E 1 rfl dX2_becomeMasked_60 rfl ?_
          refine j_iload E 4 rfl dX2_becomeMasked_61 ?_
          refine j_iload E 5 rfl dX2_becomeMasked_63 ?_
          obtain ⟨k16, hf⟩ := ck_spec hf
          obtain ⟨v17, e18, hf⟩ := bs hf
          refine j_callV (ci := 1) (b := x1) (As := [.int x4, .int x5]) (rest := [.int x5, .int x4, .ref (ad x0)]) (v := (some (.long v17))) E (c_X2_value l D ad cy h x1 x4 x5 e18) (mcw E.1.2.2.2.2 uw_1_224 uw_1_221 uw_1_222 uw_1_223 uw_1_4 rfl rfl hd_X2_value ⟨by decide, by decide⟩) rfl k16 rfl rfl (Nat.le_of_ble_eq_true rfl) dX2_becomeMasked_65 ⟨Nat.zero_le _, Nat.zero_le _⟩ ?_
          refine j_stk (st' := [.long v17, .int x5, .int x4, .ref (ad x0)]) rfl ?_
          obtain ⟨k19, hf⟩ := ck_spec hf
          obtain ⟨h20, e21, hf⟩ := bs hf
          refine j_callV (ci := 1) (b := x0) (As := [.int x4, .int x5, .long v17]) (rest := []) (v := none) E (c_X2_put l D ad cy h x0 x4 x5 v17 e21) (mcw E.1.2.2.2.2 uw_1_229 uw_1_226 uw_1_227 uw_1_228 uw_1_4 rfl rfl hd_X2_put ⟨by decide, by decide⟩) rfl k19 rfl rfl (Nat.le_of_ble_eq_true rfl) dX2_becomeMasked_68 ⟨Nat.zero_le _, Nat.zero_le _⟩ ?_
          refine j_stk (st' := []) rfl ?_
          refine j_iinc (v := (x5 + 1)) (k0 := 5) (lv' := [(5, .int (x5 + 1)), (0, .ref (ad x0)), (1, .ref (ad x1)), (2, .ref (ad x2)), (3, .int x3), (4, .int x4)]) E dX2_becomeMasked_71 rfl (congrArg (fun z => x5 + z) (by decide)) (by decide) rfl ?_
          refine j_goto (tgt := 25) E dX2_becomeMasked_74 (by decide) ?_
          refine j_perm (lv' := [(0, .ref (ad x0)), (1, .ref (ad x1)), (2, .ref (ad x2)), (3, .int x3), (4, .int x4), (5, .int (x5 + 1))]) [1, 2, 3, 4, 5, 0] rfl ?_
          exact ih k h20 (x5 + 1) hk hf
set_option maxRecDepth 100000 in
set_option maxHeartbeats 4000000 in
theorem w_X2_becomeMasked_15 {p : Program} {l : Launch} {e : Env} {s : State} {m : MethodId} {args : Array Value} {below : List Frame} {meth : Method} {c : Code} {D : va_G} {ad : Nat → Nat} {cy : Nat → ClassId} (E : EE p s m args c cX2_becomeMasked 6 (wsM yX2_becomeMasked cX2_becomeMasked 6 none) RX2 D cy) (hr : meth.sig.returnType = none) (hlk : meth.locks = false) {h' : HP} (x0 : Nat) (x1 : Nat) (x2 : Nat) (x3 : Int32) : ∀ (n : Nat) (k : (HP → Option (HP))) (h : HP) (x4 : Int32), (∀ (h : HP), k h = some h' → JJ p l e rmX2_becomeMasked s m args below meth c 0 0 (MQ below (QV D ad cy none h') args s 0 0 (Aw ad)) D ad cy (Aw ad) 6 h [] 83 []) → L_X2_becomeMasked_15 x0 x1 x2 x3 n k h x4 = some h' → JJ p l e rmX2_becomeMasked s m args below meth c 0 0 (MQ below (QV D ad cy none h') args s 0 0 (Aw ad)) D ad cy (Aw ad) 6 h [(0, .ref (ad x0)), (1, .ref (ad x1)), (2, .ref (ad x2)), (3, .int x3), (4, .int x4)] 15 [] := by
  intro n
  induction n with
  | zero => intro k h x4 hk hf; cases hf
  | succ n ih =>
    intro k h x4 hk hf
    unfold L_X2_becomeMasked_15 at hf
    refine j_iload E 4 rfl dX2_becomeMasked_15 ?_
    refine j_bipush (v := 16) E dX2_becomeMasked_17 (by decide) ?_
    refine j_icmp_ge (tgt := 83) E dX2_becomeMasked_19 (by decide) (fun z6 => ?_) (fun z6 => ?_)
    · have hf := ifp hf z6
      refine j_perm (lv' := []) [] rfl ?_
      exact hk h hf
    · have hf := ifn hf z6
      refine j_iconst (v := 0) E dX2_becomeMasked_22 (by decide) ?_
      refine j_istore (lv' := [(5, .int 0), (0, .ref (ad x0)), (1, .ref (ad x1)), (2, .ref (ad x2)), (3, .int x3), (4, .int x4)]) E dX2_becomeMasked_23 (by decide) rfl ?_
      refine j_perm (lv' := [(0, .ref (ad x0)), (1, .ref (ad x1)), (2, .ref (ad x2)), (3, .int x3), (4, .int x4), (5, .int 0)]) [1, 2, 3, 4, 5, 0] rfl ?_
      refine w_X2_becomeMasked_25 E hr hlk x0 x1 x2 x3 x4 FU _ h 0 (fun h22 hf => ?_) hf
      refine j_iinc (v := (x4 + 1)) (k0 := 4) (lv' := [(4, .int (x4 + 1)), (0, .ref (ad x0)), (1, .ref (ad x1)), (2, .ref (ad x2)), (3, .int x3)]) E dX2_becomeMasked_77 rfl (congrArg (fun z => x4 + z) (by decide)) (by decide) rfl ?_
      refine j_goto (tgt := 15) E dX2_becomeMasked_80 (by decide) ?_
      refine j_perm (lv' := [(0, .ref (ad x0)), (1, .ref (ad x1)), (2, .ref (ad x2)), (3, .int x3), (4, .int (x4 + 1))]) [1, 2, 3, 4, 0] rfl ?_
      exact ih k h22 (x4 + 1) hk hf
set_option maxRecDepth 100000 in
set_option maxHeartbeats 4000000 in
theorem c_X2_becomeMasked (l : Launch) (D : va_G) (ad : Nat → Nat) (cy : Nat → ClassId) (h : HP) (x0 : Nat) (x1 : Nat) (x2 : Nat) (x3 : Int32) {h' : HP} (hf : f_X2_becomeMasked h x0 x1 x2 x3 = some h') : Met l yX2_becomeMasked (wsM yX2_becomeMasked cX2_becomeMasked 6 none) rmX2_becomeMasked (va_Pc [.ref (ad x0), .ref (ad x1), .ref (ad x2), .int x3] (PW D ad cy h)) (QV D ad cy none h') 0 0 (Aw ad) := by
  refine met_of (own := RX2) (lv := [(0, .ref (ad x0)), (1, .ref (ad x1)), (2, .ref (ad x2)), (3, .int x3)]) (by decide) rfl (Nat.le_of_ble_eq_true rfl) rfl (fun p e s m args below meth c E hr hlk => ?_)
  unfold f_X2_becomeMasked at hf
  refine j_aload_n E 0 rfl dX2_becomeMasked_0 rfl ?_
  refine j_aload_n E 1 rfl dX2_becomeMasked_1 rfl ?_
  obtain ⟨v1, ev1, hf⟩ := bs hf
  refine j_getI (ci := 1) (k0 := 0) (T := TX2) (N := 4) E (mI inUX2) rfl (by decide) (mU uw_1_73) ev1 dX2_becomeMasked_2 ?_
  refine j_aload_n E 1 rfl dX2_becomeMasked_5 rfl ?_
  obtain ⟨v2, ev2, hf⟩ := bs hf
  refine j_getI (ci := 1) (k0 := 1) (T := TX2) (N := 4) E (mI inUX2) rfl (by decide) (mU uw_1_77) ev2 dX2_becomeMasked_6 ?_
  obtain ⟨k3, hf⟩ := ck_spec hf
  obtain ⟨h4, e5, hf⟩ := bs hf
  refine j_callV (ci := 1) (b := x0) (As := [.int v1, .int v2]) (rest := []) (v := none) E (c_X2_begin l D ad cy h x0 v1 v2 e5) (mcw E.1.2.2.2.2 uw_1_139 uw_2_78 uw_1_137 uw_1_138 uw_1_4 rfl rfl hd_X2_begin ⟨by decide, by decide⟩) rfl k3 rfl rfl (Nat.le_of_ble_eq_true rfl) dX2_becomeMasked_9 ⟨Nat.zero_le _, Nat.zero_le _⟩ ?_
  refine j_stk (st' := []) rfl ?_
  refine j_iconst (v := 0) E dX2_becomeMasked_12 (by decide) ?_
  refine j_istore (lv' := [(4, .int 0), (0, .ref (ad x0)), (1, .ref (ad x1)), (2, .ref (ad x2)), (3, .int x3)]) E dX2_becomeMasked_13 (by decide) rfl ?_
  refine j_perm (lv' := [(0, .ref (ad x0)), (1, .ref (ad x1)), (2, .ref (ad x2)), (3, .int x3), (4, .int 0)]) [1, 2, 3, 4, 0] rfl ?_
  refine w_X2_becomeMasked_15 E hr hlk x0 x1 x2 x3 FU _ h4 0 (fun h23 hf => ?_) hf
  cases hf
  exact j_vret E hr hlk dX2_becomeMasked_83
noncomputable def L_X2_becomeRows_14 (x0 : Nat) (x1 : Nat) (x2 : Nat) : Nat → (HP → Option (HP)) → HP → Int32 → Option (HP)
  | 0, _, _, _ => none
  | n + 1, k, h, x3 =>
      if 16 ≤ x3 then (
        k h
      ) else (
        (gI 2 h x2 0).bind fun v7 =>
        if v7 ≤ x3 then (
          k h
        ) else (
          ck 2 h x2 <|
          (f_X3_item h x2 x3).bind fun v10 =>
          ck 1 h x0 <|
          (f_X2_addRowMultiple h x0 x3 x1 v10 1).bind fun h13 =>
          L_X2_becomeRows_14 x0 x1 x2 n k h13 (x3 + 1)
        )
      )
noncomputable def f_X2_becomeRows (h : HP) (x0 : Nat) (x1 : Nat) (x2 : Nat) : Option (HP) :=
  (gI 2 h x2 0).bind fun v1 =>
  (gI 1 h x1 1).bind fun v2 =>
  ck 1 h x0 <|
  (f_X2_begin h x0 v1 v2).bind fun h4 =>
  L_X2_becomeRows_14 x0 x1 x2 FU (fun h15 =>
    some h15) h4 0
abbrev rmX2_becomeRows : Room := { frames := 4, cells := 0, slots := 0, locals := 94 }
theorem hd_X2_becomeRows : yX2_becomeRows.cls = RX2 ∧ yX2_becomeRows.cls ≠ "java/lang/invoke/MethodHandle" ∧ yX2_becomeRows.cls ≠ "java/lang/invoke/VarHandle" ∧ (parseMethodDescriptor yX2_becomeRows.desc).map (fun d => d.parameters.length) = some 2 := by decide +kernel
set_option maxRecDepth 100000 in
set_option maxHeartbeats 4000000 in
theorem w_X2_becomeRows_14 {p : Program} {l : Launch} {e : Env} {s : State} {m : MethodId} {args : Array Value} {below : List Frame} {meth : Method} {c : Code} {D : va_G} {ad : Nat → Nat} {cy : Nat → ClassId} (E : EE p s m args c cX2_becomeRows 4 (wsM yX2_becomeRows cX2_becomeRows 4 none) RX2 D cy) (hr : meth.sig.returnType = none) (hlk : meth.locks = false) {h' : HP} (x0 : Nat) (x1 : Nat) (x2 : Nat) : ∀ (n : Nat) (k : (HP → Option (HP))) (h : HP) (x3 : Int32), (∀ (h : HP), k h = some h' → JJ p l e rmX2_becomeRows s m args below meth c 0 0 (MQ below (QV D ad cy none h') args s 0 0 (Aw ad)) D ad cy (Aw ad) 4 h [] 46 []) → L_X2_becomeRows_14 x0 x1 x2 n k h x3 = some h' → JJ p l e rmX2_becomeRows s m args below meth c 0 0 (MQ below (QV D ad cy none h') args s 0 0 (Aw ad)) D ad cy (Aw ad) 4 h [(0, .ref (ad x0)), (1, .ref (ad x1)), (2, .ref (ad x2)), (3, .int x3)] 14 [] := by
  intro n
  induction n with
  | zero => intro k h x3 hk hf; cases hf
  | succ n ih =>
    intro k h x3 hk hf
    unfold L_X2_becomeRows_14 at hf
    refine j_iload_n E 3 rfl dX2_becomeRows_14 rfl ?_
    refine j_bipush (v := 16) E dX2_becomeRows_15 (by decide) ?_
    refine j_icmp_ge (tgt := 46) E dX2_becomeRows_17 (by decide) (fun z6 => ?_) (fun z6 => ?_)
    · have hf := ifp hf z6
      refine j_perm (lv' := []) [] rfl ?_
      exact hk h hf
    · have hf := ifn hf z6
      refine j_iload_n E 3 rfl dX2_becomeRows_20 rfl ?_
      refine j_aload_n E 2 rfl dX2_becomeRows_21 rfl ?_
      obtain ⟨v7, ev7, hf⟩ := bs hf
      refine j_getI (ci := 2) (k0 := 0) (T := TX3) (N := 2) E (mI inUX3) rfl (by decide) (mU uw_1_100) ev7 dX2_becomeRows_22 ?_
      refine j_icmp_ge (tgt := 46) E dX2_becomeRows_25 (by decide) (fun z8 => ?_) (fun z8 => ?_)
      · have hf := ifp hf z8
        refine j_perm (lv' := []) [] rfl ?_
        exact hk h hf
      · have hf := ifn hf z8
        refine j_aload_n E 0 rfl dX2_becomeRows_28 rfl ?_
        refine j_iload_n E 3 rfl dX2_becomeRows_29 rfl ?_
        refine j_aload_n E 1 rfl dX2_becomeRows_30 rfl ?_
        refine j_aload_n E 2 rfl dX2_becomeRows_31 rfl ?_
        refine j_iload_n E 3 rfl dX2_becomeRows_32 rfl ?_
        obtain ⟨k9, hf⟩ := ck_spec hf
        obtain ⟨v10, e11, hf⟩ := bs hf
        refine j_callV (ci := 2) (b := x2) (As := [.int x3]) (rest := [.ref (ad x1), .int x3, .ref (ad x0)]) (v := (some (.int v10))) E (c_X3_item l D ad cy h x2 x3 e11) (mcw E.1.2.2.2.2 uw_1_185 uw_2_119 uw_1_183 uw_1_184 uw_1_5 rfl rfl hd_X3_item ⟨by decide, by decide⟩) rfl k9 rfl rfl (Nat.le_of_ble_eq_true rfl) dX2_becomeRows_33 ⟨Nat.zero_le _, Nat.zero_le _⟩ ?_
        refine j_stk (st' := [.int v10, .ref (ad x1), .int x3, .ref (ad x0)]) rfl ?_
        refine j_lconst (v := 1) E dX2_becomeRows_36 (by decide) ?_
        obtain ⟨k12, hf⟩ := ck_spec hf
        obtain ⟨h13, e14, hf⟩ := bs hf
        refine j_callV (ci := 1) (b := x0) (As := [.int x3, .ref (ad x1), .int v10, .long 1]) (rest := []) (v := none) E (c_X2_addRowMultiple l D ad cy h x0 x3 x1 v10 1 e14) (mcw E.1.2.2.2.2 uw_2_82 uw_2_79 uw_2_81 us_1_3 uw_1_4 rfl rfl hd_X2_addRowMultiple ⟨by decide, by decide⟩) rfl k12 rfl rfl (Nat.le_of_ble_eq_true rfl) dX2_becomeRows_37 ⟨Nat.zero_le _, Nat.zero_le _⟩ ?_
        refine j_stk (st' := []) rfl ?_
        refine j_iinc (v := (x3 + 1)) (k0 := 3) (lv' := [(3, .int (x3 + 1)), (0, .ref (ad x0)), (1, .ref (ad x1)), (2, .ref (ad x2))]) E dX2_becomeRows_40 rfl (congrArg (fun z => x3 + z) (by decide)) (by decide) rfl ?_
        refine j_goto (tgt := 14) E dX2_becomeRows_43 (by decide) ?_
        refine j_perm (lv' := [(0, .ref (ad x0)), (1, .ref (ad x1)), (2, .ref (ad x2)), (3, .int (x3 + 1))]) [1, 2, 3, 0] rfl ?_
        exact ih k h13 (x3 + 1) hk hf
set_option maxRecDepth 100000 in
set_option maxHeartbeats 4000000 in
theorem c_X2_becomeRows (l : Launch) (D : va_G) (ad : Nat → Nat) (cy : Nat → ClassId) (h : HP) (x0 : Nat) (x1 : Nat) (x2 : Nat) {h' : HP} (hf : f_X2_becomeRows h x0 x1 x2 = some h') : Met l yX2_becomeRows (wsM yX2_becomeRows cX2_becomeRows 4 none) rmX2_becomeRows (va_Pc [.ref (ad x0), .ref (ad x1), .ref (ad x2)] (PW D ad cy h)) (QV D ad cy none h') 0 0 (Aw ad) := by
  refine met_of (own := RX2) (lv := [(0, .ref (ad x0)), (1, .ref (ad x1)), (2, .ref (ad x2))]) (by decide) rfl (Nat.le_of_ble_eq_true rfl) rfl (fun p e s m args below meth c E hr hlk => ?_)
  unfold f_X2_becomeRows at hf
  refine j_aload_n E 0 rfl dX2_becomeRows_0 rfl ?_
  refine j_aload_n E 2 rfl dX2_becomeRows_1 rfl ?_
  obtain ⟨v1, ev1, hf⟩ := bs hf
  refine j_getI (ci := 2) (k0 := 0) (T := TX3) (N := 2) E (mI inUX3) rfl (by decide) (mU uw_1_100) ev1 dX2_becomeRows_2 ?_
  refine j_aload_n E 1 rfl dX2_becomeRows_5 rfl ?_
  obtain ⟨v2, ev2, hf⟩ := bs hf
  refine j_getI (ci := 1) (k0 := 1) (T := TX2) (N := 4) E (mI inUX2) rfl (by decide) (mU uw_1_77) ev2 dX2_becomeRows_6 ?_
  obtain ⟨k3, hf⟩ := ck_spec hf
  obtain ⟨h4, e5, hf⟩ := bs hf
  refine j_callV (ci := 1) (b := x0) (As := [.int v1, .int v2]) (rest := []) (v := none) E (c_X2_begin l D ad cy h x0 v1 v2 e5) (mcw E.1.2.2.2.2 uw_1_139 uw_2_78 uw_1_137 uw_1_138 uw_1_4 rfl rfl hd_X2_begin ⟨by decide, by decide⟩) rfl k3 rfl rfl (Nat.le_of_ble_eq_true rfl) dX2_becomeRows_9 ⟨Nat.zero_le _, Nat.zero_le _⟩ ?_
  refine j_stk (st' := []) rfl ?_
  refine j_iconst (v := 0) E dX2_becomeRows_12 (by decide) ?_
  refine j_istore_n (lv' := [(3, .int 0), (0, .ref (ad x0)), (1, .ref (ad x1)), (2, .ref (ad x2))]) E dX2_becomeRows_13 rfl (by decide) rfl ?_
  refine j_perm (lv' := [(0, .ref (ad x0)), (1, .ref (ad x1)), (2, .ref (ad x2)), (3, .int 0)]) [1, 2, 3, 0] rfl ?_
  refine w_X2_becomeRows_14 E hr hlk x0 x1 x2 FU _ h4 0 (fun h15 hf => ?_) hf
  cases hf
  exact j_vret E hr hlk dX2_becomeRows_46
noncomputable def L_X2_productOfRows_6 (h : HP) (x0 : Nat) (x1 : Int32) (x2 : Nat) (x3 : Int32) : Nat → (Int64 → Option (Int64)) → Int64 → Int32 → Option (Int64)
  | 0, _, _, _ => none
  | n + 1, k, x4, x6 =>
      if 16 ≤ x6 then (
        k x4
      ) else (
        ck 1 h x0 <|
        (f_X2_value h x0 x1 x6).bind fun v3 =>
        ck 1 h x2 <|
        (f_X2_value h x2 x3 x6).bind fun v6 =>
        L_X2_productOfRows_6 h x0 x1 x2 x3 n k (x4 + (v3 * v6)) (x6 + 1)
      )
noncomputable def f_X2_productOfRows (h : HP) (x0 : Nat) (x1 : Int32) (x2 : Nat) (x3 : Int32) : Option (Int64) :=
  L_X2_productOfRows_6 h x0 x1 x2 x3 FU (fun x8 =>
    some x8) 0 0
abbrev rmX2_productOfRows : Room := { frames := 2, cells := 0, slots := 0, locals := 42 }
theorem hd_X2_productOfRows : yX2_productOfRows.cls = RX2 ∧ yX2_productOfRows.cls ≠ "java/lang/invoke/MethodHandle" ∧ yX2_productOfRows.cls ≠ "java/lang/invoke/VarHandle" ∧ (parseMethodDescriptor yX2_productOfRows.desc).map (fun d => d.parameters.length) = some 3 := by decide +kernel
set_option maxRecDepth 100000 in
set_option maxHeartbeats 4000000 in
theorem w_X2_productOfRows_6 {p : Program} {l : Launch} {e : Env} {s : State} {m : MethodId} {args : Array Value} {below : List Frame} {meth : Method} {c : Code} {D : va_G} {ad : Nat → Nat} {cy : Nat → ClassId} (E : EE p s m args c cX2_productOfRows 7 (wsM yX2_productOfRows cX2_productOfRows 7 (some .long)) RX2 D cy) (hr : meth.sig.returnType = (some .long)) (hlk : meth.locks = false) {r : Int64} (h : HP) (x0 : Nat) (x1 : Int32) (x2 : Nat) (x3 : Int32) : ∀ (n : Nat) (k : (Int64 → Option (Int64))) (x4 : Int64) (x6 : Int32), (∀ (x4 : Int64), k x4 = some r → JJ p l e rmX2_productOfRows s m args below meth c 0 0 (MQ below (QV D ad cy (some (.long r)) h) args s 0 0 (Aw ad)) D ad cy (Aw ad) 7 h [(4, .long x4)] 39 []) → L_X2_productOfRows_6 h x0 x1 x2 x3 n k x4 x6 = some r → JJ p l e rmX2_productOfRows s m args below meth c 0 0 (MQ below (QV D ad cy (some (.long r)) h) args s 0 0 (Aw ad)) D ad cy (Aw ad) 7 h [(0, .ref (ad x0)), (1, .int x1), (2, .ref (ad x2)), (3, .int x3), (4, .long x4), (6, .int x6)] 6 [] := by
  intro n
  induction n with
  | zero => intro k x4 x6 hk hf; cases hf
  | succ n ih =>
    intro k x4 x6 hk hf
    unfold L_X2_productOfRows_6 at hf
    refine j_iload E 5 rfl dX2_productOfRows_6 ?_
    refine j_bipush (v := 16) E dX2_productOfRows_8 (by decide) ?_
    refine j_icmp_ge (tgt := 39) E dX2_productOfRows_10 (by decide) (fun z1 => ?_) (fun z1 => ?_)
    · have hf := ifp hf z1
      refine j_perm (lv' := [(4, .long x4)]) [4] rfl ?_
      exact hk x4 hf
    · have hf := ifn hf z1
      refine j_lload E 4 rfl dX2_productOfRows_13 ?_
      refine j_aload_n E 0 rfl dX2_productOfRows_15 rfl ?_
      refine j_iload_n E 1 rfl dX2_productOfRows_16 rfl ?_
      refine j_iload E 5 rfl dX2_productOfRows_17 ?_
      obtain ⟨k2, hf⟩ := ck_spec hf
      obtain ⟨v3, e4, hf⟩ := bs hf
      refine j_callV (ci := 1) (b := x0) (As := [.int x1, .int x6]) (rest := [.long x4]) (v := (some (.long v3))) E (c_X2_value l D ad cy h x0 x1 x6 e4) (mcw E.1.2.2.2.2 uw_1_224 uw_1_221 uw_1_222 uw_1_223 uw_1_4 rfl rfl hd_X2_value ⟨by decide, by decide⟩) rfl k2 rfl rfl (Nat.le_of_ble_eq_true rfl) dX2_productOfRows_19 ⟨Nat.zero_le _, Nat.zero_le _⟩ ?_
      refine j_stk (st' := [.long v3, .long x4]) rfl ?_
      refine j_aload_n E 2 rfl dX2_productOfRows_22 rfl ?_
      refine j_iload_n E 3 rfl dX2_productOfRows_23 rfl ?_
      refine j_iload E 5 rfl dX2_productOfRows_24 ?_
      obtain ⟨k5, hf⟩ := ck_spec hf
      obtain ⟨v6, e7, hf⟩ := bs hf
      refine j_callV (ci := 1) (b := x2) (As := [.int x3, .int x6]) (rest := [.long v3, .long x4]) (v := (some (.long v6))) E (c_X2_value l D ad cy h x2 x3 x6 e7) (mcw E.1.2.2.2.2 uw_1_224 uw_1_221 uw_1_222 uw_1_223 uw_1_4 rfl rfl hd_X2_value ⟨by decide, by decide⟩) rfl k5 rfl rfl (Nat.le_of_ble_eq_true rfl) dX2_productOfRows_26 ⟨Nat.zero_le _, Nat.zero_le _⟩ ?_
      refine j_stk (st' := [.long v6, .long v3, .long x4]) rfl ?_
      refine j_lmul E dX2_productOfRows_29 ?_
      refine j_ladd E dX2_productOfRows_30 ?_
      refine j_lstore (lv' := [(4, .long (x4 + (v3 * v6))), (0, .ref (ad x0)), (1, .int x1), (2, .ref (ad x2)), (3, .int x3), (6, .int x6)]) E dX2_productOfRows_31 (by decide) rfl ?_
      refine j_iinc (v := (x6 + 1)) (k0 := 5) (lv' := [(6, .int (x6 + 1)), (4, .long (x4 + (v3 * v6))), (0, .ref (ad x0)), (1, .int x1), (2, .ref (ad x2)), (3, .int x3)]) E dX2_productOfRows_33 rfl (congrArg (fun z => x6 + z) (by decide)) (by decide) rfl ?_
      refine j_goto (tgt := 6) E dX2_productOfRows_36 (by decide) ?_
      refine j_perm (lv' := [(0, .ref (ad x0)), (1, .int x1), (2, .ref (ad x2)), (3, .int x3), (4, .long (x4 + (v3 * v6))), (6, .int (x6 + 1))]) [2, 3, 4, 5, 1, 0] rfl ?_
      exact ih k (x4 + (v3 * v6)) (x6 + 1) hk hf
set_option maxRecDepth 100000 in
set_option maxHeartbeats 4000000 in
theorem c_X2_productOfRows (l : Launch) (D : va_G) (ad : Nat → Nat) (cy : Nat → ClassId) (h : HP) (x0 : Nat) (x1 : Int32) (x2 : Nat) (x3 : Int32) {r : Int64} (hf : f_X2_productOfRows h x0 x1 x2 x3 = some r) : Met l yX2_productOfRows (wsM yX2_productOfRows cX2_productOfRows 7 (some .long)) rmX2_productOfRows (va_Pc [.ref (ad x0), .int x1, .ref (ad x2), .int x3] (PW D ad cy h)) (QV D ad cy (some (.long r)) h) 0 0 (Aw ad) := by
  refine met_of (own := RX2) (lv := [(0, .ref (ad x0)), (1, .int x1), (2, .ref (ad x2)), (3, .int x3)]) (by decide) rfl (Nat.le_of_ble_eq_true rfl) rfl (fun p e s m args below meth c E hr hlk => ?_)
  unfold f_X2_productOfRows at hf
  refine j_lconst (v := 0) E dX2_productOfRows_0 (by decide) ?_
  refine j_lstore (lv' := [(4, .long 0), (0, .ref (ad x0)), (1, .int x1), (2, .ref (ad x2)), (3, .int x3)]) E dX2_productOfRows_1 (by decide) rfl ?_
  refine j_iconst (v := 0) E dX2_productOfRows_3 (by decide) ?_
  refine j_istore (lv' := [(6, .int 0), (4, .long 0), (0, .ref (ad x0)), (1, .int x1), (2, .ref (ad x2)), (3, .int x3)]) E dX2_productOfRows_4 (by decide) rfl ?_
  refine j_perm (lv' := [(0, .ref (ad x0)), (1, .int x1), (2, .ref (ad x2)), (3, .int x3), (4, .long 0), (6, .int 0)]) [2, 3, 4, 5, 1, 0] rfl ?_
  refine w_X2_productOfRows_6 E hr hlk h x0 x1 x2 x3 FU _ 0 0 (fun x8 hf => ?_) hf
  refine j_lload E 0 rfl dX2_productOfRows_39 ?_
  cases hf
  exact j_lret E hr hlk dX2_productOfRows_41
noncomputable def L_X2_becomeSlopesOfLeft_25 (x0 : Nat) (x1 : Nat) (x2 : Nat) (x3 : Nat) (x4 : Int32) : Nat → (HP → Option (HP)) → HP → Int32 → Option (HP)
  | 0, _, _, _ => none
  | n + 1, k, h, x5 =>
      if 16 ≤ x5 then (
        k h
      ) else (
        ck 1 h x1 <|
        (f_X2_keeps h x1 x4 x5).bind fun v9 =>
        if v9 = 0 then (
          L_X2_becomeSlopesOfLeft_25 x0 x1 x2 x3 x4 n k h (x5 + 1)
        ) else (
          ck 1 h x3 <|
          (f_X2_productOfRows h x3 x4 x2 x5).bind fun v13 =>
          ck 1 h x0 <|
          (f_X2_put h x0 x4 x5 v13).bind fun h16 =>
          L_X2_becomeSlopesOfLeft_25 x0 x1 x2 x3 x4 n k h16 (x5 + 1)
        )
      )
noncomputable def L_X2_becomeSlopesOfLeft_15 (x0 : Nat) (x1 : Nat) (x2 : Nat) (x3 : Nat) : Nat → (HP → Option (HP)) → HP → Int32 → Option (HP)
  | 0, _, _, _ => none
  | n + 1, k, h, x4 =>
      if 16 ≤ x4 then (
        k h
      ) else (
        L_X2_becomeSlopesOfLeft_25 x0 x1 x2 x3 x4 FU (fun h18 =>
          L_X2_becomeSlopesOfLeft_15 x0 x1 x2 x3 n k h18 (x4 + 1)) h 0
      )
noncomputable def f_X2_becomeSlopesOfLeft (h : HP) (x0 : Nat) (x1 : Nat) (x2 : Nat) (x3 : Nat) : Option (HP) :=
  (gI 1 h x1 0).bind fun v1 =>
  (gI 1 h x1 1).bind fun v2 =>
  ck 1 h x0 <|
  (f_X2_begin h x0 v1 v2).bind fun h4 =>
  L_X2_becomeSlopesOfLeft_15 x0 x1 x2 x3 FU (fun h19 =>
    some h19) h4 0
abbrev rmX2_becomeSlopesOfLeft : Room := { frames := 3, cells := 0, slots := 0, locals := 68 }
theorem hd_X2_becomeSlopesOfLeft : yX2_becomeSlopesOfLeft.cls = RX2 ∧ yX2_becomeSlopesOfLeft.cls ≠ "java/lang/invoke/MethodHandle" ∧ yX2_becomeSlopesOfLeft.cls ≠ "java/lang/invoke/VarHandle" ∧ (parseMethodDescriptor yX2_becomeSlopesOfLeft.desc).map (fun d => d.parameters.length) = some 3 := by decide +kernel
set_option maxRecDepth 100000 in
set_option maxHeartbeats 4000000 in
theorem w_X2_becomeSlopesOfLeft_25 {p : Program} {l : Launch} {e : Env} {s : State} {m : MethodId} {args : Array Value} {below : List Frame} {meth : Method} {c : Code} {D : va_G} {ad : Nat → Nat} {cy : Nat → ClassId} (E : EE p s m args c cX2_becomeSlopesOfLeft 6 (wsM yX2_becomeSlopesOfLeft cX2_becomeSlopesOfLeft 6 none) RX2 D cy) (hr : meth.sig.returnType = none) (hlk : meth.locks = false) {h' : HP} (x0 : Nat) (x1 : Nat) (x2 : Nat) (x3 : Nat) (x4 : Int32) : ∀ (n : Nat) (k : (HP → Option (HP))) (h : HP) (x5 : Int32), (∀ (h : HP), k h = some h' → JJ p l e rmX2_becomeSlopesOfLeft s m args below meth c 0 0 (MQ below (QV D ad cy none h') args s 0 0 (Aw ad)) D ad cy (Aw ad) 6 h [(0, .ref (ad x0)), (1, .ref (ad x1)), (2, .ref (ad x2)), (3, .ref (ad x3)), (4, .int x4)] 66 []) → L_X2_becomeSlopesOfLeft_25 x0 x1 x2 x3 x4 n k h x5 = some h' → JJ p l e rmX2_becomeSlopesOfLeft s m args below meth c 0 0 (MQ below (QV D ad cy none h') args s 0 0 (Aw ad)) D ad cy (Aw ad) 6 h [(0, .ref (ad x0)), (1, .ref (ad x1)), (2, .ref (ad x2)), (3, .ref (ad x3)), (4, .int x4), (5, .int x5)] 25 [] := by
  intro n
  induction n with
  | zero => intro k h x5 hk hf; cases hf
  | succ n ih =>
    intro k h x5 hk hf
    unfold L_X2_becomeSlopesOfLeft_25 at hf
    refine j_iload E 5 rfl dX2_becomeSlopesOfLeft_25 ?_
    refine j_bipush (v := 16) E dX2_becomeSlopesOfLeft_27 (by decide) ?_
    refine j_icmp_ge (tgt := 66) E dX2_becomeSlopesOfLeft_29 (by decide) (fun z7 => ?_) (fun z7 => ?_)
    · have hf := ifp hf z7
      refine j_perm (lv' := [(0, .ref (ad x0)), (1, .ref (ad x1)), (2, .ref (ad x2)), (3, .ref (ad x3)), (4, .int x4)]) [0, 1, 2, 3, 4] rfl ?_
      exact hk h hf
    · have hf := ifn hf z7
      refine j_aload_n E 1 rfl dX2_becomeSlopesOfLeft_32 rfl ?_
      refine j_iload E 4 rfl dX2_becomeSlopesOfLeft_33 ?_
      refine j_iload E 5 rfl dX2_becomeSlopesOfLeft_35 ?_
      obtain ⟨k8, hf⟩ := ck_spec hf
      obtain ⟨v9, e10, hf⟩ := bs hf
      refine j_callV (ci := 1) (b := x1) (As := [.int x4, .int x5]) (rest := []) (v := (some (.int v9))) E (c_X2_keeps l D ad cy h x1 x4 x5 e10) (mcw E.1.2.2.2.2 uw_2_5 uw_2_2 uw_2_3 uw_2_4 uw_1_4 rfl rfl hd_X2_keeps ⟨by decide, by decide⟩) rfl k8 rfl rfl (Nat.le_of_ble_eq_true rfl) dX2_becomeSlopesOfLeft_37 ⟨Nat.zero_le _, Nat.zero_le _⟩ ?_
      refine j_stk (st' := [.int v9]) rfl ?_
      refine j_if_eq (tgt := 60) E dX2_becomeSlopesOfLeft_40 (by decide) (fun z11 => ?_) (fun z11 => ?_)
      · have hf := ifp hf z11
        refine j_iinc (v := (x5 + 1)) (k0 := 5) (lv' := [(5, .int (x5 + 1)), (0, .ref (ad x0)), (1, .ref (ad x1)), (2, .ref (ad x2)), (3, .ref (ad x3)), (4, .int x4)]) E dX2_becomeSlopesOfLeft_60 rfl (congrArg (fun z => x5 + z) (by decide)) (by decide) rfl ?_
        refine j_goto (tgt := 25) E dX2_becomeSlopesOfLeft_63 (by decide) ?_
        refine j_perm (lv' := [(0, .ref (ad x0)), (1, .ref (ad x1)), (2, .ref (ad x2)), (3, .ref (ad x3)), (4, .int x4), (5, .int (x5 + 1))]) [1, 2, 3, 4, 5, 0] rfl ?_
        exact ih k h (x5 + 1) hk hf
      · have hf := ifn hf z11
        refine j_aload_n E 0 rfl dX2_becomeSlopesOfLeft_43 rfl ?_
        refine j_iload E 4 rfl dX2_becomeSlopesOfLeft_44 ?_
        refine j_iload E 5 rfl dX2_becomeSlopesOfLeft_46 ?_
        refine j_aload_n E 3 rfl dX2_becomeSlopesOfLeft_48 rfl ?_
        refine j_iload E 4 rfl dX2_becomeSlopesOfLeft_49 ?_
        refine j_aload_n E 2 rfl dX2_becomeSlopesOfLeft_51 rfl ?_
        refine j_iload E 5 rfl dX2_becomeSlopesOfLeft_52 ?_
        obtain ⟨k12, hf⟩ := ck_spec hf
        obtain ⟨v13, e14, hf⟩ := bs hf
        refine j_callV (ci := 1) (b := x3) (As := [.int x4, .ref (ad x2), .int x5]) (rest := [.int x5, .int x4, .ref (ad x0)]) (v := (some (.long v13))) E (c_X2_productOfRows l D ad cy h x3 x4 x2 x5 e14) (mcw E.1.2.2.2.2 uw_2_135 uw_2_132 uw_2_134 us_1_4 uw_1_4 rfl rfl hd_X2_productOfRows ⟨by decide, by decide⟩) rfl k12 rfl rfl (Nat.le_of_ble_eq_true rfl) dX2_becomeSlopesOfLeft_54 ⟨Nat.zero_le _, Nat.zero_le _⟩ ?_
        refine j_stk (st' := [.long v13, .int x5, .int x4, .ref (ad x0)]) rfl ?_
        obtain ⟨k15, hf⟩ := ck_spec hf
        obtain ⟨h16, e17, hf⟩ := bs hf
        refine j_callV (ci := 1) (b := x0) (As := [.int x4, .int x5, .long v13]) (rest := []) (v := none) E (c_X2_put l D ad cy h x0 x4 x5 v13 e17) (mcw E.1.2.2.2.2 uw_1_229 uw_1_226 uw_1_227 uw_1_228 uw_1_4 rfl rfl hd_X2_put ⟨by decide, by decide⟩) rfl k15 rfl rfl (Nat.le_of_ble_eq_true rfl) dX2_becomeSlopesOfLeft_57 ⟨Nat.zero_le _, Nat.zero_le _⟩ ?_
        refine j_stk (st' := []) rfl ?_
        refine j_iinc (v := (x5 + 1)) (k0 := 5) (lv' := [(5, .int (x5 + 1)), (0, .ref (ad x0)), (1, .ref (ad x1)), (2, .ref (ad x2)), (3, .ref (ad x3)), (4, .int x4)]) E dX2_becomeSlopesOfLeft_60 rfl (congrArg (fun z => x5 + z) (by decide)) (by decide) rfl ?_
        refine j_goto (tgt := 25) E dX2_becomeSlopesOfLeft_63 (by decide) ?_
        refine j_perm (lv' := [(0, .ref (ad x0)), (1, .ref (ad x1)), (2, .ref (ad x2)), (3, .ref (ad x3)), (4, .int x4), (5, .int (x5 + 1))]) [1, 2, 3, 4, 5, 0] rfl ?_
        exact ih k h16 (x5 + 1) hk hf
set_option maxRecDepth 100000 in
set_option maxHeartbeats 4000000 in
theorem w_X2_becomeSlopesOfLeft_15 {p : Program} {l : Launch} {e : Env} {s : State} {m : MethodId} {args : Array Value} {below : List Frame} {meth : Method} {c : Code} {D : va_G} {ad : Nat → Nat} {cy : Nat → ClassId} (E : EE p s m args c cX2_becomeSlopesOfLeft 6 (wsM yX2_becomeSlopesOfLeft cX2_becomeSlopesOfLeft 6 none) RX2 D cy) (hr : meth.sig.returnType = none) (hlk : meth.locks = false) {h' : HP} (x0 : Nat) (x1 : Nat) (x2 : Nat) (x3 : Nat) : ∀ (n : Nat) (k : (HP → Option (HP))) (h : HP) (x4 : Int32), (∀ (h : HP), k h = some h' → JJ p l e rmX2_becomeSlopesOfLeft s m args below meth c 0 0 (MQ below (QV D ad cy none h') args s 0 0 (Aw ad)) D ad cy (Aw ad) 6 h [] 72 []) → L_X2_becomeSlopesOfLeft_15 x0 x1 x2 x3 n k h x4 = some h' → JJ p l e rmX2_becomeSlopesOfLeft s m args below meth c 0 0 (MQ below (QV D ad cy none h') args s 0 0 (Aw ad)) D ad cy (Aw ad) 6 h [(0, .ref (ad x0)), (1, .ref (ad x1)), (2, .ref (ad x2)), (3, .ref (ad x3)), (4, .int x4)] 15 [] := by
  intro n
  induction n with
  | zero => intro k h x4 hk hf; cases hf
  | succ n ih =>
    intro k h x4 hk hf
    unfold L_X2_becomeSlopesOfLeft_15 at hf
    refine j_iload E 4 rfl dX2_becomeSlopesOfLeft_15 ?_
    refine j_bipush (v := 16) E dX2_becomeSlopesOfLeft_17 (by decide) ?_
    refine j_icmp_ge (tgt := 72) E dX2_becomeSlopesOfLeft_19 (by decide) (fun z6 => ?_) (fun z6 => ?_)
    · have hf := ifp hf z6
      refine j_perm (lv' := []) [] rfl ?_
      exact hk h hf
    · have hf := ifn hf z6
      refine j_iconst (v := 0) E dX2_becomeSlopesOfLeft_22 (by decide) ?_
      refine j_istore (lv' := [(5, .int 0), (0, .ref (ad x0)), (1, .ref (ad x1)), (2, .ref (ad x2)), (3, .ref (ad x3)), (4, .int x4)]) E dX2_becomeSlopesOfLeft_23 (by decide) rfl ?_
      refine j_perm (lv' := [(0, .ref (ad x0)), (1, .ref (ad x1)), (2, .ref (ad x2)), (3, .ref (ad x3)), (4, .int x4), (5, .int 0)]) [1, 2, 3, 4, 5, 0] rfl ?_
      refine w_X2_becomeSlopesOfLeft_25 E hr hlk x0 x1 x2 x3 x4 FU _ h 0 (fun h18 hf => ?_) hf
      refine j_iinc (v := (x4 + 1)) (k0 := 4) (lv' := [(4, .int (x4 + 1)), (0, .ref (ad x0)), (1, .ref (ad x1)), (2, .ref (ad x2)), (3, .ref (ad x3))]) E dX2_becomeSlopesOfLeft_66 rfl (congrArg (fun z => x4 + z) (by decide)) (by decide) rfl ?_
      refine j_goto (tgt := 15) E dX2_becomeSlopesOfLeft_69 (by decide) ?_
      refine j_perm (lv' := [(0, .ref (ad x0)), (1, .ref (ad x1)), (2, .ref (ad x2)), (3, .ref (ad x3)), (4, .int (x4 + 1))]) [1, 2, 3, 4, 0] rfl ?_
      exact ih k h18 (x4 + 1) hk hf
set_option maxRecDepth 100000 in
set_option maxHeartbeats 4000000 in
theorem c_X2_becomeSlopesOfLeft (l : Launch) (D : va_G) (ad : Nat → Nat) (cy : Nat → ClassId) (h : HP) (x0 : Nat) (x1 : Nat) (x2 : Nat) (x3 : Nat) {h' : HP} (hf : f_X2_becomeSlopesOfLeft h x0 x1 x2 x3 = some h') : Met l yX2_becomeSlopesOfLeft (wsM yX2_becomeSlopesOfLeft cX2_becomeSlopesOfLeft 6 none) rmX2_becomeSlopesOfLeft (va_Pc [.ref (ad x0), .ref (ad x1), .ref (ad x2), .ref (ad x3)] (PW D ad cy h)) (QV D ad cy none h') 0 0 (Aw ad) := by
  refine met_of (own := RX2) (lv := [(0, .ref (ad x0)), (1, .ref (ad x1)), (2, .ref (ad x2)), (3, .ref (ad x3))]) (by decide) rfl (Nat.le_of_ble_eq_true rfl) rfl (fun p e s m args below meth c E hr hlk => ?_)
  unfold f_X2_becomeSlopesOfLeft at hf
  refine j_aload_n E 0 rfl dX2_becomeSlopesOfLeft_0 rfl ?_
  refine j_aload_n E 1 rfl dX2_becomeSlopesOfLeft_1 rfl ?_
  obtain ⟨v1, ev1, hf⟩ := bs hf
  refine j_getI (ci := 1) (k0 := 0) (T := TX2) (N := 4) E (mI inUX2) rfl (by decide) (mU uw_1_73) ev1 dX2_becomeSlopesOfLeft_2 ?_
  refine j_aload_n E 1 rfl dX2_becomeSlopesOfLeft_5 rfl ?_
  obtain ⟨v2, ev2, hf⟩ := bs hf
  refine j_getI (ci := 1) (k0 := 1) (T := TX2) (N := 4) E (mI inUX2) rfl (by decide) (mU uw_1_77) ev2 dX2_becomeSlopesOfLeft_6 ?_
  obtain ⟨k3, hf⟩ := ck_spec hf
  obtain ⟨h4, e5, hf⟩ := bs hf
  refine j_callV (ci := 1) (b := x0) (As := [.int v1, .int v2]) (rest := []) (v := none) E (c_X2_begin l D ad cy h x0 v1 v2 e5) (mcw E.1.2.2.2.2 uw_1_139 uw_2_78 uw_1_137 uw_1_138 uw_1_4 rfl rfl hd_X2_begin ⟨by decide, by decide⟩) rfl k3 rfl rfl (Nat.le_of_ble_eq_true rfl) dX2_becomeSlopesOfLeft_9 ⟨Nat.zero_le _, Nat.zero_le _⟩ ?_
  refine j_stk (st' := []) rfl ?_
  refine j_iconst (v := 0) E dX2_becomeSlopesOfLeft_12 (by decide) ?_
  refine j_istore (lv' := [(4, .int 0), (0, .ref (ad x0)), (1, .ref (ad x1)), (2, .ref (ad x2)), (3, .ref (ad x3))]) E dX2_becomeSlopesOfLeft_13 (by decide) rfl ?_
  refine j_perm (lv' := [(0, .ref (ad x0)), (1, .ref (ad x1)), (2, .ref (ad x2)), (3, .ref (ad x3)), (4, .int 0)]) [1, 2, 3, 4, 0] rfl ?_
  refine w_X2_becomeSlopesOfLeft_15 E hr hlk x0 x1 x2 x3 FU _ h4 0 (fun h19 hf => ?_) hf
  cases hf
  exact j_vret E hr hlk dX2_becomeSlopesOfLeft_72
noncomputable def L_X2_productOfColumns_6 (h : HP) (x0 : Nat) (x1 : Int32) (x2 : Nat) (x3 : Int32) : Nat → (Int64 → Option (Int64)) → Int64 → Int32 → Option (Int64)
  | 0, _, _, _ => none
  | n + 1, k, x4, x6 =>
      if 16 ≤ x6 then (
        k x4
      ) else (
        ck 1 h x0 <|
        (f_X2_value h x0 x6 x1).bind fun v3 =>
        ck 1 h x2 <|
        (f_X2_value h x2 x6 x3).bind fun v6 =>
        L_X2_productOfColumns_6 h x0 x1 x2 x3 n k (x4 + (v3 * v6)) (x6 + 1)
      )
noncomputable def f_X2_productOfColumns (h : HP) (x0 : Nat) (x1 : Int32) (x2 : Nat) (x3 : Int32) : Option (Int64) :=
  L_X2_productOfColumns_6 h x0 x1 x2 x3 FU (fun x8 =>
    some x8) 0 0
abbrev rmX2_productOfColumns : Room := { frames := 2, cells := 0, slots := 0, locals := 42 }
theorem hd_X2_productOfColumns : yX2_productOfColumns.cls = RX2 ∧ yX2_productOfColumns.cls ≠ "java/lang/invoke/MethodHandle" ∧ yX2_productOfColumns.cls ≠ "java/lang/invoke/VarHandle" ∧ (parseMethodDescriptor yX2_productOfColumns.desc).map (fun d => d.parameters.length) = some 3 := by decide +kernel
set_option maxRecDepth 100000 in
set_option maxHeartbeats 4000000 in
theorem w_X2_productOfColumns_6 {p : Program} {l : Launch} {e : Env} {s : State} {m : MethodId} {args : Array Value} {below : List Frame} {meth : Method} {c : Code} {D : va_G} {ad : Nat → Nat} {cy : Nat → ClassId} (E : EE p s m args c cX2_productOfColumns 7 (wsM yX2_productOfColumns cX2_productOfColumns 7 (some .long)) RX2 D cy) (hr : meth.sig.returnType = (some .long)) (hlk : meth.locks = false) {r : Int64} (h : HP) (x0 : Nat) (x1 : Int32) (x2 : Nat) (x3 : Int32) : ∀ (n : Nat) (k : (Int64 → Option (Int64))) (x4 : Int64) (x6 : Int32), (∀ (x4 : Int64), k x4 = some r → JJ p l e rmX2_productOfColumns s m args below meth c 0 0 (MQ below (QV D ad cy (some (.long r)) h) args s 0 0 (Aw ad)) D ad cy (Aw ad) 7 h [(4, .long x4)] 39 []) → L_X2_productOfColumns_6 h x0 x1 x2 x3 n k x4 x6 = some r → JJ p l e rmX2_productOfColumns s m args below meth c 0 0 (MQ below (QV D ad cy (some (.long r)) h) args s 0 0 (Aw ad)) D ad cy (Aw ad) 7 h [(0, .ref (ad x0)), (1, .int x1), (2, .ref (ad x2)), (3, .int x3), (4, .long x4), (6, .int x6)] 6 [] := by
  intro n
  induction n with
  | zero => intro k x4 x6 hk hf; cases hf
  | succ n ih =>
    intro k x4 x6 hk hf
    unfold L_X2_productOfColumns_6 at hf
    refine j_iload E 5 rfl dX2_productOfColumns_6 ?_
    refine j_bipush (v := 16) E dX2_productOfColumns_8 (by decide) ?_
    refine j_icmp_ge (tgt := 39) E dX2_productOfColumns_10 (by decide) (fun z1 => ?_) (fun z1 => ?_)
    · have hf := ifp hf z1
      refine j_perm (lv' := [(4, .long x4)]) [4] rfl ?_
      exact hk x4 hf
    · have hf := ifn hf z1
      refine j_lload E 4 rfl dX2_productOfColumns_13 ?_
      refine j_aload_n E 0 rfl dX2_productOfColumns_15 rfl ?_
      refine j_iload E 5 rfl dX2_productOfColumns_16 ?_
      refine j_iload_n E 1 rfl dX2_productOfColumns_18 rfl ?_
      obtain ⟨k2, hf⟩ := ck_spec hf
      obtain ⟨v3, e4, hf⟩ := bs hf
      refine j_callV (ci := 1) (b := x0) (As := [.int x6, .int x1]) (rest := [.long x4]) (v := (some (.long v3))) E (c_X2_value l D ad cy h x0 x6 x1 e4) (mcw E.1.2.2.2.2 uw_1_224 uw_1_221 uw_1_222 uw_1_223 uw_1_4 rfl rfl hd_X2_value ⟨by decide, by decide⟩) rfl k2 rfl rfl (Nat.le_of_ble_eq_true rfl) dX2_productOfColumns_19 ⟨Nat.zero_le _, Nat.zero_le _⟩ ?_
      refine j_stk (st' := [.long v3, .long x4]) rfl ?_
      refine j_aload_n E 2 rfl dX2_productOfColumns_22 rfl ?_
      refine j_iload E 5 rfl dX2_productOfColumns_23 ?_
      refine j_iload_n E 3 rfl dX2_productOfColumns_25 rfl ?_
      obtain ⟨k5, hf⟩ := ck_spec hf
      obtain ⟨v6, e7, hf⟩ := bs hf
      refine j_callV (ci := 1) (b := x2) (As := [.int x6, .int x3]) (rest := [.long v3, .long x4]) (v := (some (.long v6))) E (c_X2_value l D ad cy h x2 x6 x3 e7) (mcw E.1.2.2.2.2 uw_1_224 uw_1_221 uw_1_222 uw_1_223 uw_1_4 rfl rfl hd_X2_value ⟨by decide, by decide⟩) rfl k5 rfl rfl (Nat.le_of_ble_eq_true rfl) dX2_productOfColumns_26 ⟨Nat.zero_le _, Nat.zero_le _⟩ ?_
      refine j_stk (st' := [.long v6, .long v3, .long x4]) rfl ?_
      refine j_lmul E dX2_productOfColumns_29 ?_
      refine j_ladd E dX2_productOfColumns_30 ?_
      refine j_lstore (lv' := [(4, .long (x4 + (v3 * v6))), (0, .ref (ad x0)), (1, .int x1), (2, .ref (ad x2)), (3, .int x3), (6, .int x6)]) E dX2_productOfColumns_31 (by decide) rfl ?_
      refine j_iinc (v := (x6 + 1)) (k0 := 5) (lv' := [(6, .int (x6 + 1)), (4, .long (x4 + (v3 * v6))), (0, .ref (ad x0)), (1, .int x1), (2, .ref (ad x2)), (3, .int x3)]) E dX2_productOfColumns_33 rfl (congrArg (fun z => x6 + z) (by decide)) (by decide) rfl ?_
      refine j_goto (tgt := 6) E dX2_productOfColumns_36 (by decide) ?_
      refine j_perm (lv' := [(0, .ref (ad x0)), (1, .int x1), (2, .ref (ad x2)), (3, .int x3), (4, .long (x4 + (v3 * v6))), (6, .int (x6 + 1))]) [2, 3, 4, 5, 1, 0] rfl ?_
      exact ih k (x4 + (v3 * v6)) (x6 + 1) hk hf
set_option maxRecDepth 100000 in
set_option maxHeartbeats 4000000 in
theorem c_X2_productOfColumns (l : Launch) (D : va_G) (ad : Nat → Nat) (cy : Nat → ClassId) (h : HP) (x0 : Nat) (x1 : Int32) (x2 : Nat) (x3 : Int32) {r : Int64} (hf : f_X2_productOfColumns h x0 x1 x2 x3 = some r) : Met l yX2_productOfColumns (wsM yX2_productOfColumns cX2_productOfColumns 7 (some .long)) rmX2_productOfColumns (va_Pc [.ref (ad x0), .int x1, .ref (ad x2), .int x3] (PW D ad cy h)) (QV D ad cy (some (.long r)) h) 0 0 (Aw ad) := by
  refine met_of (own := RX2) (lv := [(0, .ref (ad x0)), (1, .int x1), (2, .ref (ad x2)), (3, .int x3)]) (by decide) rfl (Nat.le_of_ble_eq_true rfl) rfl (fun p e s m args below meth c E hr hlk => ?_)
  unfold f_X2_productOfColumns at hf
  refine j_lconst (v := 0) E dX2_productOfColumns_0 (by decide) ?_
  refine j_lstore (lv' := [(4, .long 0), (0, .ref (ad x0)), (1, .int x1), (2, .ref (ad x2)), (3, .int x3)]) E dX2_productOfColumns_1 (by decide) rfl ?_
  refine j_iconst (v := 0) E dX2_productOfColumns_3 (by decide) ?_
  refine j_istore (lv' := [(6, .int 0), (4, .long 0), (0, .ref (ad x0)), (1, .int x1), (2, .ref (ad x2)), (3, .int x3)]) E dX2_productOfColumns_4 (by decide) rfl ?_
  refine j_perm (lv' := [(0, .ref (ad x0)), (1, .int x1), (2, .ref (ad x2)), (3, .int x3), (4, .long 0), (6, .int 0)]) [2, 3, 4, 5, 1, 0] rfl ?_
  refine w_X2_productOfColumns_6 E hr hlk h x0 x1 x2 x3 FU _ 0 0 (fun x8 hf => ?_) hf
  refine j_lload E 0 rfl dX2_productOfColumns_39 ?_
  cases hf
  exact j_lret E hr hlk dX2_productOfColumns_41
