noncomputable def L_X1_walkSum_19 (x0 : Nat) (x2 : Int32) : Nat → (HP → Option (HP × Int64)) → HP → Int32 → Option (HP × Int64)
  | 0, _, _, _ => none
  | n + 1, k, h, x5 =>
      if 16 ≤ x5 then (
        k h
      ) else (
        (gR 0 h x0 4).bind fun v8 =>
        if x5 = x2 then (
          (sJ h v8 x5 1).bind fun h10 =>
          L_X1_walkSum_19 x0 x2 n k h10 (x5 + 1)
        ) else (
          (sJ h v8 x5 0).bind fun h11 =>
          L_X1_walkSum_19 x0 x2 n k h11 (x5 + 1)
        )
      )
noncomputable def L_X1_walkSum_53 (x0 : Nat) (x1 : Nat) (x4 : Int32) : Nat → (HP → Option (HP × Int64)) → HP → Int32 → Option (HP × Int64)
  | 0, _, _, _ => none
  | n + 1, k, h, x5 =>
      if 60 ≤ x5 then (
        k h
      ) else (
        if x4 ≤ x5 then (
          k h
        ) else (
          ck 0 h x0 <|
          (f_X1_walkOn h x0 x1).bind fun h16 =>
          L_X1_walkSum_53 x0 x1 x4 n k h16 (x5 + 1)
        )
      )
noncomputable def f_X1_walkSum (h : HP) (x0 : Nat) (x1 : Nat) (x2 : Int32) (x3 : Int32) (x4 : Int32) : Option (HP × Int64) :=
  (f_X5_isLine x2).bind fun v1 =>
  if v1 = 0 then (
    some (h, 0)
  ) else (
    (f_X5_isLine x3).bind fun v4 =>
    if v4 = 0 then (
      some (h, 0)
    ) else (
      L_X1_walkSum_19 x0 x2 FU (fun h12 =>
        L_X1_walkSum_53 x0 x1 x4 FU (fun h18 =>
          (gR 0 h18 x0 4).bind fun v19 =>
          (aJ h18 v19 x3).bind fun v20 =>
          some (h18, v20)) h12 0) h 0
    )
  )
abbrev rmX1_walkSum : Room := { frames := 3, cells := 0, slots := 0, locals := 65 }
theorem hd_X1_walkSum : yX1_walkSum.cls = RX1 ∧ yX1_walkSum.cls ≠ "java/lang/invoke/MethodHandle" ∧ yX1_walkSum.cls ≠ "java/lang/invoke/VarHandle" ∧ (parseMethodDescriptor yX1_walkSum.desc).map (fun d => d.parameters.length) = some 4 := by decide +kernel
set_option maxRecDepth 100000 in
set_option maxHeartbeats 4000000 in
theorem w_X1_walkSum_19 {p : Program} {l : Launch} {e : Env} {s : State} {m : MethodId} {args : Array Value} {below : List Frame} {meth : Method} {c : Code} {D : va_G} {ad : Nat → Nat} {cy : Nat → ClassId} (E : EE p s m args c cX1_walkSum 6 (wsM yX1_walkSum cX1_walkSum 6 (some .long)) RX1 D cy) (hr : meth.sig.returnType = (some .long)) (hlk : meth.locks = false) {h' : HP} {r : Int64} (x0 : Nat) (x2 : Int32) (x1 : Nat) (x3 : Int32) (x4 : Int32) : ∀ (n : Nat) (k : (HP → Option (HP × Int64))) (h : HP) (x5 : Int32), (∀ (h : HP), k h = some (h', r) → JJ p l e rmX1_walkSum s m args below meth c 0 0 (MQ below (QV D ad cy (some (.long r)) h') args s 0 0 (Aw ad)) D ad cy (Aw ad) 6 h [(0, .ref (ad x0)), (1, .ref (ad x1)), (3, .int x3), (4, .int x4)] 50 []) → L_X1_walkSum_19 x0 x2 n k h x5 = some (h', r) → JJ p l e rmX1_walkSum s m args below meth c 0 0 (MQ below (QV D ad cy (some (.long r)) h') args s 0 0 (Aw ad)) D ad cy (Aw ad) 6 h [(0, .ref (ad x0)), (1, .ref (ad x1)), (2, .int x2), (3, .int x3), (4, .int x4), (5, .int x5)] 19 [] := by
  intro n
  induction n with
  | zero => intro k h x5 hk hf; cases hf
  | succ n ih =>
    intro k h x5 hk hf
    unfold L_X1_walkSum_19 at hf
    refine j_iload E 5 rfl dX1_walkSum_19 ?_
    refine j_bipush (v := 16) E dX1_walkSum_21 (by decide) ?_
    refine j_icmp_ge (tgt := 50) E dX1_walkSum_23 (by decide) (fun z7 => ?_) (fun z7 => ?_)
    · have hf := ifp hf z7
      refine j_perm (lv' := [(0, .ref (ad x0)), (1, .ref (ad x1)), (3, .int x3), (4, .int x4)]) [0, 1, 3, 4] rfl ?_
      exact hk h hf
    · have hf := ifn hf z7
      refine j_aload_n E 0 rfl dX1_walkSum_26 rfl ?_
      obtain ⟨v8, ev8, hf⟩ := bs hf
      refine j_getR (ci := 0) (k0 := 4) (T := TX1) (N := 6) E (mI inUX1) rfl (by decide) (mU uw_1_53) ev8 dX1_walkSum_27 ?_
      refine j_iload E 5 rfl dX1_walkSum_30 ?_
      refine j_iload E 5 rfl dX1_walkSum_32 ?_
      refine j_iload_n E 2 rfl dX1_walkSum_34 rfl ?_
      refine j_icmp_ne (tgt := 42) E dX1_walkSum_35 (by decide) (fun z9 => ?_) (fun z9 => ?_)
      · have hf := ifn hf z9
        refine j_lconst (v := 0) E dX1_walkSum_42 (by decide) ?_
        obtain ⟨h11, eh11, hf⟩ := bs hf
        refine j_sJ E eh11 dX1_walkSum_43 ?_
        refine j_iinc (v := (x5 + 1)) (k0 := 5) (lv' := [(5, .int (x5 + 1)), (0, .ref (ad x0)), (1, .ref (ad x1)), (2, .int x2), (3, .int x3), (4, .int x4)]) E dX1_walkSum_44 rfl (congrArg (fun z => x5 + z) (by decide)) (by decide) rfl ?_
        refine j_goto (tgt := 19) E dX1_walkSum_47 (by decide) ?_
        refine j_perm (lv' := [(0, .ref (ad x0)), (1, .ref (ad x1)), (2, .int x2), (3, .int x3), (4, .int x4), (5, .int (x5 + 1))]) [1, 2, 3, 4, 5, 0] rfl ?_
        exact ih k h11 (x5 + 1) hk hf
      · have hf := ifp hf z9
        refine j_lconst (v := 1) E dX1_walkSum_38 (by decide) ?_
        refine j_goto (tgt := 43) E dX1_walkSum_39 (by decide) ?_
        obtain ⟨h10, eh10, hf⟩ := bs hf
        refine j_sJ E eh10 dX1_walkSum_43 ?_
        refine j_iinc (v := (x5 + 1)) (k0 := 5) (lv' := [(5, .int (x5 + 1)), (0, .ref (ad x0)), (1, .ref (ad x1)), (2, .int x2), (3, .int x3), (4, .int x4)]) E dX1_walkSum_44 rfl (congrArg (fun z => x5 + z) (by decide)) (by decide) rfl ?_
        refine j_goto (tgt := 19) E dX1_walkSum_47 (by decide) ?_
        refine j_perm (lv' := [(0, .ref (ad x0)), (1, .ref (ad x1)), (2, .int x2), (3, .int x3), (4, .int x4), (5, .int (x5 + 1))]) [1, 2, 3, 4, 5, 0] rfl ?_
        exact ih k h10 (x5 + 1) hk hf
set_option maxRecDepth 100000 in
set_option maxHeartbeats 4000000 in
theorem w_X1_walkSum_53 {p : Program} {l : Launch} {e : Env} {s : State} {m : MethodId} {args : Array Value} {below : List Frame} {meth : Method} {c : Code} {D : va_G} {ad : Nat → Nat} {cy : Nat → ClassId} (E : EE p s m args c cX1_walkSum 6 (wsM yX1_walkSum cX1_walkSum 6 (some .long)) RX1 D cy) (hr : meth.sig.returnType = (some .long)) (hlk : meth.locks = false) {h' : HP} {r : Int64} (x0 : Nat) (x1 : Nat) (x4 : Int32) (x3 : Int32) : ∀ (n : Nat) (k : (HP → Option (HP × Int64))) (h : HP) (x5 : Int32), (∀ (h : HP), k h = some (h', r) → JJ p l e rmX1_walkSum s m args below meth c 0 0 (MQ below (QV D ad cy (some (.long r)) h') args s 0 0 (Aw ad)) D ad cy (Aw ad) 6 h [(0, .ref (ad x0)), (3, .int x3)] 78 []) → L_X1_walkSum_53 x0 x1 x4 n k h x5 = some (h', r) → JJ p l e rmX1_walkSum s m args below meth c 0 0 (MQ below (QV D ad cy (some (.long r)) h') args s 0 0 (Aw ad)) D ad cy (Aw ad) 6 h [(0, .ref (ad x0)), (1, .ref (ad x1)), (3, .int x3), (4, .int x4), (5, .int x5)] 53 [] := by
  intro n
  induction n with
  | zero => intro k h x5 hk hf; cases hf
  | succ n ih =>
    intro k h x5 hk hf
    unfold L_X1_walkSum_53 at hf
    refine j_iload E 4 rfl dX1_walkSum_53 ?_
    refine j_bipush (v := 60) E dX1_walkSum_55 (by decide) ?_
    refine j_icmp_ge (tgt := 78) E dX1_walkSum_57 (by decide) (fun z13 => ?_) (fun z13 => ?_)
    · have hf := ifp hf z13
      refine j_perm (lv' := [(0, .ref (ad x0)), (3, .int x3)]) [0, 2] rfl ?_
      exact hk h hf
    · have hf := ifn hf z13
      refine j_iload E 4 rfl dX1_walkSum_60 ?_
      refine j_iload E 3 rfl dX1_walkSum_62 ?_
      refine j_icmp_ge (tgt := 78) E dX1_walkSum_64 (by decide) (fun z14 => ?_) (fun z14 => ?_)
      · have hf := ifp hf z14
        refine j_perm (lv' := [(0, .ref (ad x0)), (3, .int x3)]) [0, 2] rfl ?_
        exact hk h hf
      · have hf := ifn hf z14
        refine j_aload_n E 0 rfl dX1_walkSum_67 rfl ?_
        refine j_aload_n E 1 rfl dX1_walkSum_68 rfl ?_
        obtain ⟨k15, hf⟩ := ck_spec hf
        obtain ⟨h16, e17, hf⟩ := bs hf
        refine j_callV (ci := 0) (b := x0) (As := [.ref (ad x1)]) (rest := []) (v := none) E (c_X1_walkOn l D ad cy h x0 x1 e17) (mcw E.1.2.2.2.2 uw_2_234 uw_2_231 uw_2_233 us_1_6 uw_1_3 rfl rfl hd_X1_walkOn ⟨by decide, by decide⟩) rfl k15 rfl rfl (Nat.le_of_ble_eq_true rfl) dX1_walkSum_69 ⟨Nat.zero_le _, Nat.zero_le _⟩ ?_
        refine j_stk (st' := []) rfl ?_
        refine j_iinc (v := (x5 + 1)) (k0 := 4) (lv' := [(5, .int (x5 + 1)), (0, .ref (ad x0)), (1, .ref (ad x1)), (3, .int x3), (4, .int x4)]) E dX1_walkSum_72 rfl (congrArg (fun z => x5 + z) (by decide)) (by decide) rfl ?_
        refine j_goto (tgt := 53) E dX1_walkSum_75 (by decide) ?_
        refine j_perm (lv' := [(0, .ref (ad x0)), (1, .ref (ad x1)), (3, .int x3), (4, .int x4), (5, .int (x5 + 1))]) [1, 2, 3, 4, 0] rfl ?_
        exact ih k h16 (x5 + 1) hk hf
set_option maxRecDepth 100000 in
set_option maxHeartbeats 4000000 in
theorem c_X1_walkSum (l : Launch) (D : va_G) (ad : Nat → Nat) (cy : Nat → ClassId) (h : HP) (x0 : Nat) (x1 : Nat) (x2 : Int32) (x3 : Int32) (x4 : Int32) {h' : HP} {r : Int64} (hf : f_X1_walkSum h x0 x1 x2 x3 x4 = some (h', r)) : Met l yX1_walkSum (wsM yX1_walkSum cX1_walkSum 6 (some .long)) rmX1_walkSum (va_Pc [.ref (ad x0), .ref (ad x1), .int x2, .int x3, .int x4] (PW D ad cy h)) (QV D ad cy (some (.long r)) h') 0 0 (Aw ad) := by
  refine met_of (own := RX1) (lv := [(0, .ref (ad x0)), (1, .ref (ad x1)), (2, .int x2), (3, .int x3), (4, .int x4)]) (by decide) rfl (Nat.le_of_ble_eq_true rfl) rfl (fun p e s m args below meth c E hr hlk => ?_)
  unfold f_X1_walkSum at hf
  refine j_iload_n E 2 rfl dX1_walkSum_0 rfl ?_
  obtain ⟨v1, e2, hf⟩ := bs hf
  refine j_callSN (host := RX5) (As := [.int x2]) (rest := []) (v := (some (.int v1))) E (c_X5_isLine l D ad cy h x2 e2) (mcn E.1.2.2.2.2 E.2.2 7 rfl uw_1_164 uw_1_163 uw_1_1 rfl rfl hd_X5_isLine ⟨by decide, by decide⟩) rfl rfl (Nat.le_of_ble_eq_true rfl) dX1_walkSum_1 ⟨Nat.zero_le _, Nat.zero_le _⟩ ?_
  refine j_stk (st' := [.int v1]) rfl ?_
  refine j_if_eq (tgt := 14) E dX1_walkSum_4 (by decide) (fun z3 => ?_) (fun z3 => ?_)
  · have hf := ifp hf z3
    refine j_lconst (v := 0) E dX1_walkSum_14 (by decide) ?_
    cases hf
    exact j_lret E hr hlk dX1_walkSum_15
  · have hf := ifn hf z3
    refine j_iload_n E 3 rfl dX1_walkSum_7 rfl ?_
    obtain ⟨v4, e5, hf⟩ := bs hf
    refine j_callSN (host := RX5) (As := [.int x3]) (rest := []) (v := (some (.int v4))) E (c_X5_isLine l D ad cy h x3 e5) (mcn E.1.2.2.2.2 E.2.2 7 rfl uw_1_164 uw_1_163 uw_1_1 rfl rfl hd_X5_isLine ⟨by decide, by decide⟩) rfl rfl (Nat.le_of_ble_eq_true rfl) dX1_walkSum_8 ⟨Nat.zero_le _, Nat.zero_le _⟩ ?_
    refine j_stk (st' := [.int v4]) rfl ?_
    refine j_if_ne (tgt := 16) E dX1_walkSum_11 (by decide) (fun z6 => ?_) (fun z6 => ?_)
    · have hf := ifn hf z6
      refine j_iconst (v := 0) E dX1_walkSum_16 (by decide) ?_
      refine j_istore (lv' := [(5, .int 0), (0, .ref (ad x0)), (1, .ref (ad x1)), (2, .int x2), (3, .int x3), (4, .int x4)]) E dX1_walkSum_17 (by decide) rfl ?_
      refine j_perm (lv' := [(0, .ref (ad x0)), (1, .ref (ad x1)), (2, .int x2), (3, .int x3), (4, .int x4), (5, .int 0)]) [1, 2, 3, 4, 5, 0] rfl ?_
      refine w_X1_walkSum_19 E hr hlk x0 x2 x1 x3 x4 FU _ h 0 (fun h12 hf => ?_) hf
      refine j_iconst (v := 0) E dX1_walkSum_50 (by decide) ?_
      refine j_istore (lv' := [(5, .int 0), (0, .ref (ad x0)), (1, .ref (ad x1)), (3, .int x3), (4, .int x4)]) E dX1_walkSum_51 (by decide) rfl ?_
      refine j_perm (lv' := [(0, .ref (ad x0)), (1, .ref (ad x1)), (3, .int x3), (4, .int x4), (5, .int 0)]) [1, 2, 3, 4, 0] rfl ?_
      refine w_X1_walkSum_53 E hr hlk x0 x1 x4 x3 FU _ h12 0 (fun h18 hf => ?_) hf
      refine j_aload_n E 0 rfl dX1_walkSum_78 rfl ?_
      obtain ⟨v19, ev19, hf⟩ := bs hf
      refine j_getR (ci := 0) (k0 := 4) (T := TX1) (N := 6) E (mI inUX1) rfl (by decide) (mU uw_1_53) ev19 dX1_walkSum_79 ?_
      refine j_iload_n E 1 rfl dX1_walkSum_82 rfl ?_
      obtain ⟨v20, ev20, hf⟩ := bs hf
      refine j_aJ E ev20 dX1_walkSum_83 ?_
      cases hf
      exact j_lret E hr hlk dX1_walkSum_84
    · have hf := ifp hf z6
      refine j_lconst (v := 0) E dX1_walkSum_14 (by decide) ?_
      cases hf
      exact j_lret E hr hlk dX1_walkSum_15
noncomputable def L_X1_targetsOf_4 (h : HP) (x0 : Nat) (x1 : Int32) : Nat → (Int32 → Option (Int32)) → Int32 → Int32 → Option (Int32)
  | 0, _, _, _ => none
  | n + 1, k, x2, x3 =>
      if 16 ≤ x3 then (
        k x2
      ) else (
        (f_X5_hasBit x1 x3).bind fun v2 =>
        if v2 = 0 then (
          L_X1_targetsOf_4 h x0 x1 n k x2 (x3 + 1)
        ) else (
          (gR 0 h x0 1).bind fun v5 =>
          (aI h v5 x3).bind fun v6 =>
          L_X1_targetsOf_4 h x0 x1 n k (x2 ||| v6) (x3 + 1)
        )
      )
noncomputable def f_X1_targetsOf (h : HP) (x0 : Nat) (x1 : Int32) : Option (Int32) :=
  L_X1_targetsOf_4 h x0 x1 FU (fun x7 =>
    some x7) 0 0
abbrev rmX1_targetsOf : Room := { frames := 1, cells := 0, slots := 0, locals := 21 }
theorem hd_X1_targetsOf : yX1_targetsOf.cls = RX1 ∧ yX1_targetsOf.cls ≠ "java/lang/invoke/MethodHandle" ∧ yX1_targetsOf.cls ≠ "java/lang/invoke/VarHandle" ∧ (parseMethodDescriptor yX1_targetsOf.desc).map (fun d => d.parameters.length) = some 1 := by decide +kernel
set_option maxRecDepth 100000 in
set_option maxHeartbeats 4000000 in
theorem w_X1_targetsOf_4 {p : Program} {l : Launch} {e : Env} {s : State} {m : MethodId} {args : Array Value} {below : List Frame} {meth : Method} {c : Code} {D : va_G} {ad : Nat → Nat} {cy : Nat → ClassId} (E : EE p s m args c cX1_targetsOf 4 (wsM yX1_targetsOf cX1_targetsOf 4 (some .int)) RX1 D cy) (hr : meth.sig.returnType = (some .int)) (hlk : meth.locks = false) {r : Int32} (h : HP) (x0 : Nat) (x1 : Int32) : ∀ (n : Nat) (k : (Int32 → Option (Int32))) (x2 : Int32) (x3 : Int32), (∀ (x2 : Int32), k x2 = some r → JJ p l e rmX1_targetsOf s m args below meth c 0 0 (MQ below (QV D ad cy (some (.int r)) h) args s 0 0 (Aw ad)) D ad cy (Aw ad) 4 h [(2, .int x2)] 33 []) → L_X1_targetsOf_4 h x0 x1 n k x2 x3 = some r → JJ p l e rmX1_targetsOf s m args below meth c 0 0 (MQ below (QV D ad cy (some (.int r)) h) args s 0 0 (Aw ad)) D ad cy (Aw ad) 4 h [(0, .ref (ad x0)), (1, .int x1), (2, .int x2), (3, .int x3)] 4 [] := by
  intro n
  induction n with
  | zero => intro k x2 x3 hk hf; cases hf
  | succ n ih =>
    intro k x2 x3 hk hf
    unfold L_X1_targetsOf_4 at hf
    refine j_iload_n E 3 rfl dX1_targetsOf_4 rfl ?_
    refine j_bipush (v := 16) E dX1_targetsOf_5 (by decide) ?_
    refine j_icmp_ge (tgt := 33) E dX1_targetsOf_7 (by decide) (fun z1 => ?_) (fun z1 => ?_)
    · have hf := ifp hf z1
      refine j_perm (lv' := [(2, .int x2)]) [2] rfl ?_
      exact hk x2 hf
    · have hf := ifn hf z1
      refine j_iload_n E 1 rfl dX1_targetsOf_10 rfl ?_
      refine j_iload_n E 3 rfl dX1_targetsOf_11 rfl ?_
      obtain ⟨v2, e3, hf⟩ := bs hf
      refine j_callSN (host := RX5) (As := [.int x1, .int x3]) (rest := []) (v := (some (.int v2))) E (c_X5_hasBit l D ad cy h x1 x3 e3) (mcn E.1.2.2.2.2 E.2.2 8 rfl uw_2_8 uw_2_7 uw_1_1 rfl rfl hd_X5_hasBit ⟨by decide, by decide⟩) rfl rfl (Nat.le_of_ble_eq_true rfl) dX1_targetsOf_12 ⟨Nat.zero_le _, Nat.zero_le _⟩ ?_
      refine j_stk (st' := [.int v2]) rfl ?_
      refine j_if_eq (tgt := 27) E dX1_targetsOf_15 (by decide) (fun z4 => ?_) (fun z4 => ?_)
      · have hf := ifp hf z4
        refine j_iinc (v := (x3 + 1)) (k0 := 3) (lv' := [(3, .int (x3 + 1)), (0, .ref (ad x0)), (1, .int x1), (2, .int x2)]) E dX1_targetsOf_27 rfl (congrArg (fun z => x3 + z) (by decide)) (by decide) rfl ?_
        refine j_goto (tgt := 4) E dX1_targetsOf_30 (by decide) ?_
        refine j_perm (lv' := [(0, .ref (ad x0)), (1, .int x1), (2, .int x2), (3, .int (x3 + 1))]) [1, 2, 3, 0] rfl ?_
        exact ih k x2 (x3 + 1) hk hf
      · have hf := ifn hf z4
        refine j_iload_n E 2 rfl dX1_targetsOf_18 rfl ?_
        refine j_aload_n E 0 rfl dX1_targetsOf_19 rfl ?_
        obtain ⟨v5, ev5, hf⟩ := bs hf
        refine j_getR (ci := 0) (k0 := 1) (T := TX1) (N := 6) E (mI inUX1) rfl (by decide) (mU uw_1_50) ev5 dX1_targetsOf_20 ?_
        refine j_iload_n E 3 rfl dX1_targetsOf_23 rfl ?_
        obtain ⟨v6, ev6, hf⟩ := bs hf
        refine j_aI E ev6 dX1_targetsOf_24 ?_
        refine j_ior E dX1_targetsOf_25 ?_
        refine j_istore_n (lv' := [(2, .int (x2 ||| v6)), (0, .ref (ad x0)), (1, .int x1), (3, .int x3)]) E dX1_targetsOf_26 rfl (by decide) rfl ?_
        refine j_iinc (v := (x3 + 1)) (k0 := 3) (lv' := [(3, .int (x3 + 1)), (2, .int (x2 ||| v6)), (0, .ref (ad x0)), (1, .int x1)]) E dX1_targetsOf_27 rfl (congrArg (fun z => x3 + z) (by decide)) (by decide) rfl ?_
        refine j_goto (tgt := 4) E dX1_targetsOf_30 (by decide) ?_
        refine j_perm (lv' := [(0, .ref (ad x0)), (1, .int x1), (2, .int (x2 ||| v6)), (3, .int (x3 + 1))]) [2, 3, 1, 0] rfl ?_
        exact ih k (x2 ||| v6) (x3 + 1) hk hf
set_option maxRecDepth 100000 in
set_option maxHeartbeats 4000000 in
theorem c_X1_targetsOf (l : Launch) (D : va_G) (ad : Nat → Nat) (cy : Nat → ClassId) (h : HP) (x0 : Nat) (x1 : Int32) {r : Int32} (hf : f_X1_targetsOf h x0 x1 = some r) : Met l yX1_targetsOf (wsM yX1_targetsOf cX1_targetsOf 4 (some .int)) rmX1_targetsOf (va_Pc [.ref (ad x0), .int x1] (PW D ad cy h)) (QV D ad cy (some (.int r)) h) 0 0 (Aw ad) := by
  refine met_of (own := RX1) (lv := [(0, .ref (ad x0)), (1, .int x1)]) (by decide) rfl (Nat.le_of_ble_eq_true rfl) rfl (fun p e s m args below meth c E hr hlk => ?_)
  unfold f_X1_targetsOf at hf
  refine j_iconst (v := 0) E dX1_targetsOf_0 (by decide) ?_
  refine j_istore_n (lv' := [(2, .int 0), (0, .ref (ad x0)), (1, .int x1)]) E dX1_targetsOf_1 rfl (by decide) rfl ?_
  refine j_iconst (v := 0) E dX1_targetsOf_2 (by decide) ?_
  refine j_istore_n (lv' := [(3, .int 0), (2, .int 0), (0, .ref (ad x0)), (1, .int x1)]) E dX1_targetsOf_3 rfl (by decide) rfl ?_
  refine j_perm (lv' := [(0, .ref (ad x0)), (1, .int x1), (2, .int 0), (3, .int 0)]) [2, 3, 1, 0] rfl ?_
  refine w_X1_targetsOf_4 E hr hlk h x0 x1 FU _ 0 0 (fun x7 hf => ?_) hf
  refine j_iload_n E 0 rfl dX1_targetsOf_33 rfl ?_
  cases hf
  exact j_iret E hr hlk dX1_targetsOf_34
noncomputable def L_X1_wayLength_24 (h : HP) (x0 : Nat) (x2 : Int32) : Nat → (Option (Int32)) → Int32 → Int32 → Option (Int32)
  | 0, _, _, _ => none
  | n + 1, k, x3, x4 =>
      if 16 ≤ x4 then (
        k
      ) else (
        (f_X5_hasBit x3 x2).bind fun v8 =>
        if v8 = 0 then (
          ck 0 h x0 <|
          (f_X1_targetsOf h x0 x3).bind fun v12 =>
          L_X1_wayLength_24 h x0 x2 n k (x3 ||| v12) (x4 + 1)
        ) else (
          some x4
        )
      )
noncomputable def f_X1_wayLength (h : HP) (x0 : Nat) (x1 : Int32) (x2 : Int32) : Option (Int32) :=
  (f_X5_isLine x1).bind fun v1 =>
  if v1 = 0 then (
    some (-3)
  ) else (
    (f_X5_isLine x2).bind fun v4 =>
    if v4 = 0 then (
      some (-3)
    ) else (
      L_X1_wayLength_24 h x0 x2 FU (
        some (-3)) (1 <<< (x1 &&& 31)) 0
    )
  )
abbrev rmX1_wayLength : Room := { frames := 2, cells := 0, slots := 0, locals := 44 }
theorem hd_X1_wayLength : yX1_wayLength.cls = RX1 ∧ yX1_wayLength.cls ≠ "java/lang/invoke/MethodHandle" ∧ yX1_wayLength.cls ≠ "java/lang/invoke/VarHandle" ∧ (parseMethodDescriptor yX1_wayLength.desc).map (fun d => d.parameters.length) = some 2 := by decide +kernel
set_option maxRecDepth 100000 in
set_option maxHeartbeats 4000000 in
theorem w_X1_wayLength_24 {p : Program} {l : Launch} {e : Env} {s : State} {m : MethodId} {args : Array Value} {below : List Frame} {meth : Method} {c : Code} {D : va_G} {ad : Nat → Nat} {cy : Nat → ClassId} (E : EE p s m args c cX1_wayLength 5 (wsM yX1_wayLength cX1_wayLength 5 (some .int)) RX1 D cy) (hr : meth.sig.returnType = (some .int)) (hlk : meth.locks = false) {r : Int32} (h : HP) (x0 : Nat) (x2 : Int32) : ∀ (n : Nat) (k : (Option (Int32))) (x3 : Int32) (x4 : Int32), (k = some r → JJ p l e rmX1_wayLength s m args below meth c 0 0 (MQ below (QV D ad cy (some (.int r)) h) args s 0 0 (Aw ad)) D ad cy (Aw ad) 5 h [] 56 []) → L_X1_wayLength_24 h x0 x2 n k x3 x4 = some r → JJ p l e rmX1_wayLength s m args below meth c 0 0 (MQ below (QV D ad cy (some (.int r)) h) args s 0 0 (Aw ad)) D ad cy (Aw ad) 5 h [(0, .ref (ad x0)), (2, .int x2), (3, .int x3), (4, .int x4)] 24 [] := by
  intro n
  induction n with
  | zero => intro k x3 x4 hk hf; cases hf
  | succ n ih =>
    intro k x3 x4 hk hf
    unfold L_X1_wayLength_24 at hf
    refine j_iload E 3 rfl dX1_wayLength_24 ?_
    refine j_bipush (v := 16) E dX1_wayLength_26 (by decide) ?_
    refine j_icmp_ge (tgt := 56) E dX1_wayLength_28 (by decide) (fun z7 => ?_) (fun z7 => ?_)
    · have hf := ifp hf z7
      refine j_perm (lv' := []) [] rfl ?_
      exact hk hf
    · have hf := ifn hf z7
      refine j_iload_n E 2 rfl dX1_wayLength_31 rfl ?_
      refine j_iload_n E 1 rfl dX1_wayLength_32 rfl ?_
      obtain ⟨v8, e9, hf⟩ := bs hf
      refine j_callSN (host := RX5) (As := [.int x3, .int x2]) (rest := []) (v := (some (.int v8))) E (c_X5_hasBit l D ad cy h x3 x2 e9) (mcn E.1.2.2.2.2 E.2.2 8 rfl uw_2_8 uw_2_7 uw_1_1 rfl rfl hd_X5_hasBit ⟨by decide, by decide⟩) rfl rfl (Nat.le_of_ble_eq_true rfl) dX1_wayLength_33 ⟨Nat.zero_le _, Nat.zero_le _⟩ ?_
      refine j_stk (st' := [.int v8]) rfl ?_
      refine j_if_eq (tgt := 42) E dX1_wayLength_36 (by decide) (fun z10 => ?_) (fun z10 => ?_)
      · have hf := ifp hf z10
        refine j_iload_n E 2 rfl dX1_wayLength_42 rfl ?_
        refine j_aload_n E 0 rfl dX1_wayLength_43 rfl ?_
        refine j_iload_n E 2 rfl dX1_wayLength_44 rfl ?_
        obtain ⟨k11, hf⟩ := ck_spec hf
        obtain ⟨v12, e13, hf⟩ := bs hf
        refine j_callV (ci := 0) (b := x0) (As := [.int x3]) (rest := [.int x3]) (v := (some (.int v12))) E (c_X1_targetsOf l D ad cy h x0 x3 e13) (mcw E.1.2.2.2.2 uw_3_18 uw_3_15 uw_3_17 us_1_8 uw_1_3 rfl rfl hd_X1_targetsOf ⟨by decide, by decide⟩) rfl k11 rfl rfl (Nat.le_of_ble_eq_true rfl) dX1_wayLength_45 ⟨Nat.zero_le _, Nat.zero_le _⟩ ?_
        refine j_stk (st' := [.int v12, .int x3]) rfl ?_
        refine j_ior E dX1_wayLength_48 ?_
        refine j_istore_n (lv' := [(3, .int (x3 ||| v12)), (0, .ref (ad x0)), (2, .int x2), (4, .int x4)]) E dX1_wayLength_49 rfl (by decide) rfl ?_
        refine j_iinc (v := (x4 + 1)) (k0 := 3) (lv' := [(4, .int (x4 + 1)), (3, .int (x3 ||| v12)), (0, .ref (ad x0)), (2, .int x2)]) E dX1_wayLength_50 rfl (congrArg (fun z => x4 + z) (by decide)) (by decide) rfl ?_
        refine j_goto (tgt := 24) E dX1_wayLength_53 (by decide) ?_
        refine j_perm (lv' := [(0, .ref (ad x0)), (2, .int x2), (3, .int (x3 ||| v12)), (4, .int (x4 + 1))]) [2, 3, 1, 0] rfl ?_
        exact ih k (x3 ||| v12) (x4 + 1) hk hf
      · have hf := ifn hf z10
        refine j_iload E 3 rfl dX1_wayLength_39 ?_
        cases hf
        exact j_iret E hr hlk dX1_wayLength_41
set_option maxRecDepth 100000 in
set_option maxHeartbeats 4000000 in
theorem c_X1_wayLength (l : Launch) (D : va_G) (ad : Nat → Nat) (cy : Nat → ClassId) (h : HP) (x0 : Nat) (x1 : Int32) (x2 : Int32) {r : Int32} (hf : f_X1_wayLength h x0 x1 x2 = some r) : Met l yX1_wayLength (wsM yX1_wayLength cX1_wayLength 5 (some .int)) rmX1_wayLength (va_Pc [.ref (ad x0), .int x1, .int x2] (PW D ad cy h)) (QV D ad cy (some (.int r)) h) 0 0 (Aw ad) := by
  refine met_of (own := RX1) (lv := [(0, .ref (ad x0)), (1, .int x1), (2, .int x2)]) (by decide) rfl (Nat.le_of_ble_eq_true rfl) rfl (fun p e s m args below meth c E hr hlk => ?_)
  unfold f_X1_wayLength at hf
  refine j_iload_n E 1 rfl dX1_wayLength_0 rfl ?_
  obtain ⟨v1, e2, hf⟩ := bs hf
  refine j_callSN (host := RX5) (As := [.int x1]) (rest := []) (v := (some (.int v1))) E (c_X5_isLine l D ad cy h x1 e2) (mcn E.1.2.2.2.2 E.2.2 7 rfl uw_1_164 uw_1_163 uw_1_1 rfl rfl hd_X5_isLine ⟨by decide, by decide⟩) rfl rfl (Nat.le_of_ble_eq_true rfl) dX1_wayLength_1 ⟨Nat.zero_le _, Nat.zero_le _⟩ ?_
  refine j_stk (st' := [.int v1]) rfl ?_
  refine j_if_eq (tgt := 14) E dX1_wayLength_4 (by decide) (fun z3 => ?_) (fun z3 => ?_)
  · have hf := ifp hf z3
    refine j_bipush (v := (-3)) E dX1_wayLength_14 (by decide) ?_
    cases hf
    exact j_iret E hr hlk dX1_wayLength_16
  · have hf := ifn hf z3
    refine j_iload_n E 2 rfl dX1_wayLength_7 rfl ?_
    obtain ⟨v4, e5, hf⟩ := bs hf
    refine j_callSN (host := RX5) (As := [.int x2]) (rest := []) (v := (some (.int v4))) E (c_X5_isLine l D ad cy h x2 e5) (mcn E.1.2.2.2.2 E.2.2 7 rfl uw_1_164 uw_1_163 uw_1_1 rfl rfl hd_X5_isLine ⟨by decide, by decide⟩) rfl rfl (Nat.le_of_ble_eq_true rfl) dX1_wayLength_8 ⟨Nat.zero_le _, Nat.zero_le _⟩ ?_
    refine j_stk (st' := [.int v4]) rfl ?_
    refine j_if_ne (tgt := 17) E dX1_wayLength_11 (by decide) (fun z6 => ?_) (fun z6 => ?_)
    · have hf := ifn hf z6
      refine j_iconst (v := 1) E dX1_wayLength_17 (by decide) ?_
      refine j_iload_n E 1 rfl dX1_wayLength_18 rfl ?_
      refine j_ishl E dX1_wayLength_19 ?_
      refine j_istore_n (lv' := [(3, .int (1 <<< (x1 &&& 31))), (0, .ref (ad x0)), (1, .int x1), (2, .int x2)]) E dX1_wayLength_20 rfl (by decide) rfl ?_
      refine j_iconst (v := 0) E dX1_wayLength_21 (by decide) ?_
      refine j_istore (lv' := [(4, .int 0), (3, .int (1 <<< (x1 &&& 31))), (0, .ref (ad x0)), (1, .int x1), (2, .int x2)]) E dX1_wayLength_22 (by decide) rfl ?_
      refine j_perm (lv' := [(0, .ref (ad x0)), (2, .int x2), (3, .int (1 <<< (x1 &&& 31))), (4, .int 0)]) [2, 4, 1, 0] rfl ?_
      refine w_X1_wayLength_24 E hr hlk h x0 x2 FU _ (1 <<< (x1 &&& 31)) 0 (fun hf => ?_) hf
      refine j_bipush (v := (-3)) E dX1_wayLength_56 (by decide) ?_
      cases hf
      exact j_iret E hr hlk dX1_wayLength_58
    · have hf := ifp hf z6
      refine j_bipush (v := (-3)) E dX1_wayLength_14 (by decide) ?_
      cases hf
      exact j_iret E hr hlk dX1_wayLength_16
noncomputable def L_X1_closeReach_2 (x0 : Nat) : Nat → (HP → Option (HP)) → HP → Int32 → Option (HP)
  | 0, _, _, _ => none
  | n + 1, k, h, x1 =>
      if 16 ≤ x1 then (
        k h
      ) else (
        (gR 0 h x0 3).bind fun v2 =>
        (gR 0 h x0 1).bind fun v3 =>
        (aI h v3 x1).bind fun v4 =>
        (sI h v2 x1 (v4 ||| (1 <<< (x1 &&& 31)))).bind fun h5 =>
        L_X1_closeReach_2 x0 n k h5 (x1 + 1)
      )
noncomputable def L_X1_closeReach_40 (x0 : Nat) (x1 : Int32) : Nat → (HP → Option (HP)) → HP → Int32 → Option (HP)
  | 0, _, _, _ => none
  | n + 1, k, h, x2 =>
      if 16 ≤ x2 then (
        k h
      ) else (
        (gR 0 h x0 3).bind fun v9 =>
        (aI h v9 x2).bind fun v10 =>
        (f_X5_hasBit v10 x1).bind fun v11 =>
        if v11 = 0 then (
          L_X1_closeReach_40 x0 x1 n k h (x2 + 1)
        ) else (
          (gR 0 h x0 3).bind fun v14 =>
          (aI h v14 x2).bind fun v15 =>
          (gR 0 h x0 3).bind fun v16 =>
          (aI h v16 x1).bind fun v17 =>
          (sI h v14 x2 (v15 ||| v17)).bind fun h18 =>
          L_X1_closeReach_40 x0 x1 n k h18 (x2 + 1)
        )
      )
noncomputable def L_X1_closeReach_32 (x0 : Nat) : Nat → (HP → Option (HP)) → HP → Int32 → Option (HP)
  | 0, _, _, _ => none
  | n + 1, k, h, x1 =>
      if 16 ≤ x1 then (
        k h
      ) else (
        L_X1_closeReach_40 x0 x1 FU (fun h19 =>
          L_X1_closeReach_32 x0 n k h19 (x1 + 1)) h 0
      )
noncomputable def f_X1_closeReach (h : HP) (x0 : Nat) : Option (HP) :=
  L_X1_closeReach_2 x0 FU (fun h6 =>
    L_X1_closeReach_32 x0 FU (fun h20 =>
      some h20) h6 0) h 0
abbrev rmX1_closeReach : Room := { frames := 1, cells := 0, slots := 0, locals := 21 }
theorem hd_X1_closeReach : yX1_closeReach.cls = RX1 ∧ yX1_closeReach.cls ≠ "java/lang/invoke/MethodHandle" ∧ yX1_closeReach.cls ≠ "java/lang/invoke/VarHandle" ∧ (parseMethodDescriptor yX1_closeReach.desc).map (fun d => d.parameters.length) = some 0 := by decide +kernel
set_option maxRecDepth 100000 in
set_option maxHeartbeats 4000000 in
theorem w_X1_closeReach_2 {p : Program} {l : Launch} {e : Env} {s : State} {m : MethodId} {args : Array Value} {below : List Frame} {meth : Method} {c : Code} {D : va_G} {ad : Nat → Nat} {cy : Nat → ClassId} (E : EE p s m args c cX1_closeReach 3 (wsM yX1_closeReach cX1_closeReach 3 none) RX1 D cy) (hr : meth.sig.returnType = none) (hlk : meth.locks = false) {h' : HP} (x0 : Nat) : ∀ (n : Nat) (k : (HP → Option (HP))) (h : HP) (x1 : Int32), (∀ (h : HP), k h = some h' → JJ p l e rmX1_closeReach s m args below meth c 0 0 (MQ below (QV D ad cy none h') args s 0 0 (Aw ad)) D ad cy (Aw ad) 3 h [(0, .ref (ad x0))] 30 []) → L_X1_closeReach_2 x0 n k h x1 = some h' → JJ p l e rmX1_closeReach s m args below meth c 0 0 (MQ below (QV D ad cy none h') args s 0 0 (Aw ad)) D ad cy (Aw ad) 3 h [(0, .ref (ad x0)), (1, .int x1)] 2 [] := by
  intro n
  induction n with
  | zero => intro k h x1 hk hf; cases hf
  | succ n ih =>
    intro k h x1 hk hf
    unfold L_X1_closeReach_2 at hf
    refine j_iload_n E 1 rfl dX1_closeReach_2 rfl ?_
    refine j_bipush (v := 16) E dX1_closeReach_3 (by decide) ?_
    refine j_icmp_ge (tgt := 30) E dX1_closeReach_5 (by decide) (fun z1 => ?_) (fun z1 => ?_)
    · have hf := ifp hf z1
      refine j_perm (lv' := [(0, .ref (ad x0))]) [0] rfl ?_
      exact hk h hf
    · have hf := ifn hf z1
      refine j_aload_n E 0 rfl dX1_closeReach_8 rfl ?_
      obtain ⟨v2, ev2, hf⟩ := bs hf
      refine j_getR (ci := 0) (k0 := 3) (T := TX1) (N := 6) E (mI inUX1) rfl (by decide) (mU uw_1_52) ev2 dX1_closeReach_9 ?_
      refine j_iload_n E 1 rfl dX1_closeReach_12 rfl ?_
      refine j_aload_n E 0 rfl dX1_closeReach_13 rfl ?_
      obtain ⟨v3, ev3, hf⟩ := bs hf
      refine j_getR (ci := 0) (k0 := 1) (T := TX1) (N := 6) E (mI inUX1) rfl (by decide) (mU uw_1_50) ev3 dX1_closeReach_14 ?_
      refine j_iload_n E 1 rfl dX1_closeReach_17 rfl ?_
      obtain ⟨v4, ev4, hf⟩ := bs hf
      refine j_aI E ev4 dX1_closeReach_18 ?_
      refine j_iconst (v := 1) E dX1_closeReach_19 (by decide) ?_
      refine j_iload_n E 1 rfl dX1_closeReach_20 rfl ?_
      refine j_ishl E dX1_closeReach_21 ?_
      refine j_ior E dX1_closeReach_22 ?_
      obtain ⟨h5, eh5, hf⟩ := bs hf
      refine j_sI E eh5 dX1_closeReach_23 ?_
      refine j_iinc (v := (x1 + 1)) (k0 := 1) (lv' := [(1, .int (x1 + 1)), (0, .ref (ad x0))]) E dX1_closeReach_24 rfl (congrArg (fun z => x1 + z) (by decide)) (by decide) rfl ?_
      refine j_goto (tgt := 2) E dX1_closeReach_27 (by decide) ?_
      refine j_perm (lv' := [(0, .ref (ad x0)), (1, .int (x1 + 1))]) [1, 0] rfl ?_
      exact ih k h5 (x1 + 1) hk hf
set_option maxRecDepth 100000 in
set_option maxHeartbeats 4000000 in
theorem w_X1_closeReach_40 {p : Program} {l : Launch} {e : Env} {s : State} {m : MethodId} {args : Array Value} {below : List Frame} {meth : Method} {c : Code} {D : va_G} {ad : Nat → Nat} {cy : Nat → ClassId} (E : EE p s m args c cX1_closeReach 3 (wsM yX1_closeReach cX1_closeReach 3 none) RX1 D cy) (hr : meth.sig.returnType = none) (hlk : meth.locks = false) {h' : HP} (x0 : Nat) (x1 : Int32) : ∀ (n : Nat) (k : (HP → Option (HP))) (h : HP) (x2 : Int32), (∀ (h : HP), k h = some h' → JJ p l e rmX1_closeReach s m args below meth c 0 0 (MQ below (QV D ad cy none h') args s 0 0 (Aw ad)) D ad cy (Aw ad) 3 h [(0, .ref (ad x0)), (1, .int x1)] 80 []) → L_X1_closeReach_40 x0 x1 n k h x2 = some h' → JJ p l e rmX1_closeReach s m args below meth c 0 0 (MQ below (QV D ad cy none h') args s 0 0 (Aw ad)) D ad cy (Aw ad) 3 h [(0, .ref (ad x0)), (1, .int x1), (2, .int x2)] 40 [] := by
  intro n
  induction n with
  | zero => intro k h x2 hk hf; cases hf
  | succ n ih =>
    intro k h x2 hk hf
    unfold L_X1_closeReach_40 at hf
    refine j_iload_n E 2 rfl dX1_closeReach_40 rfl ?_
    refine j_bipush (v := 16) E dX1_closeReach_41 (by decide) ?_
    refine j_icmp_ge (tgt := 80) E dX1_closeReach_43 (by decide) (fun z8 => ?_) (fun z8 => ?_)
    · have hf := ifp hf z8
      refine j_perm (lv' := [(0, .ref (ad x0)), (1, .int x1)]) [0, 1] rfl ?_
      exact hk h hf
    · have hf := ifn hf z8
      refine j_aload_n E 0 rfl dX1_closeReach_46 rfl ?_
      obtain ⟨v9, ev9, hf⟩ := bs hf
      refine j_getR (ci := 0) (k0 := 3) (T := TX1) (N := 6) E (mI inUX1) rfl (by decide) (mU uw_1_52) ev9 dX1_closeReach_47 ?_
      refine j_iload_n E 2 rfl dX1_closeReach_50 rfl ?_
      obtain ⟨v10, ev10, hf⟩ := bs hf
      refine j_aI E ev10 dX1_closeReach_51 ?_
      refine j_iload_n E 1 rfl dX1_closeReach_52 rfl ?_
      obtain ⟨v11, e12, hf⟩ := bs hf
      refine j_callSN (host := RX5) (As := [.int v10, .int x1]) (rest := []) (v := (some (.int v11))) E (c_X5_hasBit l D ad cy h v10 x1 e12) (mcn E.1.2.2.2.2 E.2.2 8 rfl uw_2_8 uw_2_7 uw_1_1 rfl rfl hd_X5_hasBit ⟨by decide, by decide⟩) rfl rfl (Nat.le_of_ble_eq_true rfl) dX1_closeReach_53 ⟨Nat.zero_le _, Nat.zero_le _⟩ ?_
      refine j_stk (st' := [.int v11]) rfl ?_
      refine j_if_eq (tgt := 74) E dX1_closeReach_56 (by decide) (fun z13 => ?_) (fun z13 => ?_)
      · have hf := ifp hf z13
        refine j_iinc (v := (x2 + 1)) (k0 := 2) (lv' := [(2, .int (x2 + 1)), (0, .ref (ad x0)), (1, .int x1)]) E dX1_closeReach_74 rfl (congrArg (fun z => x2 + z) (by decide)) (by decide) rfl ?_
        refine j_goto (tgt := 40) E dX1_closeReach_77 (by decide) ?_
        refine j_perm (lv' := [(0, .ref (ad x0)), (1, .int x1), (2, .int (x2 + 1))]) [1, 2, 0] rfl ?_
        exact ih k h (x2 + 1) hk hf
      · have hf := ifn hf z13
        refine j_aload_n E 0 rfl dX1_closeReach_59 rfl ?_
        obtain ⟨v14, ev14, hf⟩ := bs hf
        refine j_getR (ci := 0) (k0 := 3) (T := TX1) (N := 6) E (mI inUX1) rfl (by decide) (mU uw_1_52) ev14 dX1_closeReach_60 ?_
        refine j_iload_n E 2 rfl dX1_closeReach_63 rfl ?_
        refine j_dup2 E dX1_closeReach_64 rfl rfl ?_
        obtain ⟨v15, ev15, hf⟩ := bs hf
        refine j_aI E ev15 dX1_closeReach_65 ?_
        refine j_aload_n E 0 rfl dX1_closeReach_66 rfl ?_
        obtain ⟨v16, ev16, hf⟩ := bs hf
        refine j_getR (ci := 0) (k0 := 3) (T := TX1) (N := 6) E (mI inUX1) rfl (by decide) (mU uw_1_52) ev16 dX1_closeReach_67 ?_
        refine j_iload_n E 1 rfl dX1_closeReach_70 rfl ?_
        obtain ⟨v17, ev17, hf⟩ := bs hf
        refine j_aI E ev17 dX1_closeReach_71 ?_
        refine j_ior E dX1_closeReach_72 ?_
        obtain ⟨h18, eh18, hf⟩ := bs hf
        refine j_sI E eh18 dX1_closeReach_73 ?_
        refine j_iinc (v := (x2 + 1)) (k0 := 2) (lv' := [(2, .int (x2 + 1)), (0, .ref (ad x0)), (1, .int x1)]) E dX1_closeReach_74 rfl (congrArg (fun z => x2 + z) (by decide)) (by decide) rfl ?_
        refine j_goto (tgt := 40) E dX1_closeReach_77 (by decide) ?_
        refine j_perm (lv' := [(0, .ref (ad x0)), (1, .int x1), (2, .int (x2 + 1))]) [1, 2, 0] rfl ?_
        exact ih k h18 (x2 + 1) hk hf
set_option maxRecDepth 100000 in
set_option maxHeartbeats 4000000 in
theorem w_X1_closeReach_32 {p : Program} {l : Launch} {e : Env} {s : State} {m : MethodId} {args : Array Value} {below : List Frame} {meth : Method} {c : Code} {D : va_G} {ad : Nat → Nat} {cy : Nat → ClassId} (E : EE p s m args c cX1_closeReach 3 (wsM yX1_closeReach cX1_closeReach 3 none) RX1 D cy) (hr : meth.sig.returnType = none) (hlk : meth.locks = false) {h' : HP} (x0 : Nat) : ∀ (n : Nat) (k : (HP → Option (HP))) (h : HP) (x1 : Int32), (∀ (h : HP), k h = some h' → JJ p l e rmX1_closeReach s m args below meth c 0 0 (MQ below (QV D ad cy none h') args s 0 0 (Aw ad)) D ad cy (Aw ad) 3 h [] 86 []) → L_X1_closeReach_32 x0 n k h x1 = some h' → JJ p l e rmX1_closeReach s m args below meth c 0 0 (MQ below (QV D ad cy none h') args s 0 0 (Aw ad)) D ad cy (Aw ad) 3 h [(0, .ref (ad x0)), (1, .int x1)] 32 [] := by
  intro n
  induction n with
  | zero => intro k h x1 hk hf; cases hf
  | succ n ih =>
    intro k h x1 hk hf
    unfold L_X1_closeReach_32 at hf
    refine j_iload_n E 1 rfl dX1_closeReach_32 rfl ?_
    refine j_bipush (v := 16) E dX1_closeReach_33 (by decide) ?_
    refine j_icmp_ge (tgt := 86) E dX1_closeReach_35 (by decide) (fun z7 => ?_) (fun z7 => ?_)
    · have hf := ifp hf z7
      refine j_perm (lv' := []) [] rfl ?_
      exact hk h hf
    · have hf := ifn hf z7
      refine j_iconst (v := 0) E dX1_closeReach_38 (by decide) ?_
      refine j_istore_n (lv' := [(2, .int 0), (0, .ref (ad x0)), (1, .int x1)]) E dX1_closeReach_39 rfl (by decide) rfl ?_
      refine j_perm (lv' := [(0, .ref (ad x0)), (1, .int x1), (2, .int 0)]) [1, 2, 0] rfl ?_
      refine w_X1_closeReach_40 E hr hlk x0 x1 FU _ h 0 (fun h19 hf => ?_) hf
      refine j_iinc (v := (x1 + 1)) (k0 := 1) (lv' := [(1, .int (x1 + 1)), (0, .ref (ad x0))]) E dX1_closeReach_80 rfl (congrArg (fun z => x1 + z) (by decide)) (by decide) rfl ?_
      refine j_goto (tgt := 32) E dX1_closeReach_83 (by decide) ?_
      refine j_perm (lv' := [(0, .ref (ad x0)), (1, .int (x1 + 1))]) [1, 0] rfl ?_
      exact ih k h19 (x1 + 1) hk hf
set_option maxRecDepth 100000 in
set_option maxHeartbeats 4000000 in
theorem c_X1_closeReach (l : Launch) (D : va_G) (ad : Nat → Nat) (cy : Nat → ClassId) (h : HP) (x0 : Nat) {h' : HP} (hf : f_X1_closeReach h x0 = some h') : Met l yX1_closeReach (wsM yX1_closeReach cX1_closeReach 3 none) rmX1_closeReach (va_Pc [.ref (ad x0)] (PW D ad cy h)) (QV D ad cy none h') 0 0 (Aw ad) := by
  refine met_of (own := RX1) (lv := [(0, .ref (ad x0))]) (by decide) rfl (Nat.le_of_ble_eq_true rfl) rfl (fun p e s m args below meth c E hr hlk => ?_)
  unfold f_X1_closeReach at hf
  refine j_iconst (v := 0) E dX1_closeReach_0 (by decide) ?_
  refine j_istore_n (lv' := [(1, .int 0), (0, .ref (ad x0))]) E dX1_closeReach_1 rfl (by decide) rfl ?_
  refine j_perm (lv' := [(0, .ref (ad x0)), (1, .int 0)]) [1, 0] rfl ?_
  refine w_X1_closeReach_2 E hr hlk x0 FU _ h 0 (fun h6 hf => ?_) hf
  refine j_iconst (v := 0) E dX1_closeReach_30 (by decide) ?_
  refine j_istore_n (lv' := [(1, .int 0), (0, .ref (ad x0))]) E dX1_closeReach_31 rfl (by decide) rfl ?_
  refine j_perm (lv' := [(0, .ref (ad x0)), (1, .int 0)]) [1, 0] rfl ?_
  refine w_X1_closeReach_32 E hr hlk x0 FU _ h6 0 (fun h20 hf => ?_) hf
  cases hf
  exact j_vret E hr hlk dX1_closeReach_86
noncomputable def L_X1_leastOfRing_11 (h : HP) (x0 : Nat) (x1 : Int32) : Nat → (Option (Int32)) → Int32 → Option (Int32)
  | 0, _, _ => none
  | n + 1, k, x2 =>
      if x1 ≤ x2 then (
        k
      ) else (
        (gR 0 h x0 3).bind fun v5 =>
        (aI h v5 x1).bind fun v6 =>
        (f_X5_hasBit v6 x2).bind fun v7 =>
        if v7 = 0 then (
          L_X1_leastOfRing_11 h x0 x1 n k (x2 + 1)
        ) else (
          (gR 0 h x0 3).bind fun v10 =>
          (aI h v10 x2).bind fun v11 =>
          (f_X5_hasBit v11 x1).bind fun v12 =>
          if v12 = 0 then (
            L_X1_leastOfRing_11 h x0 x1 n k (x2 + 1)
          ) else (
            some x2
          )
        )
      )
noncomputable def f_X1_leastOfRing (h : HP) (x0 : Nat) (x1 : Int32) : Option (Int32) :=
  (f_X5_isLine x1).bind fun v1 =>
  if v1 = 0 then (
    some 0
  ) else (
    L_X1_leastOfRing_11 h x0 x1 FU (
      some x1) 0
  )
abbrev rmX1_leastOfRing : Room := { frames := 1, cells := 0, slots := 0, locals := 21 }
theorem hd_X1_leastOfRing : yX1_leastOfRing.cls = RX1 ∧ yX1_leastOfRing.cls ≠ "java/lang/invoke/MethodHandle" ∧ yX1_leastOfRing.cls ≠ "java/lang/invoke/VarHandle" ∧ (parseMethodDescriptor yX1_leastOfRing.desc).map (fun d => d.parameters.length) = some 1 := by decide +kernel
set_option maxRecDepth 100000 in
set_option maxHeartbeats 4000000 in
theorem w_X1_leastOfRing_11 {p : Program} {l : Launch} {e : Env} {s : State} {m : MethodId} {args : Array Value} {below : List Frame} {meth : Method} {c : Code} {D : va_G} {ad : Nat → Nat} {cy : Nat → ClassId} (E : EE p s m args c cX1_leastOfRing 3 (wsM yX1_leastOfRing cX1_leastOfRing 3 (some .int)) RX1 D cy) (hr : meth.sig.returnType = (some .int)) (hlk : meth.locks = false) {r : Int32} (h : HP) (x0 : Nat) (x1 : Int32) : ∀ (n : Nat) (k : (Option (Int32))) (x2 : Int32), (k = some r → JJ p l e rmX1_leastOfRing s m args below meth c 0 0 (MQ below (QV D ad cy (some (.int r)) h) args s 0 0 (Aw ad)) D ad cy (Aw ad) 3 h [(1, .int x1)] 50 []) → L_X1_leastOfRing_11 h x0 x1 n k x2 = some r → JJ p l e rmX1_leastOfRing s m args below meth c 0 0 (MQ below (QV D ad cy (some (.int r)) h) args s 0 0 (Aw ad)) D ad cy (Aw ad) 3 h [(0, .ref (ad x0)), (1, .int x1), (2, .int x2)] 11 [] := by
  intro n
  induction n with
  | zero => intro k x2 hk hf; cases hf
  | succ n ih =>
    intro k x2 hk hf
    unfold L_X1_leastOfRing_11 at hf
    refine j_iload_n E 2 rfl dX1_leastOfRing_11 rfl ?_
    refine j_iload_n E 1 rfl dX1_leastOfRing_12 rfl ?_
    refine j_icmp_ge (tgt := 50) E dX1_leastOfRing_13 (by decide) (fun z4 => ?_) (fun z4 => ?_)
    · have hf := ifp hf z4
      refine j_perm (lv' := [(1, .int x1)]) [1] rfl ?_
      exact hk hf
    · have hf := ifn hf z4
      refine j_aload_n E 0 rfl dX1_leastOfRing_16 rfl ?_
      obtain ⟨v5, ev5, hf⟩ := bs hf
      refine j_getR (ci := 0) (k0 := 3) (T := TX1) (N := 6) E (mI inUX1) rfl (by decide) (mU uw_1_52) ev5 dX1_leastOfRing_17 ?_
      refine j_iload_n E 1 rfl dX1_leastOfRing_20 rfl ?_
      obtain ⟨v6, ev6, hf⟩ := bs hf
      refine j_aI E ev6 dX1_leastOfRing_21 ?_
      refine j_iload_n E 2 rfl dX1_leastOfRing_22 rfl ?_
      obtain ⟨v7, e8, hf⟩ := bs hf
      refine j_callSN (host := RX5) (As := [.int v6, .int x2]) (rest := []) (v := (some (.int v7))) E (c_X5_hasBit l D ad cy h v6 x2 e8) (mcn E.1.2.2.2.2 E.2.2 8 rfl uw_2_8 uw_2_7 uw_1_1 rfl rfl hd_X5_hasBit ⟨by decide, by decide⟩) rfl rfl (Nat.le_of_ble_eq_true rfl) dX1_leastOfRing_23 ⟨Nat.zero_le _, Nat.zero_le _⟩ ?_
      refine j_stk (st' := [.int v7]) rfl ?_
      refine j_if_eq (tgt := 44) E dX1_leastOfRing_26 (by decide) (fun z9 => ?_) (fun z9 => ?_)
      · have hf := ifp hf z9
        refine j_iinc (v := (x2 + 1)) (k0 := 2) (lv' := [(2, .int (x2 + 1)), (0, .ref (ad x0)), (1, .int x1)]) E dX1_leastOfRing_44 rfl (congrArg (fun z => x2 + z) (by decide)) (by decide) rfl ?_
        refine j_goto (tgt := 11) E dX1_leastOfRing_47 (by decide) ?_
        refine j_perm (lv' := [(0, .ref (ad x0)), (1, .int x1), (2, .int (x2 + 1))]) [1, 2, 0] rfl ?_
        exact ih k (x2 + 1) hk hf
      · have hf := ifn hf z9
        refine j_aload_n E 0 rfl dX1_leastOfRing_29 rfl ?_
        obtain ⟨v10, ev10, hf⟩ := bs hf
        refine j_getR (ci := 0) (k0 := 3) (T := TX1) (N := 6) E (mI inUX1) rfl (by decide) (mU uw_1_52) ev10 dX1_leastOfRing_30 ?_
        refine j_iload_n E 2 rfl dX1_leastOfRing_33 rfl ?_
        obtain ⟨v11, ev11, hf⟩ := bs hf
        refine j_aI E ev11 dX1_leastOfRing_34 ?_
        refine j_iload_n E 1 rfl dX1_leastOfRing_35 rfl ?_
        obtain ⟨v12, e13, hf⟩ := bs hf
        refine j_callSN (host := RX5) (As := [.int v11, .int x1]) (rest := []) (v := (some (.int v12))) E (c_X5_hasBit l D ad cy h v11 x1 e13) (mcn E.1.2.2.2.2 E.2.2 8 rfl uw_2_8 uw_2_7 uw_1_1 rfl rfl hd_X5_hasBit ⟨by decide, by decide⟩) rfl rfl (Nat.le_of_ble_eq_true rfl) dX1_leastOfRing_36 ⟨Nat.zero_le _, Nat.zero_le _⟩ ?_
        refine j_stk (st' := [.int v12]) rfl ?_
        refine j_if_eq (tgt := 44) E dX1_leastOfRing_39 (by decide) (fun z14 => ?_) (fun z14 => ?_)
        · have hf := ifp hf z14
          refine j_iinc (v := (x2 + 1)) (k0 := 2) (lv' := [(2, .int (x2 + 1)), (0, .ref (ad x0)), (1, .int x1)]) E dX1_leastOfRing_44 rfl (congrArg (fun z => x2 + z) (by decide)) (by decide) rfl ?_
          refine j_goto (tgt := 11) E dX1_leastOfRing_47 (by decide) ?_
          refine j_perm (lv' := [(0, .ref (ad x0)), (1, .int x1), (2, .int (x2 + 1))]) [1, 2, 0] rfl ?_
          exact ih k (x2 + 1) hk hf
        · have hf := ifn hf z14
          refine j_iload_n E 2 rfl dX1_leastOfRing_42 rfl ?_
          cases hf
          exact j_iret E hr hlk dX1_leastOfRing_43
set_option maxRecDepth 100000 in
set_option maxHeartbeats 4000000 in
theorem c_X1_leastOfRing (l : Launch) (D : va_G) (ad : Nat → Nat) (cy : Nat → ClassId) (h : HP) (x0 : Nat) (x1 : Int32) {r : Int32} (hf : f_X1_leastOfRing h x0 x1 = some r) : Met l yX1_leastOfRing (wsM yX1_leastOfRing cX1_leastOfRing 3 (some .int)) rmX1_leastOfRing (va_Pc [.ref (ad x0), .int x1] (PW D ad cy h)) (QV D ad cy (some (.int r)) h) 0 0 (Aw ad) := by
  refine met_of (own := RX1) (lv := [(0, .ref (ad x0)), (1, .int x1)]) (by decide) rfl (Nat.le_of_ble_eq_true rfl) rfl (fun p e s m args below meth c E hr hlk => ?_)
  unfold f_X1_leastOfRing at hf
  refine j_iload_n E 1 rfl dX1_leastOfRing_0 rfl ?_
  obtain ⟨v1, e2, hf⟩ := bs hf
  refine j_callSN (host := RX5) (As := [.int x1]) (rest := []) (v := (some (.int v1))) E (c_X5_isLine l D ad cy h x1 e2) (mcn E.1.2.2.2.2 E.2.2 7 rfl uw_1_164 uw_1_163 uw_1_1 rfl rfl hd_X5_isLine ⟨by decide, by decide⟩) rfl rfl (Nat.le_of_ble_eq_true rfl) dX1_leastOfRing_1 ⟨Nat.zero_le _, Nat.zero_le _⟩ ?_
  refine j_stk (st' := [.int v1]) rfl ?_
  refine j_if_ne (tgt := 9) E dX1_leastOfRing_4 (by decide) (fun z3 => ?_) (fun z3 => ?_)
  · have hf := ifn hf z3
    refine j_iconst (v := 0) E dX1_leastOfRing_9 (by decide) ?_
    refine j_istore_n (lv' := [(2, .int 0), (0, .ref (ad x0)), (1, .int x1)]) E dX1_leastOfRing_10 rfl (by decide) rfl ?_
    refine j_perm (lv' := [(0, .ref (ad x0)), (1, .int x1), (2, .int 0)]) [1, 2, 0] rfl ?_
    refine w_X1_leastOfRing_11 E hr hlk h x0 x1 FU _ 0 (fun hf => ?_) hf
    refine j_iload_n E 0 rfl dX1_leastOfRing_50 rfl ?_
    cases hf
    exact j_iret E hr hlk dX1_leastOfRing_51
  · have hf := ifp hf z3
    refine j_iconst (v := 0) E dX1_leastOfRing_7 (by decide) ?_
    cases hf
    exact j_iret E hr hlk dX1_leastOfRing_8
noncomputable def L_X1_ringsBelow_4 (h : HP) (x0 : Nat) (x1 : Int32) : Nat → (Int32 → Option (Int32)) → Int32 → Int32 → Option (Int32)
  | 0, _, _, _ => none
  | n + 1, k, x2, x3 =>
      if 16 ≤ x3 then (
        k x2
      ) else (
        if x1 ≤ x3 then (
          k x2
        ) else (
          ck 0 h x0 <|
          (f_X1_leastOfRing h x0 x3).bind fun v4 =>
          if v4 = x3 then (
            L_X1_ringsBelow_4 h x0 x1 n k (x2 + 1) (x3 + 1)
          ) else (
            L_X1_ringsBelow_4 h x0 x1 n k x2 (x3 + 1)
          )
        )
      )
noncomputable def f_X1_ringsBelow (h : HP) (x0 : Nat) (x1 : Int32) : Option (Int32) :=
  L_X1_ringsBelow_4 h x0 x1 FU (fun x7 =>
    some x7) 0 0
abbrev rmX1_ringsBelow : Room := { frames := 2, cells := 0, slots := 0, locals := 43 }
theorem hd_X1_ringsBelow : yX1_ringsBelow.cls = RX1 ∧ yX1_ringsBelow.cls ≠ "java/lang/invoke/MethodHandle" ∧ yX1_ringsBelow.cls ≠ "java/lang/invoke/VarHandle" ∧ (parseMethodDescriptor yX1_ringsBelow.desc).map (fun d => d.parameters.length) = some 1 := by decide +kernel
set_option maxRecDepth 100000 in
set_option maxHeartbeats 4000000 in
theorem w_X1_ringsBelow_4 {p : Program} {l : Launch} {e : Env} {s : State} {m : MethodId} {args : Array Value} {below : List Frame} {meth : Method} {c : Code} {D : va_G} {ad : Nat → Nat} {cy : Nat → ClassId} (E : EE p s m args c cX1_ringsBelow 4 (wsM yX1_ringsBelow cX1_ringsBelow 4 (some .int)) RX1 D cy) (hr : meth.sig.returnType = (some .int)) (hlk : meth.locks = false) {r : Int32} (h : HP) (x0 : Nat) (x1 : Int32) : ∀ (n : Nat) (k : (Int32 → Option (Int32))) (x2 : Int32) (x3 : Int32), (∀ (x2 : Int32), k x2 = some r → JJ p l e rmX1_ringsBelow s m args below meth c 0 0 (MQ below (QV D ad cy (some (.int r)) h) args s 0 0 (Aw ad)) D ad cy (Aw ad) 4 h [(2, .int x2)] 33 []) → L_X1_ringsBelow_4 h x0 x1 n k x2 x3 = some r → JJ p l e rmX1_ringsBelow s m args below meth c 0 0 (MQ below (QV D ad cy (some (.int r)) h) args s 0 0 (Aw ad)) D ad cy (Aw ad) 4 h [(0, .ref (ad x0)), (1, .int x1), (2, .int x2), (3, .int x3)] 4 [] := by
  intro n
  induction n with
  | zero => intro k x2 x3 hk hf; cases hf
  | succ n ih =>
    intro k x2 x3 hk hf
    unfold L_X1_ringsBelow_4 at hf
    refine j_iload_n E 3 rfl dX1_ringsBelow_4 rfl ?_
    refine j_bipush (v := 16) E dX1_ringsBelow_5 (by decide) ?_
    refine j_icmp_ge (tgt := 33) E dX1_ringsBelow_7 (by decide) (fun z1 => ?_) (fun z1 => ?_)
    · have hf := ifp hf z1
      refine j_perm (lv' := [(2, .int x2)]) [2] rfl ?_
      exact hk x2 hf
    · have hf := ifn hf z1
      refine j_iload_n E 3 rfl dX1_ringsBelow_10 rfl ?_
      refine j_iload_n E 1 rfl dX1_ringsBelow_11 rfl ?_
      refine j_icmp_ge (tgt := 33) E dX1_ringsBelow_12 (by decide) (fun z2 => ?_) (fun z2 => ?_)
      · have hf := ifp hf z2
        refine j_perm (lv' := [(2, .int x2)]) [2] rfl ?_
        exact hk x2 hf
      · have hf := ifn hf z2
        refine j_aload_n E 0 rfl dX1_ringsBelow_15 rfl ?_
        refine j_iload_n E 3 rfl dX1_ringsBelow_16 rfl ?_
        obtain ⟨k3, hf⟩ := ck_spec hf
        obtain ⟨v4, e5, hf⟩ := bs hf
        refine j_callV (ci := 0) (b := x0) (As := [.int x3]) (rest := []) (v := (some (.int v4))) E (c_X1_leastOfRing l D ad cy h x0 x3 e5) (mcw E.1.2.2.2.2 uw_3_30 uw_3_35 uw_3_28 uw_3_29 uw_1_3 rfl rfl hd_X1_leastOfRing ⟨by decide, by decide⟩) rfl k3 rfl rfl (Nat.le_of_ble_eq_true rfl) dX1_ringsBelow_17 ⟨Nat.zero_le _, Nat.zero_le _⟩ ?_
        refine j_stk (st' := [.int v4]) rfl ?_
        refine j_iload_n E 3 rfl dX1_ringsBelow_20 rfl ?_
        refine j_icmp_ne (tgt := 27) E dX1_ringsBelow_21 (by decide) (fun z6 => ?_) (fun z6 => ?_)
        · have hf := ifn hf z6
          refine j_iinc (v := (x3 + 1)) (k0 := 3) (lv' := [(3, .int (x3 + 1)), (0, .ref (ad x0)), (1, .int x1), (2, .int x2)]) E dX1_ringsBelow_27 rfl (congrArg (fun z => x3 + z) (by decide)) (by decide) rfl ?_
          refine j_goto (tgt := 4) E dX1_ringsBelow_30 (by decide) ?_
          refine j_perm (lv' := [(0, .ref (ad x0)), (1, .int x1), (2, .int x2), (3, .int (x3 + 1))]) [1, 2, 3, 0] rfl ?_
          exact ih k x2 (x3 + 1) hk hf
        · have hf := ifp hf z6
          refine j_iinc (v := (x2 + 1)) (k0 := 2) (lv' := [(2, .int (x2 + 1)), (0, .ref (ad x0)), (1, .int x1), (3, .int x3)]) E dX1_ringsBelow_24 rfl (congrArg (fun z => x2 + z) (by decide)) (by decide) rfl ?_
          refine j_iinc (v := (x3 + 1)) (k0 := 3) (lv' := [(3, .int (x3 + 1)), (2, .int (x2 + 1)), (0, .ref (ad x0)), (1, .int x1)]) E dX1_ringsBelow_27 rfl (congrArg (fun z => x3 + z) (by decide)) (by decide) rfl ?_
          refine j_goto (tgt := 4) E dX1_ringsBelow_30 (by decide) ?_
          refine j_perm (lv' := [(0, .ref (ad x0)), (1, .int x1), (2, .int (x2 + 1)), (3, .int (x3 + 1))]) [2, 3, 1, 0] rfl ?_
          exact ih k (x2 + 1) (x3 + 1) hk hf
set_option maxRecDepth 100000 in
set_option maxHeartbeats 4000000 in
theorem c_X1_ringsBelow (l : Launch) (D : va_G) (ad : Nat → Nat) (cy : Nat → ClassId) (h : HP) (x0 : Nat) (x1 : Int32) {r : Int32} (hf : f_X1_ringsBelow h x0 x1 = some r) : Met l yX1_ringsBelow (wsM yX1_ringsBelow cX1_ringsBelow 4 (some .int)) rmX1_ringsBelow (va_Pc [.ref (ad x0), .int x1] (PW D ad cy h)) (QV D ad cy (some (.int r)) h) 0 0 (Aw ad) := by
  refine met_of (own := RX1) (lv := [(0, .ref (ad x0)), (1, .int x1)]) (by decide) rfl (Nat.le_of_ble_eq_true rfl) rfl (fun p e s m args below meth c E hr hlk => ?_)
  unfold f_X1_ringsBelow at hf
  refine j_iconst (v := 0) E dX1_ringsBelow_0 (by decide) ?_
  refine j_istore_n (lv' := [(2, .int 0), (0, .ref (ad x0)), (1, .int x1)]) E dX1_ringsBelow_1 rfl (by decide) rfl ?_
  refine j_iconst (v := 0) E dX1_ringsBelow_2 (by decide) ?_
  refine j_istore_n (lv' := [(3, .int 0), (2, .int 0), (0, .ref (ad x0)), (1, .int x1)]) E dX1_ringsBelow_3 rfl (by decide) rfl ?_
  refine j_perm (lv' := [(0, .ref (ad x0)), (1, .int x1), (2, .int 0), (3, .int 0)]) [2, 3, 1, 0] rfl ?_
  refine w_X1_ringsBelow_4 E hr hlk h x0 x1 FU _ 0 0 (fun x7 hf => ?_) hf
  refine j_iload_n E 0 rfl dX1_ringsBelow_33 rfl ?_
  cases hf
  exact j_iret E hr hlk dX1_ringsBelow_34
noncomputable def L_X1_leastWithoutSource_2 (h : HP) (x0 : Nat) (x1 : Int32) : Nat → (Option (Int32)) → Int32 → Option (Int32)
  | 0, _, _ => none
  | n + 1, k, x2 =>
      if 16 ≤ x2 then (
        k
      ) else (
        (f_X5_hasBit x1 x2).bind fun v2 =>
        if v2 = 0 then (
          L_X1_leastWithoutSource_2 h x0 x1 n k (x2 + 1)
        ) else (
          ck 0 h x0 <|
          (f_X1_sourcesOf h x0 x2).bind fun v6 =>
          if (v6 &&& (x1 &&& ((1 <<< (x2 &&& 31)) ^^^ (-1)))) = 0 then (
            some x2
          ) else (
            L_X1_leastWithoutSource_2 h x0 x1 n k (x2 + 1)
          )
        )
      )
noncomputable def f_X1_leastWithoutSource (h : HP) (x0 : Nat) (x1 : Int32) : Option (Int32) :=
  L_X1_leastWithoutSource_2 h x0 x1 FU (
    some (-1)) 0
abbrev rmX1_leastWithoutSource : Room := { frames := 2, cells := 0, slots := 0, locals := 44 }
theorem hd_X1_leastWithoutSource : yX1_leastWithoutSource.cls = RX1 ∧ yX1_leastWithoutSource.cls ≠ "java/lang/invoke/MethodHandle" ∧ yX1_leastWithoutSource.cls ≠ "java/lang/invoke/VarHandle" ∧ (parseMethodDescriptor yX1_leastWithoutSource.desc).map (fun d => d.parameters.length) = some 1 := by decide +kernel
set_option maxRecDepth 100000 in
set_option maxHeartbeats 4000000 in
theorem w_X1_leastWithoutSource_2 {p : Program} {l : Launch} {e : Env} {s : State} {m : MethodId} {args : Array Value} {below : List Frame} {meth : Method} {c : Code} {D : va_G} {ad : Nat → Nat} {cy : Nat → ClassId} (E : EE p s m args c cX1_leastWithoutSource 4 (wsM yX1_leastWithoutSource cX1_leastWithoutSource 4 (some .int)) RX1 D cy) (hr : meth.sig.returnType = (some .int)) (hlk : meth.locks = false) {r : Int32} (h : HP) (x0 : Nat) (x1 : Int32) : ∀ (n : Nat) (k : (Option (Int32))) (x2 : Int32), (k = some r → JJ p l e rmX1_leastWithoutSource s m args below meth c 0 0 (MQ below (QV D ad cy (some (.int r)) h) args s 0 0 (Aw ad)) D ad cy (Aw ad) 4 h [] 42 []) → L_X1_leastWithoutSource_2 h x0 x1 n k x2 = some r → JJ p l e rmX1_leastWithoutSource s m args below meth c 0 0 (MQ below (QV D ad cy (some (.int r)) h) args s 0 0 (Aw ad)) D ad cy (Aw ad) 4 h [(0, .ref (ad x0)), (1, .int x1), (2, .int x2)] 2 [] := by
  intro n
  induction n with
  | zero => intro k x2 hk hf; cases hf
  | succ n ih =>
    intro k x2 hk hf
    unfold L_X1_leastWithoutSource_2 at hf
    refine j_iload_n E 2 rfl dX1_leastWithoutSource_2 rfl ?_
    refine j_bipush (v := 16) E dX1_leastWithoutSource_3 (by decide) ?_
    refine j_icmp_ge (tgt := 42) E dX1_leastWithoutSource_5 (by decide) (fun z1 => ?_) (fun z1 => ?_)
    · have hf := ifp hf z1
      refine j_perm (lv' := []) [] rfl ?_
      exact hk hf
    · have hf := ifn hf z1
      refine j_iload_n E 1 rfl dX1_leastWithoutSource_8 rfl ?_
      refine j_iconst (v := 1) E dX1_leastWithoutSource_9 (by decide) ?_
      refine j_iload_n E 2 rfl dX1_leastWithoutSource_10 rfl ?_
      refine j_ishl E dX1_leastWithoutSource_11 ?_
      refine j_iconst (v := (-1)) E dX1_leastWithoutSource_12 (by decide) ?_
      refine j_ixor E dX1_leastWithoutSource_13 ?_
      refine j_iand E dX1_leastWithoutSource_14 ?_
      refine j_istore_n (lv' := [(3, .int (x1 &&& ((1 <<< (x2 &&& 31)) ^^^ (-1)))), (0, .ref (ad x0)), (1, .int x1), (2, .int x2)]) E dX1_leastWithoutSource_15 rfl (by decide) rfl ?_
      refine j_iload_n E 2 rfl dX1_leastWithoutSource_16 rfl ?_
      refine j_iload_n E 3 rfl dX1_leastWithoutSource_17 rfl ?_
      obtain ⟨v2, e3, hf⟩ := bs hf
      refine j_callSN (host := RX5) (As := [.int x1, .int x2]) (rest := []) (v := (some (.int v2))) E (c_X5_hasBit l D ad cy h x1 x2 e3) (mcn E.1.2.2.2.2 E.2.2 8 rfl uw_2_8 uw_2_7 uw_1_1 rfl rfl hd_X5_hasBit ⟨by decide, by decide⟩) rfl rfl (Nat.le_of_ble_eq_true rfl) dX1_leastWithoutSource_18 ⟨Nat.zero_le _, Nat.zero_le _⟩ ?_
      refine j_stk (st' := [.int v2]) rfl ?_
      refine j_if_eq (tgt := 36) E dX1_leastWithoutSource_21 (by decide) (fun z4 => ?_) (fun z4 => ?_)
      · have hf := ifp hf z4
        refine j_iinc (v := (x2 + 1)) (k0 := 3) (lv' := [(2, .int (x2 + 1)), (3, .int (x1 &&& ((1 <<< (x2 &&& 31)) ^^^ (-1)))), (0, .ref (ad x0)), (1, .int x1)]) E dX1_leastWithoutSource_36 rfl (congrArg (fun z => x2 + z) (by decide)) (by decide) rfl ?_
        refine j_goto (tgt := 2) E dX1_leastWithoutSource_39 (by decide) ?_
        refine j_perm (lv' := [(0, .ref (ad x0)), (1, .int x1), (2, .int (x2 + 1))]) [2, 3, 0] rfl ?_
        exact ih k (x2 + 1) hk hf
      · have hf := ifn hf z4
        refine j_aload_n E 1 rfl dX1_leastWithoutSource_24 rfl ?_
        refine j_iload_n E 3 rfl dX1_leastWithoutSource_25 rfl ?_
        obtain ⟨k5, hf⟩ := ck_spec hf
        obtain ⟨v6, e7, hf⟩ := bs hf
        refine j_callV (ci := 0) (b := x0) (As := [.int x2]) (rest := []) (v := (some (.int v6))) E (c_X1_sourcesOf l D ad cy h x0 x2 e7) (mcw E.1.2.2.2.2 uw_3_9 uw_3_6 uw_3_8 us_1_7 uw_1_3 rfl rfl hd_X1_sourcesOf ⟨by decide, by decide⟩) rfl k5 rfl rfl (Nat.le_of_ble_eq_true rfl) dX1_leastWithoutSource_26 ⟨Nat.zero_le _, Nat.zero_le _⟩ ?_
        refine j_stk (st' := [.int v6]) rfl ?_
        refine j_iload_n E 0 rfl dX1_leastWithoutSource_29 rfl ?_
        refine j_iand E dX1_leastWithoutSource_30 ?_
        refine j_if_ne (tgt := 36) E dX1_leastWithoutSource_31 (by decide) (fun z8 => ?_) (fun z8 => ?_)
        · have hf := ifn hf z8
          refine j_iinc (v := (x2 + 1)) (k0 := 3) (lv' := [(2, .int (x2 + 1)), (3, .int (x1 &&& ((1 <<< (x2 &&& 31)) ^^^ (-1)))), (0, .ref (ad x0)), (1, .int x1)]) E dX1_leastWithoutSource_36 rfl (congrArg (fun z => x2 + z) (by decide)) (by decide) rfl ?_
          refine j_goto (tgt := 2) E dX1_leastWithoutSource_39 (by decide) ?_
          refine j_perm (lv' := [(0, .ref (ad x0)), (1, .int x1), (2, .int (x2 + 1))]) [2, 3, 0] rfl ?_
          exact ih k (x2 + 1) hk hf
        · have hf := ifp hf z8
          refine j_iload_n E 3 rfl dX1_leastWithoutSource_34 rfl ?_
          cases hf
          exact j_iret E hr hlk dX1_leastWithoutSource_35
set_option maxRecDepth 100000 in
set_option maxHeartbeats 4000000 in
theorem c_X1_leastWithoutSource (l : Launch) (D : va_G) (ad : Nat → Nat) (cy : Nat → ClassId) (h : HP) (x0 : Nat) (x1 : Int32) {r : Int32} (hf : f_X1_leastWithoutSource h x0 x1 = some r) : Met l yX1_leastWithoutSource (wsM yX1_leastWithoutSource cX1_leastWithoutSource 4 (some .int)) rmX1_leastWithoutSource (va_Pc [.ref (ad x0), .int x1] (PW D ad cy h)) (QV D ad cy (some (.int r)) h) 0 0 (Aw ad) := by
  refine met_of (own := RX1) (lv := [(0, .ref (ad x0)), (1, .int x1)]) (by decide) rfl (Nat.le_of_ble_eq_true rfl) rfl (fun p e s m args below meth c E hr hlk => ?_)
  unfold f_X1_leastWithoutSource at hf
  refine j_iconst (v := 0) E dX1_leastWithoutSource_0 (by decide) ?_
  refine j_istore_n (lv' := [(2, .int 0), (0, .ref (ad x0)), (1, .int x1)]) E dX1_leastWithoutSource_1 rfl (by decide) rfl ?_
  refine j_perm (lv' := [(0, .ref (ad x0)), (1, .int x1), (2, .int 0)]) [1, 2, 0] rfl ?_
  refine w_X1_leastWithoutSource_2 E hr hlk h x0 x1 FU _ 0 (fun hf => ?_) hf
  refine j_iconst (v := (-1)) E dX1_leastWithoutSource_42 (by decide) ?_
  cases hf
  exact j_iret E hr hlk dX1_leastWithoutSource_43
noncomputable def f_X3_append (h : HP) (x0 : Nat) (x1 : Int32) : Option (HP) :=
  (gI 2 h x0 0).bind fun v1 =>
  (f_X5_isLine v1).bind fun v2 =>
  if v2 = 0 then (
    some h
  ) else (
    (gR 2 h x0 1).bind fun v5 =>
    (gI 2 h x0 0).bind fun v6 =>
    (sI h v5 v6 x1).bind fun h7 =>
    (gI 2 h7 x0 0).bind fun v8 =>
    (pI 2 h7 x0 0 (v8 + 1)).bind fun h9 =>
    some h9
  )
abbrev rmX3_append : Room := { frames := 1, cells := 0, slots := 0, locals := 20 }
theorem hd_X3_append : yX3_append.cls = RX3 ∧ yX3_append.cls ≠ "java/lang/invoke/MethodHandle" ∧ yX3_append.cls ≠ "java/lang/invoke/VarHandle" ∧ (parseMethodDescriptor yX3_append.desc).map (fun d => d.parameters.length) = some 1 := by decide +kernel
set_option maxRecDepth 100000 in
set_option maxHeartbeats 4000000 in
theorem c_X3_append (l : Launch) (D : va_G) (ad : Nat → Nat) (cy : Nat → ClassId) (h : HP) (x0 : Nat) (x1 : Int32) {h' : HP} (hf : f_X3_append h x0 x1 = some h') : Met l yX3_append (wsM yX3_append cX3_append 2 none) rmX3_append (va_Pc [.ref (ad x0), .int x1] (PW D ad cy h)) (QV D ad cy none h') 0 0 (Aw ad) := by
  refine met_of (own := RX3) (lv := [(0, .ref (ad x0)), (1, .int x1)]) (by decide) rfl (Nat.le_of_ble_eq_true rfl) rfl (fun p e s m args below meth c E hr hlk => ?_)
  unfold f_X3_append at hf
  refine j_aload_n E 0 rfl dX3_append_0 rfl ?_
  obtain ⟨v1, ev1, hf⟩ := bs hf
  refine j_getI (ci := 2) (k0 := 0) (T := TX3) (N := 2) E (mI inUX3) rfl (by decide) (mU uw_1_97) ev1 dX3_append_1 ?_
  obtain ⟨v2, e3, hf⟩ := bs hf
  refine j_callSN (host := RX5) (As := [.int v1]) (rest := []) (v := (some (.int v2))) E (c_X5_isLine l D ad cy h v1 e3) (mcn E.1.2.2.2.2 E.2.2 4 rfl uw_1_164 uw_1_163 uw_1_1 rfl rfl hd_X5_isLine ⟨by decide, by decide⟩) rfl rfl (Nat.le_of_ble_eq_true rfl) dX3_append_4 ⟨Nat.zero_le _, Nat.zero_le _⟩ ?_
  refine j_stk (st' := [.int v2]) rfl ?_
  refine j_if_eq (tgt := 30) E dX3_append_7 (by decide) (fun z4 => ?_) (fun z4 => ?_)
  · have hf := ifp hf z4
    cases hf
    exact j_vret E hr hlk dX3_append_30
  · have hf := ifn hf z4
    refine j_aload_n E 0 rfl dX3_append_10 rfl ?_
    obtain ⟨v5, ev5, hf⟩ := bs hf
    refine j_getR (ci := 2) (k0 := 1) (T := TX3) (N := 2) E (mI inUX3) rfl (by decide) (mU uw_1_101) ev5 dX3_append_11 ?_
    refine j_aload_n E 0 rfl dX3_append_14 rfl ?_
    obtain ⟨v6, ev6, hf⟩ := bs hf
    refine j_getI (ci := 2) (k0 := 0) (T := TX3) (N := 2) E (mI inUX3) rfl (by decide) (mU uw_1_97) ev6 dX3_append_15 ?_
    refine j_iload_n E 1 rfl dX3_append_18 rfl ?_
    obtain ⟨h7, eh7, hf⟩ := bs hf
    refine j_sI E eh7 dX3_append_19 ?_
    refine j_aload_n E 0 rfl dX3_append_20 rfl ?_
    refine j_dup E dX3_append_21 rfl ?_
    obtain ⟨v8, ev8, hf⟩ := bs hf
    refine j_getI (ci := 2) (k0 := 0) (T := TX3) (N := 2) E (mI inUX3) rfl (by decide) (mU uw_1_97) ev8 dX3_append_22 ?_
    refine j_iconst (v := 1) E dX3_append_25 (by decide) ?_
    refine j_iadd E dX3_append_26 ?_
    obtain ⟨h9, eh9, hf⟩ := bs hf
    refine j_putI (ci := 2) (k0 := 0) (T := TX3) (N := 2) E (mI inUX3) rfl (by decide) (mU uw_1_97) tyX3 tyX3_ok nmX3 rfl (by decide +kernel) eh9 dX3_append_27 ?_
    cases hf
    exact j_vret E hr hlk dX3_append_30
noncomputable def f_X3_clear (h : HP) (x0 : Nat) : Option (HP) :=
  (pI 2 h x0 0 0).bind fun h1 =>
  some h1
abbrev rmX3_clear : Room := { frames := 0, cells := 0, slots := 0, locals := 0 }
theorem hd_X3_clear : yX3_clear.cls = RX3 ∧ yX3_clear.cls ≠ "java/lang/invoke/MethodHandle" ∧ yX3_clear.cls ≠ "java/lang/invoke/VarHandle" ∧ (parseMethodDescriptor yX3_clear.desc).map (fun d => d.parameters.length) = some 0 := by decide +kernel
set_option maxRecDepth 100000 in
set_option maxHeartbeats 4000000 in
theorem c_X3_clear (l : Launch) (D : va_G) (ad : Nat → Nat) (cy : Nat → ClassId) (h : HP) (x0 : Nat) {h' : HP} (hf : f_X3_clear h x0 = some h') : Met l yX3_clear (wsM yX3_clear cX3_clear 1 none) rmX3_clear (va_Pc [.ref (ad x0)] (PW D ad cy h)) (QV D ad cy none h') 0 0 (Aw ad) := by
  refine met_of (own := RX3) (lv := [(0, .ref (ad x0))]) (by decide) rfl (Nat.le_of_ble_eq_true rfl) rfl (fun p e s m args below meth c E hr hlk => ?_)
  unfold f_X3_clear at hf
  refine j_aload_n E 0 rfl dX3_clear_0 rfl ?_
  refine j_iconst (v := 0) E dX3_clear_1 (by decide) ?_
  obtain ⟨h1, eh1, hf⟩ := bs hf
  refine j_putI (ci := 2) (k0 := 0) (T := TX3) (N := 2) E (mI inUX3) rfl (by decide) (mU uw_1_97) tyX3 tyX3_ok nmX3 rfl (by decide +kernel) eh1 dX3_clear_2 ?_
  cases hf
  exact j_vret E hr hlk dX3_clear_5
noncomputable def L_X1_sortInto_11 (x0 : Nat) (x1 : Nat) : Nat → (HP → Option (HP × Int32)) → HP → Int32 → Int32 → Option (HP × Int32)
  | 0, _, _, _, _ => none
  | n + 1, k, h, x2, x3 =>
      if 16 ≤ x3 then (
        k h
      ) else (
        (gI 0 h x0 0).bind fun v8 =>
        if v8 ≤ x3 then (
          k h
        ) else (
          ck 0 h x0 <|
          (f_X1_leastWithoutSource h x0 x2).bind fun v11 =>
          if 0 ≤ v11 then (
            ck 2 h x1 <|
            (f_X3_append h x1 v11).bind fun h15 =>
            L_X1_sortInto_11 x0 x1 n k h15 (x2 &&& ((1 <<< (v11 &&& 31)) ^^^ (-1))) (x3 + 1)
          ) else (
            some (h, 0)
          )
        )
      )
noncomputable def f_X1_sortInto (h : HP) (x0 : Nat) (x1 : Nat) : Option (HP × Int32) :=
  ck 2 h x1 <|
  (f_X3_clear h x1).bind fun h2 =>
  ck 0 h2 x0 <|
  (f_X1_allNodes h2 x0).bind fun v5 =>
  L_X1_sortInto_11 x0 x1 FU (fun h17 =>
    some (h17, 1)) h2 v5 0
abbrev rmX1_sortInto : Room := { frames := 3, cells := 0, slots := 0, locals := 67 }
theorem hd_X1_sortInto : yX1_sortInto.cls = RX1 ∧ yX1_sortInto.cls ≠ "java/lang/invoke/MethodHandle" ∧ yX1_sortInto.cls ≠ "java/lang/invoke/VarHandle" ∧ (parseMethodDescriptor yX1_sortInto.desc).map (fun d => d.parameters.length) = some 1 := by decide +kernel
set_option maxRecDepth 100000 in
set_option maxHeartbeats 4000000 in
theorem w_X1_sortInto_11 {p : Program} {l : Launch} {e : Env} {s : State} {m : MethodId} {args : Array Value} {below : List Frame} {meth : Method} {c : Code} {D : va_G} {ad : Nat → Nat} {cy : Nat → ClassId} (E : EE p s m args c cX1_sortInto 5 (wsM yX1_sortInto cX1_sortInto 5 (some .boolean)) RX1 D cy) (hr : meth.sig.returnType = (some .boolean)) (hlk : meth.locks = false) {h' : HP} {r : Int32} (x0 : Nat) (x1 : Nat) : ∀ (n : Nat) (k : (HP → Option (HP × Int32))) (h : HP) (x2 : Int32) (x3 : Int32), (∀ (h : HP), k h = some (h', r) → JJ p l e rmX1_sortInto s m args below meth c 0 0 (MQ below (QV D ad cy (some (.int r)) h') args s 0 0 (Aw ad)) D ad cy (Aw ad) 5 h [] 60 []) → L_X1_sortInto_11 x0 x1 n k h x2 x3 = some (h', r) → JJ p l e rmX1_sortInto s m args below meth c 0 0 (MQ below (QV D ad cy (some (.int r)) h') args s 0 0 (Aw ad)) D ad cy (Aw ad) 5 h [(0, .ref (ad x0)), (1, .ref (ad x1)), (2, .int x2), (3, .int x3)] 11 [] := by
  intro n
  induction n with
  | zero => intro k h x2 x3 hk hf; cases hf
  | succ n ih =>
    intro k h x2 x3 hk hf
    unfold L_X1_sortInto_11 at hf
    refine j_iload_n E 3 rfl dX1_sortInto_11 rfl ?_
    refine j_bipush (v := 16) E dX1_sortInto_12 (by decide) ?_
    refine j_icmp_ge (tgt := 60) E dX1_sortInto_14 (by decide) (fun z7 => ?_) (fun z7 => ?_)
    · have hf := ifp hf z7
      refine j_perm (lv' := []) [] rfl ?_
      exact hk h hf
    · have hf := ifn hf z7
      refine j_iload_n E 3 rfl dX1_sortInto_17 rfl ?_
      refine j_aload_n E 0 rfl dX1_sortInto_18 rfl ?_
      obtain ⟨v8, ev8, hf⟩ := bs hf
      refine j_getI (ci := 0) (k0 := 0) (T := TX1) (N := 6) E (mI inUX1) rfl (by decide) (mU uw_1_49) ev8 dX1_sortInto_19 ?_
      refine j_icmp_ge (tgt := 60) E dX1_sortInto_22 (by decide) (fun z9 => ?_) (fun z9 => ?_)
      · have hf := ifp hf z9
        refine j_perm (lv' := []) [] rfl ?_
        exact hk h hf
      · have hf := ifn hf z9
        refine j_aload_n E 0 rfl dX1_sortInto_25 rfl ?_
        refine j_iload_n E 2 rfl dX1_sortInto_26 rfl ?_
        obtain ⟨k10, hf⟩ := ck_spec hf
        obtain ⟨v11, e12, hf⟩ := bs hf
        refine j_callV (ci := 0) (b := x0) (As := [.int x2]) (rest := []) (v := (some (.int v11))) E (c_X1_leastWithoutSource l D ad cy h x0 x2 e12) (mcw E.1.2.2.2.2 uw_3_53 uw_3_50 uw_3_52 us_1_10 uw_1_3 rfl rfl hd_X1_leastWithoutSource ⟨by decide, by decide⟩) rfl k10 rfl rfl (Nat.le_of_ble_eq_true rfl) dX1_sortInto_27 ⟨Nat.zero_le _, Nat.zero_le _⟩ ?_
        refine j_stk (st' := [.int v11]) rfl ?_
        refine j_istore (lv' := [(4, .int v11), (0, .ref (ad x0)), (1, .ref (ad x1)), (2, .int x2), (3, .int x3)]) E dX1_sortInto_30 (by decide) rfl ?_
        refine j_iload E 0 rfl dX1_sortInto_32 ?_
        refine j_if_ge (tgt := 39) E dX1_sortInto_34 (by decide) (fun z13 => ?_) (fun z13 => ?_)
        · have hf := ifp hf z13
          refine j_aload_n E 2 rfl dX1_sortInto_39 rfl ?_
          refine j_iload E 0 rfl dX1_sortInto_40 ?_
          obtain ⟨k14, hf⟩ := ck_spec hf
          obtain ⟨h15, e16, hf⟩ := bs hf
          refine j_callV (ci := 2) (b := x1) (As := [.int v11]) (rest := []) (v := none) E (c_X3_append l D ad cy h x1 v11 e16) (mcw E.1.2.2.2.2 uw_1_176 uw_3_54 uw_1_174 uw_1_175 uw_1_5 rfl rfl hd_X3_append ⟨by decide, by decide⟩) rfl k14 rfl rfl (Nat.le_of_ble_eq_true rfl) dX1_sortInto_42 ⟨Nat.zero_le _, Nat.zero_le _⟩ ?_
          refine j_stk (st' := []) rfl ?_
          refine j_iload_n E 3 rfl dX1_sortInto_45 rfl ?_
          refine j_iconst (v := 1) E dX1_sortInto_46 (by decide) ?_
          refine j_iload E 0 rfl dX1_sortInto_47 ?_
          refine j_ishl E dX1_sortInto_49 ?_
          refine j_iconst (v := (-1)) E dX1_sortInto_50 (by decide) ?_
          refine j_ixor E dX1_sortInto_51 ?_
          refine j_iand E dX1_sortInto_52 ?_
          refine j_istore_n (lv' := [(2, .int (x2 &&& ((1 <<< (v11 &&& 31)) ^^^ (-1)))), (4, .int v11), (0, .ref (ad x0)), (1, .ref (ad x1)), (3, .int x3)]) E dX1_sortInto_53 rfl (by decide) rfl ?_
          refine j_iinc (v := (x3 + 1)) (k0 := 4) (lv' := [(3, .int (x3 + 1)), (2, .int (x2 &&& ((1 <<< (v11 &&& 31)) ^^^ (-1)))), (4, .int v11), (0, .ref (ad x0)), (1, .ref (ad x1))]) E dX1_sortInto_54 rfl (congrArg (fun z => x3 + z) (by decide)) (by decide) rfl ?_
          refine j_goto (tgt := 11) E dX1_sortInto_57 (by decide) ?_
          refine j_perm (lv' := [(0, .ref (ad x0)), (1, .ref (ad x1)), (2, .int (x2 &&& ((1 <<< (v11 &&& 31)) ^^^ (-1)))), (3, .int (x3 + 1))]) [3, 4, 1, 0] rfl ?_
          exact ih k h15 (x2 &&& ((1 <<< (v11 &&& 31)) ^^^ (-1))) (x3 + 1) hk hf
        · have hf := ifn hf z13
          refine j_iconst (v := 0) E dX1_sortInto_37 (by decide) ?_
          cases hf
          exact j_zret E hr hlk rfl dX1_sortInto_38
set_option maxRecDepth 100000 in
set_option maxHeartbeats 4000000 in
theorem c_X1_sortInto (l : Launch) (D : va_G) (ad : Nat → Nat) (cy : Nat → ClassId) (h : HP) (x0 : Nat) (x1 : Nat) {h' : HP} {r : Int32} (hf : f_X1_sortInto h x0 x1 = some (h', r)) : Met l yX1_sortInto (wsM yX1_sortInto cX1_sortInto 5 (some .boolean)) rmX1_sortInto (va_Pc [.ref (ad x0), .ref (ad x1)] (PW D ad cy h)) (QV D ad cy (some (.int r)) h') 0 0 (Aw ad) := by
  refine met_of (own := RX1) (lv := [(0, .ref (ad x0)), (1, .ref (ad x1))]) (by decide) rfl (Nat.le_of_ble_eq_true rfl) rfl (fun p e s m args below meth c E hr hlk => ?_)
  unfold f_X1_sortInto at hf
  refine j_aload_n E 1 rfl dX1_sortInto_0 rfl ?_
  obtain ⟨k1, hf⟩ := ck_spec hf
  obtain ⟨h2, e3, hf⟩ := bs hf
  refine j_callV (ci := 2) (b := x1) (As := []) (rest := []) (v := none) E (c_X3_clear l D ad cy h x1 e3) (mcw E.1.2.2.2.2 uw_2_123 uw_3_44 uw_2_121 uw_2_122 uw_1_5 rfl rfl hd_X3_clear ⟨by decide, by decide⟩) rfl k1 rfl rfl (Nat.le_of_ble_eq_true rfl) dX1_sortInto_1 ⟨Nat.zero_le _, Nat.zero_le _⟩ ?_
  refine j_stk (st' := []) rfl ?_
  refine j_aload_n E 0 rfl dX1_sortInto_4 rfl ?_
  obtain ⟨k4, hf⟩ := ck_spec hf
  obtain ⟨v5, e6, hf⟩ := bs hf
  refine j_callV (ci := 0) (b := x0) (As := []) (rest := []) (v := (some (.int v5))) E (c_X1_allNodes l D ad cy h2 x0 e6) (mcw E.1.2.2.2.2 uw_3_48 uw_3_45 uw_3_47 us_1_9 uw_1_3 rfl rfl hd_X1_allNodes ⟨by decide, by decide⟩) rfl k4 rfl rfl (Nat.le_of_ble_eq_true rfl) dX1_sortInto_5 ⟨Nat.zero_le _, Nat.zero_le _⟩ ?_
  refine j_stk (st' := [.int v5]) rfl ?_
  refine j_istore_n (lv' := [(2, .int v5), (0, .ref (ad x0)), (1, .ref (ad x1))]) E dX1_sortInto_8 rfl (by decide) rfl ?_
  refine j_iconst (v := 0) E dX1_sortInto_9 (by decide) ?_
  refine j_istore_n (lv' := [(3, .int 0), (2, .int v5), (0, .ref (ad x0)), (1, .ref (ad x1))]) E dX1_sortInto_10 rfl (by decide) rfl ?_
  refine j_perm (lv' := [(0, .ref (ad x0)), (1, .ref (ad x1)), (2, .int v5), (3, .int 0)]) [2, 3, 1, 0] rfl ?_
  refine w_X1_sortInto_11 E hr hlk x0 x1 FU _ h2 v5 0 (fun h17 hf => ?_) hf
  refine j_iconst (v := 1) E dX1_sortInto_60 (by decide) ?_
  cases hf
  exact j_zret E hr hlk rfl dX1_sortInto_61
noncomputable def L_X1_moveFewest_10 (h : HP) (x0 : Nat) (x1 : Int32) : Nat → (Int32 → Option (HP × Int32)) → Int32 → Int32 → Int32 → Option (HP × Int32)
  | 0, _, _, _, _ => none
  | n + 1, k, x4, x5, x6 =>
      if 16 ≤ x6 then (
        k x4
      ) else (
        (gR 0 h x0 2).bind fun v2 =>
        (aI h v2 x6).bind fun v3 =>
        (f_J6_bitCount_0f7a4 v3).bind fun v4 =>
        (f_X5_hasBit x1 x6).bind fun v6 =>
        if v6 = 0 then (
          L_X1_moveFewest_10 h x0 x1 n k x4 x5 (x6 + 1)
        ) else (
          if x5 ≤ v4 then (
            L_X1_moveFewest_10 h x0 x1 n k x4 x5 (x6 + 1)
          ) else (
            L_X1_moveFewest_10 h x0 x1 n k x6 v4 (x6 + 1)
          )
        )
      )
noncomputable def f_X1_moveFewest (h : HP) (x0 : Nat) (x1 : Int32) (x2 : Int32) (x3 : Nat) : Option (HP × Int32) :=
  L_X1_moveFewest_10 h x0 x1 FU (fun x10 =>
    if 0 ≤ x10 then (
      ck 2 h x3 <|
      (f_X3_append h x3 x10).bind fun h13 =>
      some (h13, (x2 &&& ((1 <<< (x10 &&& 31)) ^^^ (-1))))
    ) else (
      some (h, x2)
    )) (-1) 16 0
abbrev rmX1_moveFewest : Room := { frames := 2, cells := 0, slots := 0, locals := 41 }
theorem hd_X1_moveFewest : yX1_moveFewest.cls = RX1 ∧ yX1_moveFewest.cls ≠ "java/lang/invoke/MethodHandle" ∧ yX1_moveFewest.cls ≠ "java/lang/invoke/VarHandle" ∧ (parseMethodDescriptor yX1_moveFewest.desc).map (fun d => d.parameters.length) = some 3 := by decide +kernel
set_option maxRecDepth 100000 in
set_option maxHeartbeats 4000000 in
theorem w_X1_moveFewest_10 {p : Program} {l : Launch} {e : Env} {s : State} {m : MethodId} {args : Array Value} {below : List Frame} {meth : Method} {c : Code} {D : va_G} {ad : Nat → Nat} {cy : Nat → ClassId} (E : EE p s m args c cX1_moveFewest 8 (wsM yX1_moveFewest cX1_moveFewest 8 (some .int)) RX1 D cy) (hr : meth.sig.returnType = (some .int)) (hlk : meth.locks = false) {h' : HP} {r : Int32} (h : HP) (x0 : Nat) (x1 : Int32) (x2 : Int32) (x3 : Nat) : ∀ (n : Nat) (k : (Int32 → Option (HP × Int32))) (x4 : Int32) (x5 : Int32) (x6 : Int32), (∀ (x4 : Int32), k x4 = some (h', r) → JJ p l e rmX1_moveFewest s m args below meth c 0 0 (MQ below (QV D ad cy (some (.int r)) h') args s 0 0 (Aw ad)) D ad cy (Aw ad) 8 h [(2, .int x2), (3, .ref (ad x3)), (4, .int x4)] 59 []) → L_X1_moveFewest_10 h x0 x1 n k x4 x5 x6 = some (h', r) → JJ p l e rmX1_moveFewest s m args below meth c 0 0 (MQ below (QV D ad cy (some (.int r)) h') args s 0 0 (Aw ad)) D ad cy (Aw ad) 8 h [(0, .ref (ad x0)), (1, .int x1), (2, .int x2), (3, .ref (ad x3)), (4, .int x4), (5, .int x5), (6, .int x6)] 10 [] := by
  intro n
  induction n with
  | zero => intro k x4 x5 x6 hk hf; cases hf
  | succ n ih =>
    intro k x4 x5 x6 hk hf
    unfold L_X1_moveFewest_10 at hf
    refine j_iload E 6 rfl dX1_moveFewest_10 ?_
    refine j_bipush (v := 16) E dX1_moveFewest_12 (by decide) ?_
    refine j_icmp_ge (tgt := 59) E dX1_moveFewest_14 (by decide) (fun z1 => ?_) (fun z1 => ?_)
    · have hf := ifp hf z1
      refine j_perm (lv' := [(2, .int x2), (3, .ref (ad x3)), (4, .int x4)]) [2, 3, 4] rfl ?_
      exact hk x4 hf
    · have hf := ifn hf z1
      refine j_aload_n E 0 rfl dX1_moveFewest_17 rfl ?_
      obtain ⟨v2, ev2, hf⟩ := bs hf
      refine j_getR (ci := 0) (k0 := 2) (T := TX1) (N := 6) E (mI inUX1) rfl (by decide) (mU uw_1_51) ev2 dX1_moveFewest_18 ?_
      refine j_iload E 6 rfl dX1_moveFewest_21 ?_
      obtain ⟨v3, ev3, hf⟩ := bs hf
      refine j_aI E ev3 dX1_moveFewest_23 ?_
      obtain ⟨v4, e5, hf⟩ := bs hf
      refine j_callS (As := [.int v3]) (rest := []) (v := (some (.int v4))) E (c_J6_bitCount_0f7a4 l D ad cy h v3 e5) (mcs E.1.2.2.2.2 uw_1_154 uw_3_71 uw_1_153 uw_1_7 rfl rfl hd_J6_bitCount_0f7a4 ⟨by decide, by decide⟩) rfl rfl (Nat.le_of_ble_eq_true rfl) dX1_moveFewest_24 ⟨Nat.zero_le _, Nat.zero_le _⟩ ?_
      refine j_stk (st' := [.int v4]) rfl ?_
      refine j_istore (lv' := [(7, .int v4), (0, .ref (ad x0)), (1, .int x1), (2, .int x2), (3, .ref (ad x3)), (4, .int x4), (5, .int x5), (6, .int x6)]) E dX1_moveFewest_27 (by decide) rfl ?_
      refine j_iload_n E 2 rfl dX1_moveFewest_29 rfl ?_
      refine j_iload E 7 rfl dX1_moveFewest_30 ?_
      obtain ⟨v6, e7, hf⟩ := bs hf
      refine j_callSN (host := RX5) (As := [.int x1, .int x6]) (rest := []) (v := (some (.int v6))) E (c_X5_hasBit l D ad cy h x1 x6 e7) (mcn E.1.2.2.2.2 E.2.2 8 rfl uw_2_8 uw_2_7 uw_1_1 rfl rfl hd_X5_hasBit ⟨by decide, by decide⟩) rfl rfl (Nat.le_of_ble_eq_true rfl) dX1_moveFewest_32 ⟨Nat.zero_le _, Nat.zero_le _⟩ ?_
      refine j_stk (st' := [.int v6]) rfl ?_
      refine j_if_eq (tgt := 53) E dX1_moveFewest_35 (by decide) (fun z8 => ?_) (fun z8 => ?_)
      · have hf := ifp hf z8
        refine j_iinc (v := (x6 + 1)) (k0 := 7) (lv' := [(6, .int (x6 + 1)), (7, .int v4), (0, .ref (ad x0)), (1, .int x1), (2, .int x2), (3, .ref (ad x3)), (4, .int x4), (5, .int x5)]) E dX1_moveFewest_53 rfl (congrArg (fun z => x6 + z) (by decide)) (by decide) rfl ?_
        refine j_goto (tgt := 10) E dX1_moveFewest_56 (by decide) ?_
        refine j_perm (lv' := [(0, .ref (ad x0)), (1, .int x1), (2, .int x2), (3, .ref (ad x3)), (4, .int x4), (5, .int x5), (6, .int (x6 + 1))]) [2, 3, 4, 5, 6, 7, 0] rfl ?_
        exact ih k x4 x5 (x6 + 1) hk hf
      · have hf := ifn hf z8
        refine j_iload E 0 rfl dX1_moveFewest_38 ?_
        refine j_iload E 6 rfl dX1_moveFewest_40 ?_
        refine j_icmp_ge (tgt := 53) E dX1_moveFewest_42 (by decide) (fun z9 => ?_) (fun z9 => ?_)
        · have hf := ifp hf z9
          refine j_iinc (v := (x6 + 1)) (k0 := 7) (lv' := [(6, .int (x6 + 1)), (7, .int v4), (0, .ref (ad x0)), (1, .int x1), (2, .int x2), (3, .ref (ad x3)), (4, .int x4), (5, .int x5)]) E dX1_moveFewest_53 rfl (congrArg (fun z => x6 + z) (by decide)) (by decide) rfl ?_
          refine j_goto (tgt := 10) E dX1_moveFewest_56 (by decide) ?_
          refine j_perm (lv' := [(0, .ref (ad x0)), (1, .int x1), (2, .int x2), (3, .ref (ad x3)), (4, .int x4), (5, .int x5), (6, .int (x6 + 1))]) [2, 3, 4, 5, 6, 7, 0] rfl ?_
          exact ih k x4 x5 (x6 + 1) hk hf
        · have hf := ifn hf z9
          refine j_iload E 7 rfl dX1_moveFewest_45 ?_
          refine j_istore (lv' := [(4, .int x6), (7, .int v4), (0, .ref (ad x0)), (1, .int x1), (2, .int x2), (3, .ref (ad x3)), (5, .int x5), (6, .int x6)]) E dX1_moveFewest_47 (by decide) rfl ?_
          refine j_iload E 1 rfl dX1_moveFewest_49 ?_
          refine j_istore (lv' := [(5, .int v4), (4, .int x6), (7, .int v4), (0, .ref (ad x0)), (1, .int x1), (2, .int x2), (3, .ref (ad x3)), (6, .int x6)]) E dX1_moveFewest_51 (by decide) rfl ?_
          refine j_iinc (v := (x6 + 1)) (k0 := 7) (lv' := [(6, .int (x6 + 1)), (5, .int v4), (4, .int x6), (7, .int v4), (0, .ref (ad x0)), (1, .int x1), (2, .int x2), (3, .ref (ad x3))]) E dX1_moveFewest_53 rfl (congrArg (fun z => x6 + z) (by decide)) (by decide) rfl ?_
          refine j_goto (tgt := 10) E dX1_moveFewest_56 (by decide) ?_
          refine j_perm (lv' := [(0, .ref (ad x0)), (1, .int x1), (2, .int x2), (3, .ref (ad x3)), (4, .int x6), (5, .int v4), (6, .int (x6 + 1))]) [4, 5, 6, 7, 2, 1, 0] rfl ?_
          exact ih k x6 v4 (x6 + 1) hk hf
set_option maxRecDepth 100000 in
set_option maxHeartbeats 4000000 in
theorem c_X1_moveFewest (l : Launch) (D : va_G) (ad : Nat → Nat) (cy : Nat → ClassId) (h : HP) (x0 : Nat) (x1 : Int32) (x2 : Int32) (x3 : Nat) {h' : HP} {r : Int32} (hf : f_X1_moveFewest h x0 x1 x2 x3 = some (h', r)) : Met l yX1_moveFewest (wsM yX1_moveFewest cX1_moveFewest 8 (some .int)) rmX1_moveFewest (va_Pc [.ref (ad x0), .int x1, .int x2, .ref (ad x3)] (PW D ad cy h)) (QV D ad cy (some (.int r)) h') 0 0 (Aw ad) := by
  refine met_of (own := RX1) (lv := [(0, .ref (ad x0)), (1, .int x1), (2, .int x2), (3, .ref (ad x3))]) (by decide) rfl (Nat.le_of_ble_eq_true rfl) rfl (fun p e s m args below meth c E hr hlk => ?_)
  unfold f_X1_moveFewest at hf
  refine j_iconst (v := (-1)) E dX1_moveFewest_0 (by decide) ?_
  refine j_istore (lv' := [(4, .int (-1)), (0, .ref (ad x0)), (1, .int x1), (2, .int x2), (3, .ref (ad x3))]) E dX1_moveFewest_1 (by decide) rfl ?_
  refine j_bipush (v := 16) E dX1_moveFewest_3 (by decide) ?_
  refine j_istore (lv' := [(5, .int 16), (4, .int (-1)), (0, .ref (ad x0)), (1, .int x1), (2, .int x2), (3, .ref (ad x3))]) E dX1_moveFewest_5 (by decide) rfl ?_
  refine j_iconst (v := 0) E dX1_moveFewest_7 (by decide) ?_
  refine j_istore (lv' := [(6, .int 0), (5, .int 16), (4, .int (-1)), (0, .ref (ad x0)), (1, .int x1), (2, .int x2), (3, .ref (ad x3))]) E dX1_moveFewest_8 (by decide) rfl ?_
  refine j_perm (lv' := [(0, .ref (ad x0)), (1, .int x1), (2, .int x2), (3, .ref (ad x3)), (4, .int (-1)), (5, .int 16), (6, .int 0)]) [3, 4, 5, 6, 2, 1, 0] rfl ?_
  refine w_X1_moveFewest_10 E hr hlk h x0 x1 x2 x3 FU _ (-1) 16 0 (fun x10 hf => ?_) hf
  refine j_iload E 2 rfl dX1_moveFewest_59 ?_
  refine j_if_ge (tgt := 66) E dX1_moveFewest_61 (by decide) (fun z11 => ?_) (fun z11 => ?_)
  · have hf := ifp hf z11
    refine j_aload_n E 1 rfl dX1_moveFewest_66 rfl ?_
    refine j_iload E 2 rfl dX1_moveFewest_67 ?_
    obtain ⟨k12, hf⟩ := ck_spec hf
    obtain ⟨h13, e14, hf⟩ := bs hf
    refine j_callV (ci := 2) (b := x3) (As := [.int x10]) (rest := []) (v := none) E (c_X3_append l D ad cy h x3 x10 e14) (mcw E.1.2.2.2.2 uw_1_176 uw_3_54 uw_1_174 uw_1_175 uw_1_5 rfl rfl hd_X3_append ⟨by decide, by decide⟩) rfl k12 rfl rfl (Nat.le_of_ble_eq_true rfl) dX1_moveFewest_69 ⟨Nat.zero_le _, Nat.zero_le _⟩ ?_
    refine j_stk (st' := []) rfl ?_
    refine j_iload_n E 0 rfl dX1_moveFewest_72 rfl ?_
    refine j_iconst (v := 1) E dX1_moveFewest_73 (by decide) ?_
    refine j_iload E 2 rfl dX1_moveFewest_74 ?_
    refine j_ishl E dX1_moveFewest_76 ?_
    refine j_iconst (v := (-1)) E dX1_moveFewest_77 (by decide) ?_
    refine j_ixor E dX1_moveFewest_78 ?_
    refine j_iand E dX1_moveFewest_79 ?_
    cases hf
    exact j_iret E hr hlk dX1_moveFewest_80
  · have hf := ifn hf z11
    refine j_iload_n E 0 rfl dX1_moveFewest_64 rfl ?_
    cases hf
    exact j_iret E hr hlk dX1_moveFewest_65
noncomputable def L_X1_moveAll_6 (x0 : Nat) (x1 : Int32) (x3 : Nat) : Nat → (HP → Int32 → Option (HP × Int32)) → HP → Int32 → Int32 → Option (HP × Int32)
  | 0, _, _, _, _ => none
  | n + 1, k, h, x4, x5 =>
      if 16 ≤ x5 then (
        k h x4
      ) else (
        if (x1 &&& x4) = 0 then (
          k h x4
        ) else (
          ck 0 h x0 <|
          (f_X1_moveFewest h x0 (x1 &&& x4) x4 x3).bind fun (h4, v5) =>
          L_X1_moveAll_6 x0 x1 x3 n k h4 v5 (x5 + 1)
        )
      )
noncomputable def f_X1_moveAll (h : HP) (x0 : Nat) (x1 : Int32) (x2 : Int32) (x3 : Nat) : Option (HP × Int32) :=
  L_X1_moveAll_6 x0 x1 x3 FU (fun h7 x8 =>
    some (h7, x8)) h x2 0
abbrev rmX1_moveAll : Room := { frames := 3, cells := 0, slots := 0, locals := 68 }
theorem hd_X1_moveAll : yX1_moveAll.cls = RX1 ∧ yX1_moveAll.cls ≠ "java/lang/invoke/MethodHandle" ∧ yX1_moveAll.cls ≠ "java/lang/invoke/VarHandle" ∧ (parseMethodDescriptor yX1_moveAll.desc).map (fun d => d.parameters.length) = some 3 := by decide +kernel
set_option maxRecDepth 100000 in
set_option maxHeartbeats 4000000 in
theorem w_X1_moveAll_6 {p : Program} {l : Launch} {e : Env} {s : State} {m : MethodId} {args : Array Value} {below : List Frame} {meth : Method} {c : Code} {D : va_G} {ad : Nat → Nat} {cy : Nat → ClassId} (E : EE p s m args c cX1_moveAll 6 (wsM yX1_moveAll cX1_moveAll 6 (some .int)) RX1 D cy) (hr : meth.sig.returnType = (some .int)) (hlk : meth.locks = false) {h' : HP} {r : Int32} (x0 : Nat) (x1 : Int32) (x3 : Nat) : ∀ (n : Nat) (k : (HP → Int32 → Option (HP × Int32))) (h : HP) (x4 : Int32) (x5 : Int32), (∀ (h : HP) (x4 : Int32), k h x4 = some (h', r) → JJ p l e rmX1_moveAll s m args below meth c 0 0 (MQ below (QV D ad cy (some (.int r)) h') args s 0 0 (Aw ad)) D ad cy (Aw ad) 6 h [(4, .int x4)] 39 []) → L_X1_moveAll_6 x0 x1 x3 n k h x4 x5 = some (h', r) → JJ p l e rmX1_moveAll s m args below meth c 0 0 (MQ below (QV D ad cy (some (.int r)) h') args s 0 0 (Aw ad)) D ad cy (Aw ad) 6 h [(0, .ref (ad x0)), (1, .int x1), (3, .ref (ad x3)), (4, .int x4), (5, .int x5)] 6 [] := by
  intro n
  induction n with
  | zero => intro k h x4 x5 hk hf; cases hf
  | succ n ih =>
    intro k h x4 x5 hk hf
    unfold L_X1_moveAll_6 at hf
    refine j_iload E 4 rfl dX1_moveAll_6 ?_
    refine j_bipush (v := 16) E dX1_moveAll_8 (by decide) ?_
    refine j_icmp_ge (tgt := 39) E dX1_moveAll_10 (by decide) (fun z1 => ?_) (fun z1 => ?_)
    · have hf := ifp hf z1
      refine j_perm (lv' := [(4, .int x4)]) [3] rfl ?_
      exact hk h x4 hf
    · have hf := ifn hf z1
      refine j_iload_n E 1 rfl dX1_moveAll_13 rfl ?_
      refine j_iload E 3 rfl dX1_moveAll_14 ?_
      refine j_iand E dX1_moveAll_16 ?_
      refine j_if_eq (tgt := 39) E dX1_moveAll_17 (by decide) (fun z2 => ?_) (fun z2 => ?_)
      · have hf := ifp hf z2
        refine j_perm (lv' := [(4, .int x4)]) [3] rfl ?_
        exact hk h x4 hf
      · have hf := ifn hf z2
        refine j_aload_n E 0 rfl dX1_moveAll_20 rfl ?_
        refine j_iload_n E 1 rfl dX1_moveAll_21 rfl ?_
        refine j_iload E 3 rfl dX1_moveAll_22 ?_
        refine j_iand E dX1_moveAll_24 ?_
        refine j_iload E 3 rfl dX1_moveAll_25 ?_
        refine j_aload_n E 2 rfl dX1_moveAll_27 rfl ?_
        obtain ⟨k3, hf⟩ := ck_spec hf
        obtain ⟨⟨h4, v5⟩, e6, hf⟩ := bs hf
        refine j_callV (ci := 0) (b := x0) (As := [.int (x1 &&& x4), .int x4, .ref (ad x3)]) (rest := []) (v := (some (.int v5))) E (c_X1_moveFewest l D ad cy h x0 (x1 &&& x4) x4 x3 e6) (mcw E.1.2.2.2.2 uw_3_70 uw_3_67 uw_3_69 us_1_12 uw_1_3 rfl rfl hd_X1_moveFewest ⟨by decide, by decide⟩) rfl k3 rfl rfl (Nat.le_of_ble_eq_true rfl) dX1_moveAll_28 ⟨Nat.zero_le _, Nat.zero_le _⟩ ?_
        refine j_stk (st' := [.int v5]) rfl ?_
        refine j_istore (lv' := [(4, .int v5), (0, .ref (ad x0)), (1, .int x1), (3, .ref (ad x3)), (5, .int x5)]) E dX1_moveAll_31 (by decide) rfl ?_
        refine j_iinc (v := (x5 + 1)) (k0 := 4) (lv' := [(5, .int (x5 + 1)), (4, .int v5), (0, .ref (ad x0)), (1, .int x1), (3, .ref (ad x3))]) E dX1_moveAll_33 rfl (congrArg (fun z => x5 + z) (by decide)) (by decide) rfl ?_
        refine j_goto (tgt := 6) E dX1_moveAll_36 (by decide) ?_
        refine j_perm (lv' := [(0, .ref (ad x0)), (1, .int x1), (3, .ref (ad x3)), (4, .int v5), (5, .int (x5 + 1))]) [2, 3, 4, 1, 0] rfl ?_
        exact ih k h4 v5 (x5 + 1) hk hf
set_option maxRecDepth 100000 in
set_option maxHeartbeats 4000000 in
theorem c_X1_moveAll (l : Launch) (D : va_G) (ad : Nat → Nat) (cy : Nat → ClassId) (h : HP) (x0 : Nat) (x1 : Int32) (x2 : Int32) (x3 : Nat) {h' : HP} {r : Int32} (hf : f_X1_moveAll h x0 x1 x2 x3 = some (h', r)) : Met l yX1_moveAll (wsM yX1_moveAll cX1_moveAll 6 (some .int)) rmX1_moveAll (va_Pc [.ref (ad x0), .int x1, .int x2, .ref (ad x3)] (PW D ad cy h)) (QV D ad cy (some (.int r)) h') 0 0 (Aw ad) := by
  refine met_of (own := RX1) (lv := [(0, .ref (ad x0)), (1, .int x1), (2, .int x2), (3, .ref (ad x3))]) (by decide) rfl (Nat.le_of_ble_eq_true rfl) rfl (fun p e s m args below meth c E hr hlk => ?_)
  unfold f_X1_moveAll at hf
  refine j_iload_n E 2 rfl dX1_moveAll_0 rfl ?_
  refine j_istore (lv' := [(4, .int x2), (0, .ref (ad x0)), (1, .int x1), (2, .int x2), (3, .ref (ad x3))]) E dX1_moveAll_1 (by decide) rfl ?_
  refine j_iconst (v := 0) E dX1_moveAll_3 (by decide) ?_
  refine j_istore (lv' := [(5, .int 0), (4, .int x2), (0, .ref (ad x0)), (1, .int x1), (2, .int x2), (3, .ref (ad x3))]) E dX1_moveAll_4 (by decide) rfl ?_
  refine j_perm (lv' := [(0, .ref (ad x0)), (1, .int x1), (3, .ref (ad x3)), (4, .int x2), (5, .int 0)]) [2, 3, 5, 1, 0] rfl ?_
  refine w_X1_moveAll_6 E hr hlk x0 x1 x3 FU _ h x2 0 (fun h7 x8 hf => ?_) hf
  refine j_iload E 0 rfl dX1_moveAll_39 ?_
  cases hf
  exact j_iret E hr hlk dX1_moveAll_41
noncomputable def f_X1_neighboursOf (h : HP) (x0 : Nat) (x1 : Int32) : Option (Int32) :=
  (f_X5_isLine x1).bind fun v1 =>
  if v1 = 0 then (
    some 0
  ) else (
    (gR 0 h x0 2).bind fun v4 =>
    (aI h v4 x1).bind fun v5 =>
    some v5
  )
abbrev rmX1_neighboursOf : Room := { frames := 1, cells := 0, slots := 0, locals := 20 }
theorem hd_X1_neighboursOf : yX1_neighboursOf.cls = RX1 ∧ yX1_neighboursOf.cls ≠ "java/lang/invoke/MethodHandle" ∧ yX1_neighboursOf.cls ≠ "java/lang/invoke/VarHandle" ∧ (parseMethodDescriptor yX1_neighboursOf.desc).map (fun d => d.parameters.length) = some 1 := by decide +kernel
set_option maxRecDepth 100000 in
set_option maxHeartbeats 4000000 in
theorem c_X1_neighboursOf (l : Launch) (D : va_G) (ad : Nat → Nat) (cy : Nat → ClassId) (h : HP) (x0 : Nat) (x1 : Int32) {r : Int32} (hf : f_X1_neighboursOf h x0 x1 = some r) : Met l yX1_neighboursOf (wsM yX1_neighboursOf cX1_neighboursOf 2 (some .int)) rmX1_neighboursOf (va_Pc [.ref (ad x0), .int x1] (PW D ad cy h)) (QV D ad cy (some (.int r)) h) 0 0 (Aw ad) := by
  refine met_of (own := RX1) (lv := [(0, .ref (ad x0)), (1, .int x1)]) (by decide) rfl (Nat.le_of_ble_eq_true rfl) rfl (fun p e s m args below meth c E hr hlk => ?_)
  unfold f_X1_neighboursOf at hf
  refine j_iload_n E 1 rfl dX1_neighboursOf_0 rfl ?_
  obtain ⟨v1, e2, hf⟩ := bs hf
  refine j_callSN (host := RX5) (As := [.int x1]) (rest := []) (v := (some (.int v1))) E (c_X5_isLine l D ad cy h x1 e2) (mcn E.1.2.2.2.2 E.2.2 7 rfl uw_1_164 uw_1_163 uw_1_1 rfl rfl hd_X5_isLine ⟨by decide, by decide⟩) rfl rfl (Nat.le_of_ble_eq_true rfl) dX1_neighboursOf_1 ⟨Nat.zero_le _, Nat.zero_le _⟩ ?_
  refine j_stk (st' := [.int v1]) rfl ?_
  refine j_if_eq (tgt := 16) E dX1_neighboursOf_4 (by decide) (fun z3 => ?_) (fun z3 => ?_)
  · have hf := ifp hf z3
    refine j_iconst (v := 0) E dX1_neighboursOf_16 (by decide) ?_
    cases hf
    exact j_iret E hr hlk dX1_neighboursOf_17
  · have hf := ifn hf z3
    refine j_aload_n E 0 rfl dX1_neighboursOf_7 rfl ?_
    obtain ⟨v4, ev4, hf⟩ := bs hf
    refine j_getR (ci := 0) (k0 := 2) (T := TX1) (N := 6) E (mI inUX1) rfl (by decide) (mU uw_1_51) ev4 dX1_neighboursOf_8 ?_
    refine j_iload_n E 1 rfl dX1_neighboursOf_11 rfl ?_
    obtain ⟨v5, ev5, hf⟩ := bs hf
    refine j_aI E ev5 dX1_neighboursOf_12 ?_
    refine j_goto (tgt := 17) E dX1_neighboursOf_13 (by decide) ?_
    cases hf
    exact j_iret E hr hlk dX1_neighboursOf_17
