noncomputable def L_X6_widthOf_15 (h : HP) (x0 : Nat) (x1 : Int32) (x3 : Int32) : Nat → (Int32 → Option (Int32)) → Int32 → Int32 → Option (Int32)
  | 0, _, _, _ => none
  | n + 1, k, x2, x4 =>
      if x3 ≤ x4 then (
        k x2
      ) else (
        (gR 5 h x0 9).bind fun v4 =>
        (aI h v4 x3).bind fun v5 =>
        (gR 5 h x0 9).bind fun v6 =>
        (aI h v6 x4).bind fun v7 =>
        ck 5 h x0 <|
        (f_X6_areJoined h x0 x1 v5 v7).bind fun v9 =>
        if v9 = 0 then (
          L_X6_widthOf_15 h x0 x1 x3 n k x2 (x4 + 1)
        ) else (
          if (x3 - x4) ≤ x2 then (
            L_X6_widthOf_15 h x0 x1 x3 n k x2 (x4 + 1)
          ) else (
            L_X6_widthOf_15 h x0 x1 x3 n k (x3 - x4) (x4 + 1)
          )
        )
      )
noncomputable def L_X6_widthOf_4 (h : HP) (x0 : Nat) (x1 : Int32) : Nat → (Int32 → Option (Int32)) → Int32 → Int32 → Option (Int32)
  | 0, _, _, _ => none
  | n + 1, k, x2, x3 =>
      (gI 5 h x0 8).bind fun v1 =>
      if v1 ≤ x3 then (
        k x2
      ) else (
        L_X6_widthOf_15 h x0 x1 x3 FU (fun x13 =>
          L_X6_widthOf_4 h x0 x1 n k x13 (x3 + 1)) x2 0
      )
noncomputable def f_X6_widthOf (h : HP) (x0 : Nat) (x1 : Int32) : Option (Int32) :=
  L_X6_widthOf_4 h x0 x1 FU (fun x14 =>
    some x14) 0 0
abbrev rmX6_widthOf : Room := { frames := 3, cells := 0, slots := 0, locals := 68 }
theorem hd_X6_widthOf : yX6_widthOf.cls = RX6 ∧ yX6_widthOf.cls ≠ "java/lang/invoke/MethodHandle" ∧ yX6_widthOf.cls ≠ "java/lang/invoke/VarHandle" ∧ (parseMethodDescriptor yX6_widthOf.desc).map (fun d => d.parameters.length) = some 1 := by decide +kernel
set_option maxRecDepth 100000 in
set_option maxHeartbeats 4000000 in
theorem w_X6_widthOf_15 {p : Program} {l : Launch} {e : Env} {s : State} {m : MethodId} {args : Array Value} {below : List Frame} {meth : Method} {c : Code} {D : va_G} {ad : Nat → Nat} {cy : Nat → ClassId} (E : EE p s m args c cX6_widthOf 5 (wsM yX6_widthOf cX6_widthOf 5 (some .int)) RX6 D cy) (hr : meth.sig.returnType = (some .int)) (hlk : meth.locks = false) {r : Int32} (h : HP) (x0 : Nat) (x1 : Int32) (x3 : Int32) : ∀ (n : Nat) (k : (Int32 → Option (Int32))) (x2 : Int32) (x4 : Int32), (∀ (x2 : Int32), k x2 = some r → JJ p l e rmX6_widthOf s m args below meth c 0 0 (MQ below (QV D ad cy (some (.int r)) h) args s 0 0 (Aw ad)) D ad cy (Aw ad) 5 h [(0, .ref (ad x0)), (1, .int x1), (2, .int x2), (3, .int x3)] 65 []) → L_X6_widthOf_15 h x0 x1 x3 n k x2 x4 = some r → JJ p l e rmX6_widthOf s m args below meth c 0 0 (MQ below (QV D ad cy (some (.int r)) h) args s 0 0 (Aw ad)) D ad cy (Aw ad) 5 h [(0, .ref (ad x0)), (1, .int x1), (2, .int x2), (3, .int x3), (4, .int x4)] 15 [] := by
  intro n
  induction n with
  | zero => intro k x2 x4 hk hf; cases hf
  | succ n ih =>
    intro k x2 x4 hk hf
    unfold L_X6_widthOf_15 at hf
    refine j_iload E 4 rfl dX6_widthOf_15 ?_
    refine j_iload_n E 3 rfl dX6_widthOf_17 rfl ?_
    refine j_icmp_ge (tgt := 65) E dX6_widthOf_18 (by decide) (fun z3 => ?_) (fun z3 => ?_)
    · have hf := ifp hf z3
      refine j_perm (lv' := [(0, .ref (ad x0)), (1, .int x1), (2, .int x2), (3, .int x3)]) [0, 1, 2, 3] rfl ?_
      exact hk x2 hf
    · have hf := ifn hf z3
      refine j_aload_n E 0 rfl dX6_widthOf_21 rfl ?_
      refine j_iload_n E 1 rfl dX6_widthOf_22 rfl ?_
      refine j_aload_n E 0 rfl dX6_widthOf_23 rfl ?_
      obtain ⟨v4, ev4, hf⟩ := bs hf
      refine j_getR (ci := 5) (k0 := 9) (T := TX6) (N := 14) E (mI inUX6) rfl (by decide) (mU uw_3_113) ev4 dX6_widthOf_24 ?_
      refine j_iload_n E 3 rfl dX6_widthOf_27 rfl ?_
      obtain ⟨v5, ev5, hf⟩ := bs hf
      refine j_aI E ev5 dX6_widthOf_28 ?_
      refine j_aload_n E 0 rfl dX6_widthOf_29 rfl ?_
      obtain ⟨v6, ev6, hf⟩ := bs hf
      refine j_getR (ci := 5) (k0 := 9) (T := TX6) (N := 14) E (mI inUX6) rfl (by decide) (mU uw_3_113) ev6 dX6_widthOf_30 ?_
      refine j_iload E 4 rfl dX6_widthOf_33 ?_
      obtain ⟨v7, ev7, hf⟩ := bs hf
      refine j_aI E ev7 dX6_widthOf_35 ?_
      obtain ⟨k8, hf⟩ := ck_spec hf
      obtain ⟨v9, e10, hf⟩ := bs hf
      refine j_callV (ci := 5) (b := x0) (As := [.int x1, .int v5, .int v7]) (rest := []) (v := (some (.int v9))) E (c_X6_areJoined l D ad cy h x0 x1 v5 v7 e10) (mcw E.1.2.2.2.2 uw_4_125 uw_4_122 uw_4_124 us_3_7 uw_1_6 rfl rfl hd_X6_areJoined ⟨by decide, by decide⟩) rfl k8 rfl rfl (Nat.le_of_ble_eq_true rfl) dX6_widthOf_36 ⟨Nat.zero_le _, Nat.zero_le _⟩ ?_
      refine j_stk (st' := [.int v9]) rfl ?_
      refine j_if_eq (tgt := 57) E dX6_widthOf_39 (by decide) (fun z11 => ?_) (fun z11 => ?_)
      · have hf := ifp hf z11
        refine j_iload_n E 2 rfl dX6_widthOf_57 rfl ?_
        refine j_istore_n (lv' := [(2, .int x2), (0, .ref (ad x0)), (1, .int x1), (3, .int x3), (4, .int x4)]) E dX6_widthOf_58 rfl (by decide) rfl ?_
        refine j_iinc (v := (x4 + 1)) (k0 := 4) (lv' := [(4, .int (x4 + 1)), (2, .int x2), (0, .ref (ad x0)), (1, .int x1), (3, .int x3)]) E dX6_widthOf_59 rfl (congrArg (fun z => x4 + z) (by decide)) (by decide) rfl ?_
        refine j_goto (tgt := 15) E dX6_widthOf_62 (by decide) ?_
        refine j_perm (lv' := [(0, .ref (ad x0)), (1, .int x1), (2, .int x2), (3, .int x3), (4, .int (x4 + 1))]) [2, 3, 1, 4, 0] rfl ?_
        exact ih k x2 (x4 + 1) hk hf
      · have hf := ifn hf z11
        refine j_iload_n E 3 rfl dX6_widthOf_42 rfl ?_
        refine j_iload E 4 rfl dX6_widthOf_43 ?_
        refine j_isub E dX6_widthOf_45 ?_
        refine j_iload_n E 2 rfl dX6_widthOf_46 rfl ?_
        refine j_icmp_le (tgt := 57) E dX6_widthOf_47 (by decide) (fun z12 => ?_) (fun z12 => ?_)
        · have hf := ifp hf z12
          refine j_iload_n E 2 rfl dX6_widthOf_57 rfl ?_
          refine j_istore_n (lv' := [(2, .int x2), (0, .ref (ad x0)), (1, .int x1), (3, .int x3), (4, .int x4)]) E dX6_widthOf_58 rfl (by decide) rfl ?_
          refine j_iinc (v := (x4 + 1)) (k0 := 4) (lv' := [(4, .int (x4 + 1)), (2, .int x2), (0, .ref (ad x0)), (1, .int x1), (3, .int x3)]) E dX6_widthOf_59 rfl (congrArg (fun z => x4 + z) (by decide)) (by decide) rfl ?_
          refine j_goto (tgt := 15) E dX6_widthOf_62 (by decide) ?_
          refine j_perm (lv' := [(0, .ref (ad x0)), (1, .int x1), (2, .int x2), (3, .int x3), (4, .int (x4 + 1))]) [2, 3, 1, 4, 0] rfl ?_
          exact ih k x2 (x4 + 1) hk hf
        · have hf := ifn hf z12
          refine j_iload_n E 3 rfl dX6_widthOf_50 rfl ?_
          refine j_iload E 4 rfl dX6_widthOf_51 ?_
          refine j_isub E dX6_widthOf_53 ?_
          refine j_goto (tgt := 58) E dX6_widthOf_54 (by decide) ?_
          refine j_istore_n (lv' := [(2, .int (x3 - x4)), (0, .ref (ad x0)), (1, .int x1), (3, .int x3), (4, .int x4)]) E dX6_widthOf_58 rfl (by decide) rfl ?_
          refine j_iinc (v := (x4 + 1)) (k0 := 4) (lv' := [(4, .int (x4 + 1)), (2, .int (x3 - x4)), (0, .ref (ad x0)), (1, .int x1), (3, .int x3)]) E dX6_widthOf_59 rfl (congrArg (fun z => x4 + z) (by decide)) (by decide) rfl ?_
          refine j_goto (tgt := 15) E dX6_widthOf_62 (by decide) ?_
          refine j_perm (lv' := [(0, .ref (ad x0)), (1, .int x1), (2, .int (x3 - x4)), (3, .int x3), (4, .int (x4 + 1))]) [2, 3, 1, 4, 0] rfl ?_
          exact ih k (x3 - x4) (x4 + 1) hk hf
set_option maxRecDepth 100000 in
set_option maxHeartbeats 4000000 in
theorem w_X6_widthOf_4 {p : Program} {l : Launch} {e : Env} {s : State} {m : MethodId} {args : Array Value} {below : List Frame} {meth : Method} {c : Code} {D : va_G} {ad : Nat → Nat} {cy : Nat → ClassId} (E : EE p s m args c cX6_widthOf 5 (wsM yX6_widthOf cX6_widthOf 5 (some .int)) RX6 D cy) (hr : meth.sig.returnType = (some .int)) (hlk : meth.locks = false) {r : Int32} (h : HP) (x0 : Nat) (x1 : Int32) : ∀ (n : Nat) (k : (Int32 → Option (Int32))) (x2 : Int32) (x3 : Int32), (∀ (x2 : Int32), k x2 = some r → JJ p l e rmX6_widthOf s m args below meth c 0 0 (MQ below (QV D ad cy (some (.int r)) h) args s 0 0 (Aw ad)) D ad cy (Aw ad) 5 h [(2, .int x2)] 71 []) → L_X6_widthOf_4 h x0 x1 n k x2 x3 = some r → JJ p l e rmX6_widthOf s m args below meth c 0 0 (MQ below (QV D ad cy (some (.int r)) h) args s 0 0 (Aw ad)) D ad cy (Aw ad) 5 h [(0, .ref (ad x0)), (1, .int x1), (2, .int x2), (3, .int x3)] 4 [] := by
  intro n
  induction n with
  | zero => intro k x2 x3 hk hf; cases hf
  | succ n ih =>
    intro k x2 x3 hk hf
    unfold L_X6_widthOf_4 at hf
    refine j_iload_n E 3 rfl dX6_widthOf_4 rfl ?_
    refine j_aload_n E 0 rfl dX6_widthOf_5 rfl ?_
    obtain ⟨v1, ev1, hf⟩ := bs hf
    refine j_getI (ci := 5) (k0 := 8) (T := TX6) (N := 14) E (mI inUX6) rfl (by decide) (mU uw_3_112) ev1 dX6_widthOf_6 ?_
    refine j_icmp_ge (tgt := 71) E dX6_widthOf_9 (by decide) (fun z2 => ?_) (fun z2 => ?_)
    · have hf := ifp hf z2
      refine j_perm (lv' := [(2, .int x2)]) [2] rfl ?_
      exact hk x2 hf
    · have hf := ifn hf z2
      refine j_iconst (v := 0) E dX6_widthOf_12 (by decide) ?_
      refine j_istore (lv' := [(4, .int 0), (0, .ref (ad x0)), (1, .int x1), (2, .int x2), (3, .int x3)]) E dX6_widthOf_13 (by decide) rfl ?_
      refine j_perm (lv' := [(0, .ref (ad x0)), (1, .int x1), (2, .int x2), (3, .int x3), (4, .int 0)]) [1, 2, 3, 4, 0] rfl ?_
      refine w_X6_widthOf_15 E hr hlk h x0 x1 x3 FU _ x2 0 (fun x13 hf => ?_) hf
      refine j_iinc (v := (x3 + 1)) (k0 := 3) (lv' := [(3, .int (x3 + 1)), (0, .ref (ad x0)), (1, .int x1), (2, .int x13)]) E dX6_widthOf_65 rfl (congrArg (fun z => x3 + z) (by decide)) (by decide) rfl ?_
      refine j_goto (tgt := 4) E dX6_widthOf_68 (by decide) ?_
      refine j_perm (lv' := [(0, .ref (ad x0)), (1, .int x1), (2, .int x13), (3, .int (x3 + 1))]) [1, 2, 3, 0] rfl ?_
      exact ih k x13 (x3 + 1) hk hf
set_option maxRecDepth 100000 in
set_option maxHeartbeats 4000000 in
theorem c_X6_widthOf (l : Launch) (D : va_G) (ad : Nat → Nat) (cy : Nat → ClassId) (h : HP) (x0 : Nat) (x1 : Int32) {r : Int32} (hf : f_X6_widthOf h x0 x1 = some r) : Met l yX6_widthOf (wsM yX6_widthOf cX6_widthOf 5 (some .int)) rmX6_widthOf (va_Pc [.ref (ad x0), .int x1] (PW D ad cy h)) (QV D ad cy (some (.int r)) h) 0 0 (Aw ad) := by
  refine met_of (own := RX6) (lv := [(0, .ref (ad x0)), (1, .int x1)]) (by decide) rfl (Nat.le_of_ble_eq_true rfl) rfl (fun p e s m args below meth c E hr hlk => ?_)
  unfold f_X6_widthOf at hf
  refine j_iconst (v := 0) E dX6_widthOf_0 (by decide) ?_
  refine j_istore_n (lv' := [(2, .int 0), (0, .ref (ad x0)), (1, .int x1)]) E dX6_widthOf_1 rfl (by decide) rfl ?_
  refine j_iconst (v := 0) E dX6_widthOf_2 (by decide) ?_
  refine j_istore_n (lv' := [(3, .int 0), (2, .int 0), (0, .ref (ad x0)), (1, .int x1)]) E dX6_widthOf_3 rfl (by decide) rfl ?_
  refine j_perm (lv' := [(0, .ref (ad x0)), (1, .int x1), (2, .int 0), (3, .int 0)]) [2, 3, 1, 0] rfl ?_
  refine w_X6_widthOf_4 E hr hlk h x0 x1 FU _ 0 0 (fun x14 hf => ?_) hf
  refine j_iload_n E 0 rfl dX6_widthOf_71 rfl ?_
  cases hf
  exact j_iret E hr hlk dX6_widthOf_72
noncomputable def L_X6_narrow_28 (x0 : Nat) (x1 : Int32) : Nat → (HP → Int32 → Option (HP × Int32)) → HP → Int32 → Int32 → Int32 → Option (HP × Int32)
  | 0, _, _, _, _, _ => none
  | n + 1, k, h, x2, x3, x4 =>
      (gR 5 h x0 1).bind fun v9 =>
      (aI h v9 x1).bind fun v10 =>
      if v10 ≤ x3 then (
        k h x3
      ) else (
        if x3 ≤ x4 then (
          ck 5 h x0 <|
          (f_X6_fewest h x0 x1 x2 (-1)).bind fun v14 =>
          if 0 ≤ v14 then (
            (gR 5 h x0 9).bind fun v17 =>
            (sI h v17 x3 v14).bind fun h18 =>
            L_X6_narrow_28 x0 x1 n k h18 (x2 ||| (1 <<< (v14 &&& 31))) (x3 + 1) x4
          ) else (
            L_X6_narrow_28 x0 x1 n k h x2 x3 (x4 + 1)
          )
        ) else (
          (gR 5 h x0 9).bind fun v19 =>
          (aI h v19 x4).bind fun v20 =>
          ck 5 h x0 <|
          (f_X6_fewest h x0 x1 x2 v20).bind fun v22 =>
          if 0 ≤ v22 then (
            (gR 5 h x0 9).bind fun v25 =>
            (sI h v25 x3 v22).bind fun h26 =>
            L_X6_narrow_28 x0 x1 n k h26 (x2 ||| (1 <<< (v22 &&& 31))) (x3 + 1) x4
          ) else (
            L_X6_narrow_28 x0 x1 n k h x2 x3 (x4 + 1)
          )
        )
      )
noncomputable def f_X6_narrow (h : HP) (x0 : Nat) (x1 : Int32) : Option (HP × Int32) :=
  ck 5 h x0 <|
  (f_X6_isTable h x0 x1).bind fun v2 =>
  if v2 = 0 then (
    some (h, (-1))
  ) else (
    ck 5 h x0 <|
    (f_X6_isGraph h x0 x1).bind fun v6 =>
    if v6 = 0 then (
      some (h, (-3))
    ) else (
      L_X6_narrow_28 x0 x1 FU (fun h27 x28 =>
        (pI 5 h27 x0 8 x28).bind fun h29 =>
        ck 5 h29 x0 <|
        (f_X6_widthOf h29 x0 x1).bind fun v31 =>
        some (h29, v31)) h 0 0 0
    )
  )
abbrev rmX6_narrow : Room := { frames := 5, cells := 0, slots := 0, locals := 117 }
theorem hd_X6_narrow : yX6_narrow.cls = RX6 ∧ yX6_narrow.cls ≠ "java/lang/invoke/MethodHandle" ∧ yX6_narrow.cls ≠ "java/lang/invoke/VarHandle" ∧ (parseMethodDescriptor yX6_narrow.desc).map (fun d => d.parameters.length) = some 1 := by decide +kernel
set_option maxRecDepth 100000 in
set_option maxHeartbeats 4000000 in
theorem w_X6_narrow_28 {p : Program} {l : Launch} {e : Env} {s : State} {m : MethodId} {args : Array Value} {below : List Frame} {meth : Method} {c : Code} {D : va_G} {ad : Nat → Nat} {cy : Nat → ClassId} (E : EE p s m args c cX6_narrow 6 (wsM yX6_narrow cX6_narrow 6 (some .int)) RX6 D cy) (hr : meth.sig.returnType = (some .int)) (hlk : meth.locks = false) {h' : HP} {r : Int32} (x0 : Nat) (x1 : Int32) : ∀ (n : Nat) (k : (HP → Int32 → Option (HP × Int32))) (h : HP) (x2 : Int32) (x3 : Int32) (x4 : Int32), (∀ (h : HP) (x3 : Int32), k h x3 = some (h', r) → JJ p l e rmX6_narrow s m args below meth c 0 0 (MQ below (QV D ad cy (some (.int r)) h') args s 0 0 (Aw ad)) D ad cy (Aw ad) 6 h [(0, .ref (ad x0)), (1, .int x1), (3, .int x3)] 101 []) → L_X6_narrow_28 x0 x1 n k h x2 x3 x4 = some (h', r) → JJ p l e rmX6_narrow s m args below meth c 0 0 (MQ below (QV D ad cy (some (.int r)) h') args s 0 0 (Aw ad)) D ad cy (Aw ad) 6 h [(0, .ref (ad x0)), (1, .int x1), (2, .int x2), (3, .int x3), (4, .int x4)] 28 [] := by
  intro n
  induction n with
  | zero => intro k h x2 x3 x4 hk hf; cases hf
  | succ n ih =>
    intro k h x2 x3 x4 hk hf
    unfold L_X6_narrow_28 at hf
    refine j_iload_n E 3 rfl dX6_narrow_28 rfl ?_
    refine j_aload_n E 0 rfl dX6_narrow_29 rfl ?_
    obtain ⟨v9, ev9, hf⟩ := bs hf
    refine j_getR (ci := 5) (k0 := 1) (T := TX6) (N := 14) E (mI inUX6) rfl (by decide) (mU uw_3_105) ev9 dX6_narrow_30 ?_
    refine j_iload_n E 1 rfl dX6_narrow_33 rfl ?_
    obtain ⟨v10, ev10, hf⟩ := bs hf
    refine j_aI E ev10 dX6_narrow_34 ?_
    refine j_icmp_ge (tgt := 101) E dX6_narrow_35 (by decide) (fun z11 => ?_) (fun z11 => ?_)
    · have hf := ifp hf z11
      refine j_perm (lv' := [(0, .ref (ad x0)), (1, .int x1), (3, .int x3)]) [0, 1, 3] rfl ?_
      exact hk h x3 hf
    · have hf := ifn hf z11
      refine j_iload E 4 rfl dX6_narrow_38 ?_
      refine j_iload_n E 3 rfl dX6_narrow_40 rfl ?_
      refine j_icmp_ge (tgt := 60) E dX6_narrow_41 (by decide) (fun z12 => ?_) (fun z12 => ?_)
      · have hf := ifp hf z12
        refine j_aload_n E 0 rfl dX6_narrow_60 rfl ?_
        refine j_iload_n E 1 rfl dX6_narrow_61 rfl ?_
        refine j_iload_n E 2 rfl dX6_narrow_62 rfl ?_
        refine j_iconst (v := (-1)) E dX6_narrow_63 (by decide) ?_
        obtain ⟨k13, hf⟩ := ck_spec hf
        obtain ⟨v14, e15, hf⟩ := bs hf
        refine j_callV (ci := 5) (b := x0) (As := [.int x1, .int x2, .int (-1)]) (rest := []) (v := (some (.int v14))) E (c_X6_fewest l D ad cy h x0 x1 x2 (-1) e15) (mcw E.1.2.2.2.2 uw_4_121 uw_4_118 uw_4_120 us_3_6 uw_1_6 rfl rfl hd_X6_fewest ⟨by decide, by decide⟩) rfl k13 rfl rfl (Nat.le_of_ble_eq_true rfl) dX6_narrow_64 ⟨Nat.zero_le _, Nat.zero_le _⟩ ?_
        refine j_stk (st' := [.int v14]) rfl ?_
        refine j_istore (lv' := [(5, .int v14), (0, .ref (ad x0)), (1, .int x1), (2, .int x2), (3, .int x3), (4, .int x4)]) E dX6_narrow_67 (by decide) rfl ?_
        refine j_iload E 0 rfl dX6_narrow_69 ?_
        refine j_if_ge (tgt := 80) E dX6_narrow_71 (by decide) (fun z16 => ?_) (fun z16 => ?_)
        · have hf := ifp hf z16
          refine j_iload_n E 3 rfl dX6_narrow_80 rfl ?_
          refine j_iconst (v := 1) E dX6_narrow_81 (by decide) ?_
          refine j_iload E 0 rfl dX6_narrow_82 ?_
          refine j_ishl E dX6_narrow_84 ?_
          refine j_ior E dX6_narrow_85 ?_
          refine j_istore_n (lv' := [(2, .int (x2 ||| (1 <<< (v14 &&& 31)))), (5, .int v14), (0, .ref (ad x0)), (1, .int x1), (3, .int x3), (4, .int x4)]) E dX6_narrow_86 rfl (by decide) rfl ?_
          refine j_aload_n E 2 rfl dX6_narrow_87 rfl ?_
          obtain ⟨v17, ev17, hf⟩ := bs hf
          refine j_getR (ci := 5) (k0 := 9) (T := TX6) (N := 14) E (mI inUX6) rfl (by decide) (mU uw_3_113) ev17 dX6_narrow_88 ?_
          refine j_iload_n E 4 rfl dX6_narrow_91 rfl ?_
          refine j_iload E 1 rfl dX6_narrow_92 ?_
          obtain ⟨h18, eh18, hf⟩ := bs hf
          refine j_sI E eh18 dX6_narrow_94 ?_
          refine j_iinc (v := (x3 + 1)) (k0 := 4) (lv' := [(3, .int (x3 + 1)), (2, .int (x2 ||| (1 <<< (v14 &&& 31)))), (5, .int v14), (0, .ref (ad x0)), (1, .int x1), (4, .int x4)]) E dX6_narrow_95 rfl (congrArg (fun z => x3 + z) (by decide)) (by decide) rfl ?_
          refine j_goto (tgt := 28) E dX6_narrow_98 (by decide) ?_
          refine j_perm (lv' := [(0, .ref (ad x0)), (1, .int x1), (2, .int (x2 ||| (1 <<< (v14 &&& 31)))), (3, .int (x3 + 1)), (4, .int x4)]) [3, 4, 1, 0, 5] rfl ?_
          exact ih k h18 (x2 ||| (1 <<< (v14 &&& 31))) (x3 + 1) x4 hk hf
        · have hf := ifn hf z16
          refine j_iinc (v := (x4 + 1)) (k0 := 5) (lv' := [(4, .int (x4 + 1)), (5, .int v14), (0, .ref (ad x0)), (1, .int x1), (2, .int x2), (3, .int x3)]) E dX6_narrow_74 rfl (congrArg (fun z => x4 + z) (by decide)) (by decide) rfl ?_
          refine j_goto (tgt := 98) E dX6_narrow_77 (by decide) ?_
          refine j_goto (tgt := 28) E dX6_narrow_98 (by decide) ?_
          refine j_perm (lv' := [(0, .ref (ad x0)), (1, .int x1), (2, .int x2), (3, .int x3), (4, .int (x4 + 1))]) [2, 3, 4, 5, 0] rfl ?_
          exact ih k h x2 x3 (x4 + 1) hk hf
      · have hf := ifn hf z12
        refine j_aload_n E 0 rfl dX6_narrow_44 rfl ?_
        refine j_iload_n E 1 rfl dX6_narrow_45 rfl ?_
        refine j_iload_n E 2 rfl dX6_narrow_46 rfl ?_
        refine j_aload_n E 0 rfl dX6_narrow_47 rfl ?_
        obtain ⟨v19, ev19, hf⟩ := bs hf
        refine j_getR (ci := 5) (k0 := 9) (T := TX6) (N := 14) E (mI inUX6) rfl (by decide) (mU uw_3_113) ev19 dX6_narrow_48 ?_
        refine j_iload E 4 rfl dX6_narrow_51 ?_
        obtain ⟨v20, ev20, hf⟩ := bs hf
        refine j_aI E ev20 dX6_narrow_53 ?_
        obtain ⟨k21, hf⟩ := ck_spec hf
        obtain ⟨v22, e23, hf⟩ := bs hf
        refine j_callV (ci := 5) (b := x0) (As := [.int x1, .int x2, .int v20]) (rest := []) (v := (some (.int v22))) E (c_X6_fewest l D ad cy h x0 x1 x2 v20 e23) (mcw E.1.2.2.2.2 uw_4_121 uw_4_118 uw_4_120 us_3_6 uw_1_6 rfl rfl hd_X6_fewest ⟨by decide, by decide⟩) rfl k21 rfl rfl (Nat.le_of_ble_eq_true rfl) dX6_narrow_54 ⟨Nat.zero_le _, Nat.zero_le _⟩ ?_
        refine j_stk (st' := [.int v22]) rfl ?_
        refine j_goto (tgt := 67) E dX6_narrow_57 (by decide) ?_
        refine j_istore (lv' := [(5, .int v22), (0, .ref (ad x0)), (1, .int x1), (2, .int x2), (3, .int x3), (4, .int x4)]) E dX6_narrow_67 (by decide) rfl ?_
        refine j_iload E 0 rfl dX6_narrow_69 ?_
        refine j_if_ge (tgt := 80) E dX6_narrow_71 (by decide) (fun z24 => ?_) (fun z24 => ?_)
        · have hf := ifp hf z24
          refine j_iload_n E 3 rfl dX6_narrow_80 rfl ?_
          refine j_iconst (v := 1) E dX6_narrow_81 (by decide) ?_
          refine j_iload E 0 rfl dX6_narrow_82 ?_
          refine j_ishl E dX6_narrow_84 ?_
          refine j_ior E dX6_narrow_85 ?_
          refine j_istore_n (lv' := [(2, .int (x2 ||| (1 <<< (v22 &&& 31)))), (5, .int v22), (0, .ref (ad x0)), (1, .int x1), (3, .int x3), (4, .int x4)]) E dX6_narrow_86 rfl (by decide) rfl ?_
          refine j_aload_n E 2 rfl dX6_narrow_87 rfl ?_
          obtain ⟨v25, ev25, hf⟩ := bs hf
          refine j_getR (ci := 5) (k0 := 9) (T := TX6) (N := 14) E (mI inUX6) rfl (by decide) (mU uw_3_113) ev25 dX6_narrow_88 ?_
          refine j_iload_n E 4 rfl dX6_narrow_91 rfl ?_
          refine j_iload E 1 rfl dX6_narrow_92 ?_
          obtain ⟨h26, eh26, hf⟩ := bs hf
          refine j_sI E eh26 dX6_narrow_94 ?_
          refine j_iinc (v := (x3 + 1)) (k0 := 4) (lv' := [(3, .int (x3 + 1)), (2, .int (x2 ||| (1 <<< (v22 &&& 31)))), (5, .int v22), (0, .ref (ad x0)), (1, .int x1), (4, .int x4)]) E dX6_narrow_95 rfl (congrArg (fun z => x3 + z) (by decide)) (by decide) rfl ?_
          refine j_goto (tgt := 28) E dX6_narrow_98 (by decide) ?_
          refine j_perm (lv' := [(0, .ref (ad x0)), (1, .int x1), (2, .int (x2 ||| (1 <<< (v22 &&& 31)))), (3, .int (x3 + 1)), (4, .int x4)]) [3, 4, 1, 0, 5] rfl ?_
          exact ih k h26 (x2 ||| (1 <<< (v22 &&& 31))) (x3 + 1) x4 hk hf
        · have hf := ifn hf z24
          refine j_iinc (v := (x4 + 1)) (k0 := 5) (lv' := [(4, .int (x4 + 1)), (5, .int v22), (0, .ref (ad x0)), (1, .int x1), (2, .int x2), (3, .int x3)]) E dX6_narrow_74 rfl (congrArg (fun z => x4 + z) (by decide)) (by decide) rfl ?_
          refine j_goto (tgt := 98) E dX6_narrow_77 (by decide) ?_
          refine j_goto (tgt := 28) E dX6_narrow_98 (by decide) ?_
          refine j_perm (lv' := [(0, .ref (ad x0)), (1, .int x1), (2, .int x2), (3, .int x3), (4, .int (x4 + 1))]) [2, 3, 4, 5, 0] rfl ?_
          exact ih k h x2 x3 (x4 + 1) hk hf
set_option maxRecDepth 100000 in
set_option maxHeartbeats 4000000 in
theorem c_X6_narrow (l : Launch) (D : va_G) (ad : Nat → Nat) (cy : Nat → ClassId) (h : HP) (x0 : Nat) (x1 : Int32) {h' : HP} {r : Int32} (hf : f_X6_narrow h x0 x1 = some (h', r)) : Met l yX6_narrow (wsM yX6_narrow cX6_narrow 6 (some .int)) rmX6_narrow (va_Pc [.ref (ad x0), .int x1] (PW D ad cy h)) (QV D ad cy (some (.int r)) h') 0 0 (Aw ad) := by
  refine met_of (own := RX6) (lv := [(0, .ref (ad x0)), (1, .int x1)]) (by decide) rfl (Nat.le_of_ble_eq_true rfl) rfl (fun p e s m args below meth c E hr hlk => ?_)
  unfold f_X6_narrow at hf
  refine j_aload_n E 0 rfl dX6_narrow_0 rfl ?_
  refine j_iload_n E 1 rfl dX6_narrow_1 rfl ?_
  obtain ⟨k1, hf⟩ := ck_spec hf
  obtain ⟨v2, e3, hf⟩ := bs hf
  refine j_callV (ci := 5) (b := x0) (As := [.int x1]) (rest := []) (v := (some (.int v2))) E (c_X6_isTable l D ad cy h x0 x1 e3) (mcw E.1.2.2.2.2 uw_3_186 uw_3_183 uw_3_185 us_2_2 uw_1_6 rfl rfl hd_X6_isTable ⟨by decide, by decide⟩) rfl k1 rfl rfl (Nat.le_of_ble_eq_true rfl) dX6_narrow_2 ⟨Nat.zero_le _, Nat.zero_le _⟩ ?_
  refine j_stk (st' := [.int v2]) rfl ?_
  refine j_if_ne (tgt := 10) E dX6_narrow_5 (by decide) (fun z4 => ?_) (fun z4 => ?_)
  · have hf := ifn hf z4
    refine j_aload_n E 0 rfl dX6_narrow_10 rfl ?_
    refine j_iload_n E 1 rfl dX6_narrow_11 rfl ?_
    obtain ⟨k5, hf⟩ := ck_spec hf
    obtain ⟨v6, e7, hf⟩ := bs hf
    refine j_callV (ci := 5) (b := x0) (As := [.int x1]) (rest := []) (v := (some (.int v6))) E (c_X6_isGraph l D ad cy h x0 x1 e7) (mcw E.1.2.2.2.2 uw_4_85 uw_4_82 uw_4_84 us_3_1 uw_1_6 rfl rfl hd_X6_isGraph ⟨by decide, by decide⟩) rfl k5 rfl rfl (Nat.le_of_ble_eq_true rfl) dX6_narrow_12 ⟨Nat.zero_le _, Nat.zero_le _⟩ ?_
    refine j_stk (st' := [.int v6]) rfl ?_
    refine j_if_ne (tgt := 21) E dX6_narrow_15 (by decide) (fun z8 => ?_) (fun z8 => ?_)
    · have hf := ifn hf z8
      refine j_iconst (v := 0) E dX6_narrow_21 (by decide) ?_
      refine j_istore_n (lv' := [(2, .int 0), (0, .ref (ad x0)), (1, .int x1)]) E dX6_narrow_22 rfl (by decide) rfl ?_
      refine j_iconst (v := 0) E dX6_narrow_23 (by decide) ?_
      refine j_istore_n (lv' := [(3, .int 0), (2, .int 0), (0, .ref (ad x0)), (1, .int x1)]) E dX6_narrow_24 rfl (by decide) rfl ?_
      refine j_iconst (v := 0) E dX6_narrow_25 (by decide) ?_
      refine j_istore (lv' := [(4, .int 0), (3, .int 0), (2, .int 0), (0, .ref (ad x0)), (1, .int x1)]) E dX6_narrow_26 (by decide) rfl ?_
      refine j_perm (lv' := [(0, .ref (ad x0)), (1, .int x1), (2, .int 0), (3, .int 0), (4, .int 0)]) [3, 4, 2, 1, 0] rfl ?_
      refine w_X6_narrow_28 E hr hlk x0 x1 FU _ h 0 0 0 (fun h27 x28 hf => ?_) hf
      refine j_aload_n E 0 rfl dX6_narrow_101 rfl ?_
      refine j_iload_n E 2 rfl dX6_narrow_102 rfl ?_
      obtain ⟨h29, eh29, hf⟩ := bs hf
      refine j_putI (ci := 5) (k0 := 8) (T := TX6) (N := 14) E (mI inUX6) rfl (by decide) (mU uw_3_112) tyX6 tyX6_ok nmX6 rfl (by decide +kernel) eh29 dX6_narrow_103 ?_
      refine j_aload_n E 0 rfl dX6_narrow_106 rfl ?_
      refine j_iload_n E 1 rfl dX6_narrow_107 rfl ?_
      obtain ⟨k30, hf⟩ := ck_spec hf
      obtain ⟨v31, e32, hf⟩ := bs hf
      refine j_callV (ci := 5) (b := x0) (As := [.int x1]) (rest := []) (v := (some (.int v31))) E (c_X6_widthOf l D ad cy h29 x0 x1 e32) (mcw E.1.2.2.2.2 uw_4_133 uw_4_130 uw_4_132 us_3_9 uw_1_6 rfl rfl hd_X6_widthOf ⟨by decide, by decide⟩) rfl k30 rfl rfl (Nat.le_of_ble_eq_true rfl) dX6_narrow_108 ⟨Nat.zero_le _, Nat.zero_le _⟩ ?_
      refine j_stk (st' := [.int v31]) rfl ?_
      cases hf
      exact j_iret E hr hlk dX6_narrow_111
    · have hf := ifp hf z8
      refine j_bipush (v := (-3)) E dX6_narrow_18 (by decide) ?_
      cases hf
      exact j_iret E hr hlk dX6_narrow_20
  · have hf := ifp hf z4
    refine j_iconst (v := (-1)) E dX6_narrow_8 (by decide) ?_
    cases hf
    exact j_iret E hr hlk dX6_narrow_9
noncomputable def L_X6_width_14 (h : HP) (x0 : Nat) : Nat → (Int32 → Option (Int32)) → Int32 → Int32 → Option (Int32)
  | 0, _, _, _ => none
  | n + 1, k, x2, x3 =>
      (gI 5 h x0 8).bind fun v5 =>
      if v5 ≤ x3 then (
        k x2
      ) else (
        (gR 5 h x0 9).bind fun v7 =>
        (aI h v7 x3).bind fun v8 =>
        L_X6_width_14 h x0 n k (x2 ||| (1 <<< (v8 &&& 31))) (x3 + 1)
      )
noncomputable def f_X6_width (h : HP) (x0 : Nat) (x1 : Int32) : Option (Int32) :=
  ck 5 h x0 <|
  (f_X6_isTable h x0 x1).bind fun v2 =>
  if v2 = 0 then (
    some (-1)
  ) else (
    L_X6_width_14 h x0 FU (fun x9 =>
      (gI 5 h x0 8).bind fun v10 =>
      (gR 5 h x0 1).bind fun v11 =>
      (aI h v11 x1).bind fun v12 =>
      if v10 = v12 then (
        (gR 5 h x0 1).bind fun v14 =>
        (aI h v14 x1).bind fun v15 =>
        if x9 = ((1 <<< (v15 &&& 31)) - 1) then (
          ck 5 h x0 <|
          (f_X6_isGraph h x0 x1).bind fun v18 =>
          if v18 = 0 then (
            some (-3)
          ) else (
            ck 5 h x0 <|
            (f_X6_widthOf h x0 x1).bind fun v22 =>
            some v22
          )
        ) else (
          ck 5 h x0 <|
          (f_X6_isGraph h x0 x1).bind fun v25 =>
          if v25 = 0 then (
            some (-3)
          ) else (
            some (-3)
          )
        )
      ) else (
        ck 5 h x0 <|
        (f_X6_isGraph h x0 x1).bind fun v29 =>
        if v29 = 0 then (
          some (-3)
        ) else (
          some (-3)
        )
      )) 0 0
  )
abbrev rmX6_width : Room := { frames := 4, cells := 0, slots := 0, locals := 92 }
theorem hd_X6_width : yX6_width.cls = RX6 ∧ yX6_width.cls ≠ "java/lang/invoke/MethodHandle" ∧ yX6_width.cls ≠ "java/lang/invoke/VarHandle" ∧ (parseMethodDescriptor yX6_width.desc).map (fun d => d.parameters.length) = some 1 := by decide +kernel
set_option maxRecDepth 100000 in
set_option maxHeartbeats 4000000 in
theorem w_X6_width_14 {p : Program} {l : Launch} {e : Env} {s : State} {m : MethodId} {args : Array Value} {below : List Frame} {meth : Method} {c : Code} {D : va_G} {ad : Nat → Nat} {cy : Nat → ClassId} (E : EE p s m args c cX6_width 4 (wsM yX6_width cX6_width 4 (some .int)) RX6 D cy) (hr : meth.sig.returnType = (some .int)) (hlk : meth.locks = false) {r : Int32} (h : HP) (x0 : Nat) (x1 : Int32) : ∀ (n : Nat) (k : (Int32 → Option (Int32))) (x2 : Int32) (x3 : Int32), (∀ (x2 : Int32), k x2 = some r → JJ p l e rmX6_width s m args below meth c 0 0 (MQ below (QV D ad cy (some (.int r)) h) args s 0 0 (Aw ad)) D ad cy (Aw ad) 4 h [(0, .ref (ad x0)), (1, .int x1), (2, .int x2)] 39 []) → L_X6_width_14 h x0 n k x2 x3 = some r → JJ p l e rmX6_width s m args below meth c 0 0 (MQ below (QV D ad cy (some (.int r)) h) args s 0 0 (Aw ad)) D ad cy (Aw ad) 4 h [(0, .ref (ad x0)), (1, .int x1), (2, .int x2), (3, .int x3)] 14 [] := by
  intro n
  induction n with
  | zero => intro k x2 x3 hk hf; cases hf
  | succ n ih =>
    intro k x2 x3 hk hf
    unfold L_X6_width_14 at hf
    refine j_iload_n E 3 rfl dX6_width_14 rfl ?_
    refine j_aload_n E 0 rfl dX6_width_15 rfl ?_
    obtain ⟨v5, ev5, hf⟩ := bs hf
    refine j_getI (ci := 5) (k0 := 8) (T := TX6) (N := 14) E (mI inUX6) rfl (by decide) (mU uw_3_112) ev5 dX6_width_16 ?_
    refine j_icmp_ge (tgt := 39) E dX6_width_19 (by decide) (fun z6 => ?_) (fun z6 => ?_)
    · have hf := ifp hf z6
      refine j_perm (lv' := [(0, .ref (ad x0)), (1, .int x1), (2, .int x2)]) [0, 1, 2] rfl ?_
      exact hk x2 hf
    · have hf := ifn hf z6
      refine j_iload_n E 2 rfl dX6_width_22 rfl ?_
      refine j_iconst (v := 1) E dX6_width_23 (by decide) ?_
      refine j_aload_n E 0 rfl dX6_width_24 rfl ?_
      obtain ⟨v7, ev7, hf⟩ := bs hf
      refine j_getR (ci := 5) (k0 := 9) (T := TX6) (N := 14) E (mI inUX6) rfl (by decide) (mU uw_3_113) ev7 dX6_width_25 ?_
      refine j_iload_n E 3 rfl dX6_width_28 rfl ?_
      obtain ⟨v8, ev8, hf⟩ := bs hf
      refine j_aI E ev8 dX6_width_29 ?_
      refine j_ishl E dX6_width_30 ?_
      refine j_ior E dX6_width_31 ?_
      refine j_istore_n (lv' := [(2, .int (x2 ||| (1 <<< (v8 &&& 31)))), (0, .ref (ad x0)), (1, .int x1), (3, .int x3)]) E dX6_width_32 rfl (by decide) rfl ?_
      refine j_iinc (v := (x3 + 1)) (k0 := 3) (lv' := [(3, .int (x3 + 1)), (2, .int (x2 ||| (1 <<< (v8 &&& 31)))), (0, .ref (ad x0)), (1, .int x1)]) E dX6_width_33 rfl (congrArg (fun z => x3 + z) (by decide)) (by decide) rfl ?_
      refine j_goto (tgt := 14) E dX6_width_36 (by decide) ?_
      refine j_perm (lv' := [(0, .ref (ad x0)), (1, .int x1), (2, .int (x2 ||| (1 <<< (v8 &&& 31)))), (3, .int (x3 + 1))]) [2, 3, 1, 0] rfl ?_
      exact ih k (x2 ||| (1 <<< (v8 &&& 31))) (x3 + 1) hk hf
set_option maxRecDepth 100000 in
set_option maxHeartbeats 4000000 in
theorem c_X6_width (l : Launch) (D : va_G) (ad : Nat → Nat) (cy : Nat → ClassId) (h : HP) (x0 : Nat) (x1 : Int32) {r : Int32} (hf : f_X6_width h x0 x1 = some r) : Met l yX6_width (wsM yX6_width cX6_width 4 (some .int)) rmX6_width (va_Pc [.ref (ad x0), .int x1] (PW D ad cy h)) (QV D ad cy (some (.int r)) h) 0 0 (Aw ad) := by
  refine met_of (own := RX6) (lv := [(0, .ref (ad x0)), (1, .int x1)]) (by decide) rfl (Nat.le_of_ble_eq_true rfl) rfl (fun p e s m args below meth c E hr hlk => ?_)
  unfold f_X6_width at hf
  refine j_aload_n E 0 rfl dX6_width_0 rfl ?_
  refine j_iload_n E 1 rfl dX6_width_1 rfl ?_
  obtain ⟨k1, hf⟩ := ck_spec hf
  obtain ⟨v2, e3, hf⟩ := bs hf
  refine j_callV (ci := 5) (b := x0) (As := [.int x1]) (rest := []) (v := (some (.int v2))) E (c_X6_isTable l D ad cy h x0 x1 e3) (mcw E.1.2.2.2.2 uw_3_186 uw_3_183 uw_3_185 us_2_2 uw_1_6 rfl rfl hd_X6_isTable ⟨by decide, by decide⟩) rfl k1 rfl rfl (Nat.le_of_ble_eq_true rfl) dX6_width_2 ⟨Nat.zero_le _, Nat.zero_le _⟩ ?_
  refine j_stk (st' := [.int v2]) rfl ?_
  refine j_if_ne (tgt := 10) E dX6_width_5 (by decide) (fun z4 => ?_) (fun z4 => ?_)
  · have hf := ifn hf z4
    refine j_iconst (v := 0) E dX6_width_10 (by decide) ?_
    refine j_istore_n (lv' := [(2, .int 0), (0, .ref (ad x0)), (1, .int x1)]) E dX6_width_11 rfl (by decide) rfl ?_
    refine j_iconst (v := 0) E dX6_width_12 (by decide) ?_
    refine j_istore_n (lv' := [(3, .int 0), (2, .int 0), (0, .ref (ad x0)), (1, .int x1)]) E dX6_width_13 rfl (by decide) rfl ?_
    refine j_perm (lv' := [(0, .ref (ad x0)), (1, .int x1), (2, .int 0), (3, .int 0)]) [2, 3, 1, 0] rfl ?_
    refine w_X6_width_14 E hr hlk h x0 x1 FU _ 0 0 (fun x9 hf => ?_) hf
    refine j_aload_n E 0 rfl dX6_width_39 rfl ?_
    obtain ⟨v10, ev10, hf⟩ := bs hf
    refine j_getI (ci := 5) (k0 := 8) (T := TX6) (N := 14) E (mI inUX6) rfl (by decide) (mU uw_3_112) ev10 dX6_width_40 ?_
    refine j_aload_n E 0 rfl dX6_width_43 rfl ?_
    obtain ⟨v11, ev11, hf⟩ := bs hf
    refine j_getR (ci := 5) (k0 := 1) (T := TX6) (N := 14) E (mI inUX6) rfl (by decide) (mU uw_3_105) ev11 dX6_width_44 ?_
    refine j_iload_n E 1 rfl dX6_width_47 rfl ?_
    obtain ⟨v12, ev12, hf⟩ := bs hf
    refine j_aI E ev12 dX6_width_48 ?_
    refine j_icmp_ne (tgt := 70) E dX6_width_49 (by decide) (fun z13 => ?_) (fun z13 => ?_)
    · have hf := ifn hf z13
      refine j_iconst (v := 0) E dX6_width_70 (by decide) ?_
      refine j_istore_n (lv' := [(3, .int 0), (0, .ref (ad x0)), (1, .int x1), (2, .int x9)]) E dX6_width_71 rfl (by decide) rfl ?_
      refine j_aload_n E 1 rfl dX6_width_72 rfl ?_
      refine j_iload_n E 2 rfl dX6_width_73 rfl ?_
      obtain ⟨k28, hf⟩ := ck_spec hf
      obtain ⟨v29, e30, hf⟩ := bs hf
      refine j_callV (ci := 5) (b := x0) (As := [.int x1]) (rest := []) (v := (some (.int v29))) E (c_X6_isGraph l D ad cy h x0 x1 e30) (mcw E.1.2.2.2.2 uw_4_85 uw_4_82 uw_4_84 us_3_1 uw_1_6 rfl rfl hd_X6_isGraph ⟨by decide, by decide⟩) rfl k28 rfl rfl (Nat.le_of_ble_eq_true rfl) dX6_width_74 ⟨Nat.zero_le _, Nat.zero_le _⟩ ?_
      refine j_stk (st' := [.int v29]) rfl ?_
      refine j_if_eq (tgt := 92) E dX6_width_77 (by decide) (fun z31 => ?_) (fun z31 => ?_)
      · have hf := ifp hf z31
        refine j_bipush (v := (-3)) E dX6_width_92 (by decide) ?_
        cases hf
        exact j_iret E hr hlk dX6_width_94
      · have hf := ifn hf z31
        refine j_iload_n E 0 rfl dX6_width_80 rfl ?_
        refine j_if_eq (tgt := 92) E dX6_width_81 (by decide) (fun _ => ?_) (fun z => absurd (by decide) z)
        refine j_bipush (v := (-3)) E dX6_width_92 (by decide) ?_
        cases hf
        exact j_iret E hr hlk dX6_width_94
    · have hf := ifp hf z13
      refine j_iload_n E 2 rfl dX6_width_52 rfl ?_
      refine j_iconst (v := 1) E dX6_width_53 (by decide) ?_
      refine j_aload_n E 0 rfl dX6_width_54 rfl ?_
      obtain ⟨v14, ev14, hf⟩ := bs hf
      refine j_getR (ci := 5) (k0 := 1) (T := TX6) (N := 14) E (mI inUX6) rfl (by decide) (mU uw_3_105) ev14 dX6_width_55 ?_
      refine j_iload_n E 1 rfl dX6_width_58 rfl ?_
      obtain ⟨v15, ev15, hf⟩ := bs hf
      refine j_aI E ev15 dX6_width_59 ?_
      refine j_ishl E dX6_width_60 ?_
      refine j_iconst (v := 1) E dX6_width_61 (by decide) ?_
      refine j_isub E dX6_width_62 ?_
      refine j_icmp_ne (tgt := 70) E dX6_width_63 (by decide) (fun z16 => ?_) (fun z16 => ?_)
      · have hf := ifn hf z16
        refine j_iconst (v := 0) E dX6_width_70 (by decide) ?_
        refine j_istore_n (lv' := [(3, .int 0), (0, .ref (ad x0)), (1, .int x1), (2, .int x9)]) E dX6_width_71 rfl (by decide) rfl ?_
        refine j_aload_n E 1 rfl dX6_width_72 rfl ?_
        refine j_iload_n E 2 rfl dX6_width_73 rfl ?_
        obtain ⟨k24, hf⟩ := ck_spec hf
        obtain ⟨v25, e26, hf⟩ := bs hf
        refine j_callV (ci := 5) (b := x0) (As := [.int x1]) (rest := []) (v := (some (.int v25))) E (c_X6_isGraph l D ad cy h x0 x1 e26) (mcw E.1.2.2.2.2 uw_4_85 uw_4_82 uw_4_84 us_3_1 uw_1_6 rfl rfl hd_X6_isGraph ⟨by decide, by decide⟩) rfl k24 rfl rfl (Nat.le_of_ble_eq_true rfl) dX6_width_74 ⟨Nat.zero_le _, Nat.zero_le _⟩ ?_
        refine j_stk (st' := [.int v25]) rfl ?_
        refine j_if_eq (tgt := 92) E dX6_width_77 (by decide) (fun z27 => ?_) (fun z27 => ?_)
        · have hf := ifp hf z27
          refine j_bipush (v := (-3)) E dX6_width_92 (by decide) ?_
          cases hf
          exact j_iret E hr hlk dX6_width_94
        · have hf := ifn hf z27
          refine j_iload_n E 0 rfl dX6_width_80 rfl ?_
          refine j_if_eq (tgt := 92) E dX6_width_81 (by decide) (fun _ => ?_) (fun z => absurd (by decide) z)
          refine j_bipush (v := (-3)) E dX6_width_92 (by decide) ?_
          cases hf
          exact j_iret E hr hlk dX6_width_94
      · have hf := ifp hf z16
        refine j_iconst (v := 1) E dX6_width_66 (by decide) ?_
        refine j_goto (tgt := 71) E dX6_width_67 (by decide) ?_
        refine j_istore_n (lv' := [(3, .int 1), (0, .ref (ad x0)), (1, .int x1), (2, .int x9)]) E dX6_width_71 rfl (by decide) rfl ?_
        refine j_aload_n E 1 rfl dX6_width_72 rfl ?_
        refine j_iload_n E 2 rfl dX6_width_73 rfl ?_
        obtain ⟨k17, hf⟩ := ck_spec hf
        obtain ⟨v18, e19, hf⟩ := bs hf
        refine j_callV (ci := 5) (b := x0) (As := [.int x1]) (rest := []) (v := (some (.int v18))) E (c_X6_isGraph l D ad cy h x0 x1 e19) (mcw E.1.2.2.2.2 uw_4_85 uw_4_82 uw_4_84 us_3_1 uw_1_6 rfl rfl hd_X6_isGraph ⟨by decide, by decide⟩) rfl k17 rfl rfl (Nat.le_of_ble_eq_true rfl) dX6_width_74 ⟨Nat.zero_le _, Nat.zero_le _⟩ ?_
        refine j_stk (st' := [.int v18]) rfl ?_
        refine j_if_eq (tgt := 92) E dX6_width_77 (by decide) (fun z20 => ?_) (fun z20 => ?_)
        · have hf := ifp hf z20
          refine j_bipush (v := (-3)) E dX6_width_92 (by decide) ?_
          cases hf
          exact j_iret E hr hlk dX6_width_94
        · have hf := ifn hf z20
          refine j_iload_n E 0 rfl dX6_width_80 rfl ?_
          refine j_if_eq (tgt := 92) E dX6_width_81 (by decide) (fun z => absurd z (by decide)) (fun _ => ?_)
          refine j_aload_n E 1 rfl dX6_width_84 rfl ?_
          refine j_iload_n E 2 rfl dX6_width_85 rfl ?_
          obtain ⟨k21, hf⟩ := ck_spec hf
          obtain ⟨v22, e23, hf⟩ := bs hf
          refine j_callV (ci := 5) (b := x0) (As := [.int x1]) (rest := []) (v := (some (.int v22))) E (c_X6_widthOf l D ad cy h x0 x1 e23) (mcw E.1.2.2.2.2 uw_4_133 uw_4_130 uw_4_132 us_3_9 uw_1_6 rfl rfl hd_X6_widthOf ⟨by decide, by decide⟩) rfl k21 rfl rfl (Nat.le_of_ble_eq_true rfl) dX6_width_86 ⟨Nat.zero_le _, Nat.zero_le _⟩ ?_
          refine j_stk (st' := [.int v22]) rfl ?_
          refine j_goto (tgt := 94) E dX6_width_89 (by decide) ?_
          cases hf
          exact j_iret E hr hlk dX6_width_94
  · have hf := ifp hf z4
    refine j_iconst (v := (-1)) E dX6_width_8 (by decide) ?_
    cases hf
    exact j_iret E hr hlk dX6_width_9
