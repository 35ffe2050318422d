noncomputable def L_X6_byColumns_23 (h : HP) (x0 : Nat) (x1 : Int32) (x3 : Int32) : Nat → (Int32 → Option (HP)) → Int32 → Int32 → Option (HP)
  | 0, _, _, _ => none
  | n + 1, k, x2, x4 =>
      (gR 5 h x0 1).bind fun v7 =>
      (aI h v7 x1).bind fun v8 =>
      if v8 ≤ x4 then (
        k x2
      ) else (
        ck 5 h x0 <|
        (f_X6_has h x0 x1 x4 x3).bind fun v11 =>
        if v11 = 0 then (
          L_X6_byColumns_23 h x0 x1 x3 n k (x2 + 0) (x4 + 1)
        ) else (
          L_X6_byColumns_23 h x0 x1 x3 n k (x2 + 1) (x4 + 1)
        )
      )
noncomputable def L_X6_byColumns_4 (x0 : Nat) (x1 : Int32) : Nat → (HP → Int32 → Option (HP)) → HP → Int32 → Int32 → Option (HP)
  | 0, _, _, _, _ => none
  | n + 1, k, h, x2, x3 =>
      (gR 5 h x0 2).bind fun v1 =>
      (aI h v1 x1).bind fun v2 =>
      if v2 ≤ x3 then (
        k h x2
      ) else (
        ck 5 h x0 <|
        (f_X6_lay h x0 (Int32.toInt64 x2)).bind fun h5 =>
        L_X6_byColumns_23 h5 x0 x1 x3 FU (fun x14 =>
          L_X6_byColumns_4 x0 x1 n k h5 x14 (x3 + 1)) x2 0
      )
noncomputable def L_X6_byColumns_81 (x0 : Nat) (x1 : Int32) (x3 : Int32) : Nat → (HP → Option (HP)) → HP → Int32 → Option (HP)
  | 0, _, _, _ => none
  | n + 1, k, h, x4 =>
      if 256 ≤ x4 then (
        k h
      ) else (
        (gR 5 h x0 3).bind fun v22 =>
        (f_X6_cellOf x1 (x4 - x4 / 16 * 16) (x4 / 16)).bind fun v23 =>
        (aZ h v22 v23).bind fun v25 =>
        if v25 = 0 then (
          L_X6_byColumns_81 x0 x1 x3 n k h (x4 + 1)
        ) else (
          if x3 = 0 then (
            ck 5 h x0 <|
            (f_X6_lay h x0 (Int32.toInt64 (x4 - x4 / 16 * 16))).bind fun h29 =>
            L_X6_byColumns_81 x0 x1 x3 n k h29 (x4 + 1)
          ) else (
            (gR 5 h x0 4).bind fun v31 =>
            (f_X6_cellOf x1 (x4 - x4 / 16 * 16) (x4 / 16)).bind fun v32 =>
            (aJ h v31 v32).bind fun v34 =>
            ck 5 h x0 <|
            (f_X6_lay h x0 v34).bind fun h36 =>
            L_X6_byColumns_81 x0 x1 x3 n k h36 (x4 + 1)
          )
        )
      )
noncomputable def L_X6_byColumns_73 (x0 : Nat) (x1 : Int32) : Nat → (HP → Option (HP)) → HP → Int32 → Option (HP)
  | 0, _, _, _ => none
  | n + 1, k, h, x3 =>
      if 2 ≤ x3 then (
        k h
      ) else (
        L_X6_byColumns_81 x0 x1 x3 FU (fun h38 =>
          L_X6_byColumns_73 x0 x1 n k h38 (x3 + 1)) h 0
      )
noncomputable def f_X6_byColumns (h : HP) (x0 : Nat) (x1 : Int32) : Option (HP) :=
  L_X6_byColumns_4 x0 x1 FU (fun h15 x16 =>
    ck 5 h15 x0 <|
    (f_X6_lay h15 x0 (Int32.toInt64 x16)).bind fun h18 =>
    L_X6_byColumns_73 x0 x1 FU (fun h39 =>
      some h39) h18 0) h 0 0
abbrev rmX6_byColumns : Room := { frames := 2, cells := 0, slots := 0, locals := 45 }
theorem hd_X6_byColumns : yX6_byColumns.cls = RX6 ∧ yX6_byColumns.cls ≠ "java/lang/invoke/MethodHandle" ∧ yX6_byColumns.cls ≠ "java/lang/invoke/VarHandle" ∧ (parseMethodDescriptor yX6_byColumns.desc).map (fun d => d.parameters.length) = some 1 := by decide +kernel
set_option maxRecDepth 100000 in
set_option maxHeartbeats 4000000 in
theorem w_X6_byColumns_23 {p : Program} {l : Launch} {e : Env} {s : State} {m : MethodId} {args : Array Value} {below : List Frame} {meth : Method} {c : Code} {D : va_G} {ad : Nat → Nat} {cy : Nat → ClassId} (E : EE p s m args c cX6_byColumns 7 (wsM yX6_byColumns cX6_byColumns 7 none) RX6 D cy) (hr : meth.sig.returnType = none) (hlk : meth.locks = false) {h' : HP} (h : HP) (x0 : Nat) (x1 : Int32) (x3 : Int32) : ∀ (n : Nat) (k : (Int32 → Option (HP))) (x2 : Int32) (x4 : Int32), (∀ (x2 : Int32), k x2 = some h' → JJ p l e rmX6_byColumns s m args below meth c 0 0 (MQ below (QV D ad cy none h') args s 0 0 (Aw ad)) D ad cy (Aw ad) 7 h [(0, .ref (ad x0)), (1, .int x1), (2, .int x2), (3, .int x3)] 59 []) → L_X6_byColumns_23 h x0 x1 x3 n k x2 x4 = some h' → JJ p l e rmX6_byColumns s m args below meth c 0 0 (MQ below (QV D ad cy none h') args s 0 0 (Aw ad)) D ad cy (Aw ad) 7 h [(0, .ref (ad x0)), (1, .int x1), (2, .int x2), (3, .int x3), (4, .int x4)] 23 [] := by
  intro n
  induction n with
  | zero => intro k x2 x4 hk hf; cases hf
  | succ n ih =>
    intro k x2 x4 hk hf
    unfold L_X6_byColumns_23 at hf
    refine j_iload E 4 rfl dX6_byColumns_23 ?_
    refine j_aload_n E 0 rfl dX6_byColumns_25 rfl ?_
    obtain ⟨v7, ev7, hf⟩ := bs hf
    refine j_getR (ci := 5) (k0 := 1) (T := TX6) (N := 14) E (mI inUX6) rfl (by decide) (mU uw_3_105) ev7 dX6_byColumns_26 ?_
    refine j_iload_n E 1 rfl dX6_byColumns_29 rfl ?_
    obtain ⟨v8, ev8, hf⟩ := bs hf
    refine j_aI E ev8 dX6_byColumns_30 ?_
    refine j_icmp_ge (tgt := 59) E dX6_byColumns_31 (by decide) (fun z9 => ?_) (fun z9 => ?_)
    · have hf := ifp hf z9
      refine j_perm (lv' := [(0, .ref (ad x0)), (1, .int x1), (2, .int x2), (3, .int x3)]) [0, 1, 2, 3] rfl ?_
      exact hk x2 hf
    · have hf := ifn hf z9
      refine j_iload_n E 2 rfl dX6_byColumns_34 rfl ?_
      refine j_aload_n E 0 rfl dX6_byColumns_35 rfl ?_
      refine j_iload_n E 1 rfl dX6_byColumns_36 rfl ?_
      refine j_iload E 4 rfl dX6_byColumns_37 ?_
      refine j_iload_n E 3 rfl dX6_byColumns_39 rfl ?_
      obtain ⟨k10, hf⟩ := ck_spec hf
      obtain ⟨v11, e12, hf⟩ := bs hf
      refine j_callV (ci := 5) (b := x0) (As := [.int x1, .int x4, .int x3]) (rest := [.int x2]) (v := (some (.int v11))) E (c_X6_has l D ad cy h x0 x1 x4 x3 e12) (mcw E.1.2.2.2.2 uw_3_210 uw_3_207 uw_3_209 us_2_6 uw_1_6 rfl rfl hd_X6_has ⟨by decide, by decide⟩) rfl k10 rfl rfl (Nat.le_of_ble_eq_true rfl) dX6_byColumns_40 ⟨Nat.zero_le _, Nat.zero_le _⟩ ?_
      refine j_stk (st' := [.int v11, .int x2]) rfl ?_
      refine j_if_eq (tgt := 50) E dX6_byColumns_43 (by decide) (fun z13 => ?_) (fun z13 => ?_)
      · have hf := ifp hf z13
        refine j_iconst (v := 0) E dX6_byColumns_50 (by decide) ?_
        refine j_iadd E dX6_byColumns_51 ?_
        refine j_istore_n (lv' := [(2, .int (x2 + 0)), (0, .ref (ad x0)), (1, .int x1), (3, .int x3), (4, .int x4)]) E dX6_byColumns_52 rfl (by decide) rfl ?_
        refine j_iinc (v := (x4 + 1)) (k0 := 4) (lv' := [(4, .int (x4 + 1)), (2, .int (x2 + 0)), (0, .ref (ad x0)), (1, .int x1), (3, .int x3)]) E dX6_byColumns_53 rfl (congrArg (fun z => x4 + z) (by decide)) (by decide) rfl ?_
        refine j_goto (tgt := 23) E dX6_byColumns_56 (by decide) ?_
        refine j_perm (lv' := [(0, .ref (ad x0)), (1, .int x1), (2, .int (x2 + 0)), (3, .int x3), (4, .int (x4 + 1))]) [2, 3, 1, 4, 0] rfl ?_
        exact ih k (x2 + 0) (x4 + 1) hk hf
      · have hf := ifn hf z13
        refine j_iconst (v := 1) E dX6_byColumns_46 (by decide) ?_
        refine j_goto (tgt := 51) E dX6_byColumns_47 (by decide) ?_
        refine j_iadd E dX6_byColumns_51 ?_
        refine j_istore_n (lv' := [(2, .int (x2 + 1)), (0, .ref (ad x0)), (1, .int x1), (3, .int x3), (4, .int x4)]) E dX6_byColumns_52 rfl (by decide) rfl ?_
        refine j_iinc (v := (x4 + 1)) (k0 := 4) (lv' := [(4, .int (x4 + 1)), (2, .int (x2 + 1)), (0, .ref (ad x0)), (1, .int x1), (3, .int x3)]) E dX6_byColumns_53 rfl (congrArg (fun z => x4 + z) (by decide)) (by decide) rfl ?_
        refine j_goto (tgt := 23) E dX6_byColumns_56 (by decide) ?_
        refine j_perm (lv' := [(0, .ref (ad x0)), (1, .int x1), (2, .int (x2 + 1)), (3, .int x3), (4, .int (x4 + 1))]) [2, 3, 1, 4, 0] rfl ?_
        exact ih k (x2 + 1) (x4 + 1) hk hf
set_option maxRecDepth 100000 in
set_option maxHeartbeats 4000000 in
theorem w_X6_byColumns_4 {p : Program} {l : Launch} {e : Env} {s : State} {m : MethodId} {args : Array Value} {below : List Frame} {meth : Method} {c : Code} {D : va_G} {ad : Nat → Nat} {cy : Nat → ClassId} (E : EE p s m args c cX6_byColumns 7 (wsM yX6_byColumns cX6_byColumns 7 none) RX6 D cy) (hr : meth.sig.returnType = none) (hlk : meth.locks = false) {h' : HP} (x0 : Nat) (x1 : Int32) : ∀ (n : Nat) (k : (HP → Int32 → Option (HP))) (h : HP) (x2 : Int32) (x3 : Int32), (∀ (h : HP) (x2 : Int32), k h x2 = some h' → JJ p l e rmX6_byColumns s m args below meth c 0 0 (MQ below (QV D ad cy none h') args s 0 0 (Aw ad)) D ad cy (Aw ad) 7 h [(0, .ref (ad x0)), (1, .int x1), (2, .int x2)] 65 []) → L_X6_byColumns_4 x0 x1 n k h x2 x3 = some h' → JJ p l e rmX6_byColumns s m args below meth c 0 0 (MQ below (QV D ad cy none h') args s 0 0 (Aw ad)) D ad cy (Aw ad) 7 h [(0, .ref (ad x0)), (1, .int x1), (2, .int x2), (3, .int x3)] 4 [] := by
  intro n
  induction n with
  | zero => intro k h x2 x3 hk hf; cases hf
  | succ n ih =>
    intro k h x2 x3 hk hf
    unfold L_X6_byColumns_4 at hf
    refine j_iload_n E 3 rfl dX6_byColumns_4 rfl ?_
    refine j_aload_n E 0 rfl dX6_byColumns_5 rfl ?_
    obtain ⟨v1, ev1, hf⟩ := bs hf
    refine j_getR (ci := 5) (k0 := 2) (T := TX6) (N := 14) E (mI inUX6) rfl (by decide) (mU uw_3_106) ev1 dX6_byColumns_6 ?_
    refine j_iload_n E 1 rfl dX6_byColumns_9 rfl ?_
    obtain ⟨v2, ev2, hf⟩ := bs hf
    refine j_aI E ev2 dX6_byColumns_10 ?_
    refine j_icmp_ge (tgt := 65) E dX6_byColumns_11 (by decide) (fun z3 => ?_) (fun z3 => ?_)
    · have hf := ifp hf z3
      refine j_perm (lv' := [(0, .ref (ad x0)), (1, .int x1), (2, .int x2)]) [0, 1, 2] rfl ?_
      exact hk h x2 hf
    · have hf := ifn hf z3
      refine j_aload_n E 0 rfl dX6_byColumns_14 rfl ?_
      refine j_iload_n E 2 rfl dX6_byColumns_15 rfl ?_
      refine j_i2l E dX6_byColumns_16 ?_
      obtain ⟨k4, hf⟩ := ck_spec hf
      obtain ⟨h5, e6, hf⟩ := bs hf
      refine j_callV (ci := 5) (b := x0) (As := [.long (Int32.toInt64 x2)]) (rest := []) (v := none) E (c_X6_lay l D ad cy h x0 (Int32.toInt64 x2) e6) (mcw E.1.2.2.2.2 uw_4_44 uw_4_41 uw_4_43 us_2_10 uw_1_6 rfl rfl hd_X6_lay ⟨by decide, by decide⟩) rfl k4 rfl rfl (Nat.le_of_ble_eq_true rfl) dX6_byColumns_17 ⟨Nat.zero_le _, Nat.zero_le _⟩ ?_
      refine j_stk (st' := []) rfl ?_
      refine j_iconst (v := 0) E dX6_byColumns_20 (by decide) ?_
      refine j_istore (lv' := [(4, .int 0), (0, .ref (ad x0)), (1, .int x1), (2, .int x2), (3, .int x3)]) E dX6_byColumns_21 (by decide) rfl ?_
      refine j_perm (lv' := [(0, .ref (ad x0)), (1, .int x1), (2, .int x2), (3, .int x3), (4, .int 0)]) [1, 2, 3, 4, 0] rfl ?_
      refine w_X6_byColumns_23 E hr hlk h5 x0 x1 x3 FU _ x2 0 (fun x14 hf => ?_) hf
      refine j_iinc (v := (x3 + 1)) (k0 := 3) (lv' := [(3, .int (x3 + 1)), (0, .ref (ad x0)), (1, .int x1), (2, .int x14)]) E dX6_byColumns_59 rfl (congrArg (fun z => x3 + z) (by decide)) (by decide) rfl ?_
      refine j_goto (tgt := 4) E dX6_byColumns_62 (by decide) ?_
      refine j_perm (lv' := [(0, .ref (ad x0)), (1, .int x1), (2, .int x14), (3, .int (x3 + 1))]) [1, 2, 3, 0] rfl ?_
      exact ih k h5 x14 (x3 + 1) hk hf
set_option maxRecDepth 100000 in
set_option maxHeartbeats 4000000 in
theorem w_X6_byColumns_81 {p : Program} {l : Launch} {e : Env} {s : State} {m : MethodId} {args : Array Value} {below : List Frame} {meth : Method} {c : Code} {D : va_G} {ad : Nat → Nat} {cy : Nat → ClassId} (E : EE p s m args c cX6_byColumns 7 (wsM yX6_byColumns cX6_byColumns 7 none) RX6 D cy) (hr : meth.sig.returnType = none) (hlk : meth.locks = false) {h' : HP} (x0 : Nat) (x1 : Int32) (x3 : Int32) : ∀ (n : Nat) (k : (HP → Option (HP))) (h : HP) (x4 : Int32), (∀ (h : HP), k h = some h' → JJ p l e rmX6_byColumns s m args below meth c 0 0 (MQ below (QV D ad cy none h') args s 0 0 (Aw ad)) D ad cy (Aw ad) 7 h [(0, .ref (ad x0)), (1, .int x1), (3, .int x3)] 152 []) → L_X6_byColumns_81 x0 x1 x3 n k h x4 = some h' → JJ p l e rmX6_byColumns s m args below meth c 0 0 (MQ below (QV D ad cy none h') args s 0 0 (Aw ad)) D ad cy (Aw ad) 7 h [(0, .ref (ad x0)), (1, .int x1), (3, .int x3), (4, .int x4)] 81 [] := by
  intro n
  induction n with
  | zero => intro k h x4 hk hf; cases hf
  | succ n ih =>
    intro k h x4 hk hf
    unfold L_X6_byColumns_81 at hf
    refine j_iload E 3 rfl dX6_byColumns_81 ?_
    refine j_sipush (v := 256) E dX6_byColumns_83 (by decide) ?_
    refine j_icmp_ge (tgt := 152) E dX6_byColumns_86 (by decide) (fun z21 => ?_) (fun z21 => ?_)
    · have hf := ifp hf z21
      refine j_perm (lv' := [(0, .ref (ad x0)), (1, .int x1), (3, .int x3)]) [0, 1, 2] rfl ?_
      exact hk h hf
    · have hf := ifn hf z21
      refine j_iload E 3 rfl dX6_byColumns_89 ?_
      refine j_bipush (v := 16) E dX6_byColumns_91 (by decide) ?_
      refine j_irem E (by decide) dX6_byColumns_93 ?_
      refine j_istore (lv' := [(5, .int (x4 - x4 / 16 * 16)), (0, .ref (ad x0)), (1, .int x1), (3, .int x3), (4, .int x4)]) E dX6_byColumns_94 (by decide) rfl ?_
      refine j_iload E 4 rfl dX6_byColumns_96 ?_
      refine j_bipush (v := 16) E dX6_byColumns_98 (by decide) ?_
      refine j_idiv E (by decide) dX6_byColumns_100 ?_
      refine j_istore (lv' := [(6, .int (x4 / 16)), (5, .int (x4 - x4 / 16 * 16)), (0, .ref (ad x0)), (1, .int x1), (3, .int x3), (4, .int x4)]) E dX6_byColumns_101 (by decide) rfl ?_
      refine j_aload_n E 2 rfl dX6_byColumns_103 rfl ?_
      obtain ⟨v22, ev22, hf⟩ := bs hf
      refine j_getR (ci := 5) (k0 := 3) (T := TX6) (N := 14) E (mI inUX6) rfl (by decide) (mU uw_3_107) ev22 dX6_byColumns_104 ?_
      refine j_iload_n E 3 rfl dX6_byColumns_107 rfl ?_
      refine j_iload E 1 rfl dX6_byColumns_108 ?_
      refine j_iload E 0 rfl dX6_byColumns_110 ?_
      obtain ⟨v23, e24, hf⟩ := bs hf
      refine j_callS (As := [.int x1, .int (x4 - x4 / 16 * 16), .int (x4 / 16)]) (rest := [.ref (ad v22)]) (v := (some (.int v23))) E (c_X6_cellOf l D ad cy h x1 (x4 - x4 / 16 * 16) (x4 / 16) e24) (mcs E.1.2.2.2.2 uw_3_213 uw_3_211 uw_3_212 uw_1_6 rfl rfl hd_X6_cellOf ⟨by decide, by decide⟩) rfl rfl (Nat.le_of_ble_eq_true rfl) dX6_byColumns_112 ⟨Nat.zero_le _, Nat.zero_le _⟩ ?_
      refine j_stk (st' := [.int v23, .ref (ad v22)]) rfl ?_
      obtain ⟨v25, ev25, hf⟩ := bs hf
      refine j_aZ E ev25 dX6_byColumns_115 ?_
      refine j_if_eq (tgt := 146) E dX6_byColumns_116 (by decide) (fun z26 => ?_) (fun z26 => ?_)
      · have hf := ifp hf z26
        refine j_iinc (v := (x4 + 1)) (k0 := 5) (lv' := [(4, .int (x4 + 1)), (6, .int (x4 / 16)), (5, .int (x4 - x4 / 16 * 16)), (0, .ref (ad x0)), (1, .int x1), (3, .int x3)]) E dX6_byColumns_146 rfl (congrArg (fun z => x4 + z) (by decide)) (by decide) rfl ?_
        refine j_goto (tgt := 81) E dX6_byColumns_149 (by decide) ?_
        refine j_perm (lv' := [(0, .ref (ad x0)), (1, .int x1), (3, .int x3), (4, .int (x4 + 1))]) [3, 4, 5, 0] rfl ?_
        exact ih k h (x4 + 1) hk hf
      · have hf := ifn hf z26
        refine j_aload_n E 2 rfl dX6_byColumns_119 rfl ?_
        refine j_iload_n E 4 rfl dX6_byColumns_120 rfl ?_
        refine j_if_ne (tgt := 130) E dX6_byColumns_121 (by decide) (fun z27 => ?_) (fun z27 => ?_)
        · have hf := ifn hf z27
          refine j_aload_n E 2 rfl dX6_byColumns_130 rfl ?_
          obtain ⟨v31, ev31, hf⟩ := bs hf
          refine j_getR (ci := 5) (k0 := 4) (T := TX6) (N := 14) E (mI inUX6) rfl (by decide) (mU uw_3_108) ev31 dX6_byColumns_131 ?_
          refine j_iload_n E 3 rfl dX6_byColumns_134 rfl ?_
          refine j_iload E 1 rfl dX6_byColumns_135 ?_
          refine j_iload E 0 rfl dX6_byColumns_137 ?_
          obtain ⟨v32, e33, hf⟩ := bs hf
          refine j_callS (As := [.int x1, .int (x4 - x4 / 16 * 16), .int (x4 / 16)]) (rest := [.ref (ad v31), .ref (ad x0)]) (v := (some (.int v32))) E (c_X6_cellOf l D ad cy h x1 (x4 - x4 / 16 * 16) (x4 / 16) e33) (mcs E.1.2.2.2.2 uw_3_213 uw_3_211 uw_3_212 uw_1_6 rfl rfl hd_X6_cellOf ⟨by decide, by decide⟩) rfl rfl (Nat.le_of_ble_eq_true rfl) dX6_byColumns_139 ⟨Nat.zero_le _, Nat.zero_le _⟩ ?_
          refine j_stk (st' := [.int v32, .ref (ad v31), .ref (ad x0)]) rfl ?_
          obtain ⟨v34, ev34, hf⟩ := bs hf
          refine j_aJ E ev34 dX6_byColumns_142 ?_
          obtain ⟨k35, hf⟩ := ck_spec hf
          obtain ⟨h36, e37, hf⟩ := bs hf
          refine j_callV (ci := 5) (b := x0) (As := [.long v34]) (rest := []) (v := none) E (c_X6_lay l D ad cy h x0 v34 e37) (mcw E.1.2.2.2.2 uw_4_44 uw_4_41 uw_4_43 us_2_10 uw_1_6 rfl rfl hd_X6_lay ⟨by decide, by decide⟩) rfl k35 rfl rfl (Nat.le_of_ble_eq_true rfl) dX6_byColumns_143 ⟨Nat.zero_le _, Nat.zero_le _⟩ ?_
          refine j_stk (st' := []) rfl ?_
          refine j_iinc (v := (x4 + 1)) (k0 := 5) (lv' := [(4, .int (x4 + 1)), (6, .int (x4 / 16)), (5, .int (x4 - x4 / 16 * 16)), (0, .ref (ad x0)), (1, .int x1), (3, .int x3)]) E dX6_byColumns_146 rfl (congrArg (fun z => x4 + z) (by decide)) (by decide) rfl ?_
          refine j_goto (tgt := 81) E dX6_byColumns_149 (by decide) ?_
          refine j_perm (lv' := [(0, .ref (ad x0)), (1, .int x1), (3, .int x3), (4, .int (x4 + 1))]) [3, 4, 5, 0] rfl ?_
          exact ih k h36 (x4 + 1) hk hf
        · have hf := ifp hf z27
          refine j_iload E 1 rfl dX6_byColumns_124 ?_
          refine j_i2l E dX6_byColumns_126 ?_
          refine j_goto (tgt := 143) E dX6_byColumns_127 (by decide) ?_
          obtain ⟨k28, hf⟩ := ck_spec hf
          obtain ⟨h29, e30, hf⟩ := bs hf
          refine j_callV (ci := 5) (b := x0) (As := [.long (Int32.toInt64 (x4 - x4 / 16 * 16))]) (rest := []) (v := none) E (c_X6_lay l D ad cy h x0 (Int32.toInt64 (x4 - x4 / 16 * 16)) e30) (mcw E.1.2.2.2.2 uw_4_44 uw_4_41 uw_4_43 us_2_10 uw_1_6 rfl rfl hd_X6_lay ⟨by decide, by decide⟩) rfl k28 rfl rfl (Nat.le_of_ble_eq_true rfl) dX6_byColumns_143 ⟨Nat.zero_le _, Nat.zero_le _⟩ ?_
          refine j_stk (st' := []) rfl ?_
          refine j_iinc (v := (x4 + 1)) (k0 := 5) (lv' := [(4, .int (x4 + 1)), (6, .int (x4 / 16)), (5, .int (x4 - x4 / 16 * 16)), (0, .ref (ad x0)), (1, .int x1), (3, .int x3)]) E dX6_byColumns_146 rfl (congrArg (fun z => x4 + z) (by decide)) (by decide) rfl ?_
          refine j_goto (tgt := 81) E dX6_byColumns_149 (by decide) ?_
          refine j_perm (lv' := [(0, .ref (ad x0)), (1, .int x1), (3, .int x3), (4, .int (x4 + 1))]) [3, 4, 5, 0] rfl ?_
          exact ih k h29 (x4 + 1) hk hf
set_option maxRecDepth 100000 in
set_option maxHeartbeats 4000000 in
theorem w_X6_byColumns_73 {p : Program} {l : Launch} {e : Env} {s : State} {m : MethodId} {args : Array Value} {below : List Frame} {meth : Method} {c : Code} {D : va_G} {ad : Nat → Nat} {cy : Nat → ClassId} (E : EE p s m args c cX6_byColumns 7 (wsM yX6_byColumns cX6_byColumns 7 none) RX6 D cy) (hr : meth.sig.returnType = none) (hlk : meth.locks = false) {h' : HP} (x0 : Nat) (x1 : Int32) : ∀ (n : Nat) (k : (HP → Option (HP))) (h : HP) (x3 : Int32), (∀ (h : HP), k h = some h' → JJ p l e rmX6_byColumns s m args below meth c 0 0 (MQ below (QV D ad cy none h') args s 0 0 (Aw ad)) D ad cy (Aw ad) 7 h [] 158 []) → L_X6_byColumns_73 x0 x1 n k h x3 = some h' → JJ p l e rmX6_byColumns s m args below meth c 0 0 (MQ below (QV D ad cy none h') args s 0 0 (Aw ad)) D ad cy (Aw ad) 7 h [(0, .ref (ad x0)), (1, .int x1), (3, .int x3)] 73 [] := by
  intro n
  induction n with
  | zero => intro k h x3 hk hf; cases hf
  | succ n ih =>
    intro k h x3 hk hf
    unfold L_X6_byColumns_73 at hf
    refine j_iload_n E 2 rfl dX6_byColumns_73 rfl ?_
    refine j_iconst (v := 2) E dX6_byColumns_74 (by decide) ?_
    refine j_icmp_ge (tgt := 158) E dX6_byColumns_75 (by decide) (fun z20 => ?_) (fun z20 => ?_)
    · have hf := ifp hf z20
      refine j_perm (lv' := []) [] rfl ?_
      exact hk h hf
    · have hf := ifn hf z20
      refine j_iconst (v := 0) E dX6_byColumns_78 (by decide) ?_
      refine j_istore (lv' := [(4, .int 0), (0, .ref (ad x0)), (1, .int x1), (3, .int x3)]) E dX6_byColumns_79 (by decide) rfl ?_
      refine j_perm (lv' := [(0, .ref (ad x0)), (1, .int x1), (3, .int x3), (4, .int 0)]) [1, 2, 3, 0] rfl ?_
      refine w_X6_byColumns_81 E hr hlk x0 x1 x3 FU _ h 0 (fun h38 hf => ?_) hf
      refine j_iinc (v := (x3 + 1)) (k0 := 2) (lv' := [(3, .int (x3 + 1)), (0, .ref (ad x0)), (1, .int x1)]) E dX6_byColumns_152 rfl (congrArg (fun z => x3 + z) (by decide)) (by decide) rfl ?_
      refine j_goto (tgt := 73) E dX6_byColumns_155 (by decide) ?_
      refine j_perm (lv' := [(0, .ref (ad x0)), (1, .int x1), (3, .int (x3 + 1))]) [1, 2, 0] rfl ?_
      exact ih k h38 (x3 + 1) hk hf
set_option maxRecDepth 100000 in
set_option maxHeartbeats 4000000 in
theorem c_X6_byColumns (l : Launch) (D : va_G) (ad : Nat → Nat) (cy : Nat → ClassId) (h : HP) (x0 : Nat) (x1 : Int32) {h' : HP} (hf : f_X6_byColumns h x0 x1 = some h') : Met l yX6_byColumns (wsM yX6_byColumns cX6_byColumns 7 none) rmX6_byColumns (va_Pc [.ref (ad x0), .int x1] (PW D ad cy h)) (QV D ad cy none h') 0 0 (Aw ad) := by
  refine met_of (own := RX6) (lv := [(0, .ref (ad x0)), (1, .int x1)]) (by decide) rfl (Nat.le_of_ble_eq_true rfl) rfl (fun p e s m args below meth c E hr hlk => ?_)
  unfold f_X6_byColumns at hf
  refine j_iconst (v := 0) E dX6_byColumns_0 (by decide) ?_
  refine j_istore_n (lv' := [(2, .int 0), (0, .ref (ad x0)), (1, .int x1)]) E dX6_byColumns_1 rfl (by decide) rfl ?_
  refine j_iconst (v := 0) E dX6_byColumns_2 (by decide) ?_
  refine j_istore_n (lv' := [(3, .int 0), (2, .int 0), (0, .ref (ad x0)), (1, .int x1)]) E dX6_byColumns_3 rfl (by decide) rfl ?_
  refine j_perm (lv' := [(0, .ref (ad x0)), (1, .int x1), (2, .int 0), (3, .int 0)]) [2, 3, 1, 0] rfl ?_
  refine w_X6_byColumns_4 E hr hlk x0 x1 FU _ h 0 0 (fun h15 x16 hf => ?_) hf
  refine j_aload_n E 0 rfl dX6_byColumns_65 rfl ?_
  refine j_iload_n E 2 rfl dX6_byColumns_66 rfl ?_
  refine j_i2l E dX6_byColumns_67 ?_
  obtain ⟨k17, hf⟩ := ck_spec hf
  obtain ⟨h18, e19, hf⟩ := bs hf
  refine j_callV (ci := 5) (b := x0) (As := [.long (Int32.toInt64 x16)]) (rest := []) (v := none) E (c_X6_lay l D ad cy h15 x0 (Int32.toInt64 x16) e19) (mcw E.1.2.2.2.2 uw_4_44 uw_4_41 uw_4_43 us_2_10 uw_1_6 rfl rfl hd_X6_lay ⟨by decide, by decide⟩) rfl k17 rfl rfl (Nat.le_of_ble_eq_true rfl) dX6_byColumns_68 ⟨Nat.zero_le _, Nat.zero_le _⟩ ?_
  refine j_stk (st' := []) rfl ?_
  refine j_iconst (v := 0) E dX6_byColumns_71 (by decide) ?_
  refine j_istore_n (lv' := [(3, .int 0), (0, .ref (ad x0)), (1, .int x1), (2, .int x16)]) E dX6_byColumns_72 rfl (by decide) rfl ?_
  refine j_perm (lv' := [(0, .ref (ad x0)), (1, .int x1), (3, .int 0)]) [1, 2, 0] rfl ?_
  refine w_X6_byColumns_73 E hr hlk x0 x1 FU _ h18 0 (fun h39 hf => ?_) hf
  cases hf
  exact j_vret E hr hlk dX6_byColumns_158
noncomputable def L_X6_isBlock_31 (h : HP) (x0 : Nat) (x1 : Int32) (x2 : Int32) (x4 : Int32) (x6 : Int32) : Nat → (Int32 → Option (Int32)) → Int32 → Int32 → Option (Int32)
  | 0, _, _, _ => none
  | n + 1, k, x5, x7 =>
      if ((x2 * x4) + x2) ≤ x7 then (
        k x5
      ) else (
        if 16 ≤ x7 then (
          k x5
        ) else (
          if x5 = 0 then (
            ck 5 h x0 <|
            (f_X6_has h x0 x1 x6 x7).bind fun v7 =>
            if v7 = 0 then (
              L_X6_isBlock_31 h x0 x1 x2 x4 x6 n k 0 (x7 + 1)
            ) else (
              L_X6_isBlock_31 h x0 x1 x2 x4 x6 n k 1 (x7 + 1)
            )
          ) else (
            L_X6_isBlock_31 h x0 x1 x2 x4 x6 n k 1 (x7 + 1)
          )
        )
      )
noncomputable def L_X6_isBlock_8 (h : HP) (x0 : Nat) (x1 : Int32) (x2 : Int32) (x3 : Int32) (x4 : Int32) : Nat → (Int32 → Option (Int32)) → Int32 → Int32 → Option (Int32)
  | 0, _, _, _ => none
  | n + 1, k, x5, x6 =>
      if ((x2 * x3) + x2) ≤ x6 then (
        k x5
      ) else (
        if 16 ≤ x6 then (
          k x5
        ) else (
          L_X6_isBlock_31 h x0 x1 x2 x4 x6 FU (fun x10 =>
            L_X6_isBlock_8 h x0 x1 x2 x3 x4 n k x10 (x6 + 1)) x5 (x2 * x4)
        )
      )
noncomputable def f_X6_isBlock (h : HP) (x0 : Nat) (x1 : Int32) (x2 : Int32) (x3 : Int32) (x4 : Int32) : Option (Int32) :=
  L_X6_isBlock_8 h x0 x1 x2 x3 x4 FU (fun x11 =>
    cz x11 <|
    some x11) 0 (x2 * x3)
abbrev rmX6_isBlock : Room := { frames := 2, cells := 0, slots := 0, locals := 45 }
theorem hd_X6_isBlock : yX6_isBlock.cls = RX6 ∧ yX6_isBlock.cls ≠ "java/lang/invoke/MethodHandle" ∧ yX6_isBlock.cls ≠ "java/lang/invoke/VarHandle" ∧ (parseMethodDescriptor yX6_isBlock.desc).map (fun d => d.parameters.length) = some 4 := by decide +kernel
set_option maxRecDepth 100000 in
set_option maxHeartbeats 4000000 in
theorem w_X6_isBlock_31 {p : Program} {l : Launch} {e : Env} {s : State} {m : MethodId} {args : Array Value} {below : List Frame} {meth : Method} {c : Code} {D : va_G} {ad : Nat → Nat} {cy : Nat → ClassId} (E : EE p s m args c cX6_isBlock 8 (wsM yX6_isBlock cX6_isBlock 8 (some .boolean)) RX6 D cy) (hr : meth.sig.returnType = (some .boolean)) (hlk : meth.locks = false) {r : Int32} (h : HP) (x0 : Nat) (x1 : Int32) (x2 : Int32) (x4 : Int32) (x6 : Int32) (x3 : Int32) : ∀ (n : Nat) (k : (Int32 → Option (Int32))) (x5 : Int32) (x7 : Int32), (∀ (x5 : Int32), k x5 = some r → JJ p l e rmX6_isBlock s m args below meth c 0 0 (MQ below (QV D ad cy (some (.int r)) h) args s 0 0 (Aw ad)) D ad cy (Aw ad) 8 h [(0, .ref (ad x0)), (1, .int x1), (2, .int x2), (3, .int x3), (4, .int x4), (5, .int x5), (6, .int x6)] 79 []) → L_X6_isBlock_31 h x0 x1 x2 x4 x6 n k x5 x7 = some r → JJ p l e rmX6_isBlock s m args below meth c 0 0 (MQ below (QV D ad cy (some (.int r)) h) args s 0 0 (Aw ad)) D ad cy (Aw ad) 8 h [(0, .ref (ad x0)), (1, .int x1), (2, .int x2), (3, .int x3), (4, .int x4), (5, .int x5), (6, .int x6), (7, .int x7)] 31 [] := by
  intro n
  induction n with
  | zero => intro k x5 x7 hk hf; cases hf
  | succ n ih =>
    intro k x5 x7 hk hf
    unfold L_X6_isBlock_31 at hf
    refine j_iload E 7 rfl dX6_isBlock_31 ?_
    refine j_iload_n E 2 rfl dX6_isBlock_33 rfl ?_
    refine j_iload E 4 rfl dX6_isBlock_34 ?_
    refine j_imul E dX6_isBlock_36 ?_
    refine j_iload_n E 2 rfl dX6_isBlock_37 rfl ?_
    refine j_iadd E dX6_isBlock_38 ?_
    refine j_icmp_ge (tgt := 79) E dX6_isBlock_39 (by decide) (fun z3 => ?_) (fun z3 => ?_)
    · have hf := ifp hf z3
      refine j_perm (lv' := [(0, .ref (ad x0)), (1, .int x1), (2, .int x2), (3, .int x3), (4, .int x4), (5, .int x5), (6, .int x6)]) [0, 1, 2, 3, 4, 5, 6] rfl ?_
      exact hk x5 hf
    · have hf := ifn hf z3
      refine j_iload E 7 rfl dX6_isBlock_42 ?_
      refine j_bipush (v := 16) E dX6_isBlock_44 (by decide) ?_
      refine j_icmp_ge (tgt := 79) E dX6_isBlock_46 (by decide) (fun z4 => ?_) (fun z4 => ?_)
      · have hf := ifp hf z4
        refine j_perm (lv' := [(0, .ref (ad x0)), (1, .int x1), (2, .int x2), (3, .int x3), (4, .int x4), (5, .int x5), (6, .int x6)]) [0, 1, 2, 3, 4, 5, 6] rfl ?_
        exact hk x5 hf
      · have hf := ifn hf z4
        refine j_iload E 5 rfl dX6_isBlock_49 ?_
        refine j_if_ne (tgt := 66) E dX6_isBlock_51 (by decide) (fun z5 => ?_) (fun z5 => ?_)
        · have hf := ifn hf z5
          refine j_iconst (v := 1) E dX6_isBlock_66 (by decide) ?_
          refine j_goto (tgt := 71) E dX6_isBlock_67 (by decide) ?_
          refine j_istore (lv' := [(5, .int 1), (0, .ref (ad x0)), (1, .int x1), (2, .int x2), (3, .int x3), (4, .int x4), (6, .int x6), (7, .int x7)]) E dX6_isBlock_71 (by decide) rfl ?_
          refine j_iinc (v := (x7 + 1)) (k0 := 7) (lv' := [(7, .int (x7 + 1)), (5, .int 1), (0, .ref (ad x0)), (1, .int x1), (2, .int x2), (3, .int x3), (4, .int x4), (6, .int x6)]) E dX6_isBlock_73 rfl (congrArg (fun z => x7 + z) (by decide)) (by decide) rfl ?_
          refine j_goto (tgt := 31) E dX6_isBlock_76 (by decide) ?_
          refine j_perm (lv' := [(0, .ref (ad x0)), (1, .int x1), (2, .int x2), (3, .int x3), (4, .int x4), (5, .int 1), (6, .int x6), (7, .int (x7 + 1))]) [2, 3, 4, 5, 6, 1, 7, 0] rfl ?_
          exact ih k 1 (x7 + 1) hk hf
        · have hf := ifp hf z5
          refine j_aload_n E 0 rfl dX6_isBlock_54 rfl ?_
          refine j_iload_n E 1 rfl dX6_isBlock_55 rfl ?_
          refine j_iload E 6 rfl dX6_isBlock_56 ?_
          refine j_iload E 7 rfl dX6_isBlock_58 ?_
          obtain ⟨k6, hf⟩ := ck_spec hf
          obtain ⟨v7, e8, hf⟩ := bs hf
          refine j_callV (ci := 5) (b := x0) (As := [.int x1, .int x6, .int x7]) (rest := []) (v := (some (.int v7))) E (c_X6_has l D ad cy h x0 x1 x6 x7 e8) (mcw E.1.2.2.2.2 uw_3_210 uw_3_207 uw_3_209 us_2_6 uw_1_6 rfl rfl hd_X6_has ⟨by decide, by decide⟩) rfl k6 rfl rfl (Nat.le_of_ble_eq_true rfl) dX6_isBlock_60 ⟨Nat.zero_le _, Nat.zero_le _⟩ ?_
          refine j_stk (st' := [.int v7]) rfl ?_
          refine j_if_eq (tgt := 70) E dX6_isBlock_63 (by decide) (fun z9 => ?_) (fun z9 => ?_)
          · have hf := ifp hf z9
            refine j_iconst (v := 0) E dX6_isBlock_70 (by decide) ?_
            refine j_istore (lv' := [(5, .int 0), (0, .ref (ad x0)), (1, .int x1), (2, .int x2), (3, .int x3), (4, .int x4), (6, .int x6), (7, .int x7)]) E dX6_isBlock_71 (by decide) rfl ?_
            refine j_iinc (v := (x7 + 1)) (k0 := 7) (lv' := [(7, .int (x7 + 1)), (5, .int 0), (0, .ref (ad x0)), (1, .int x1), (2, .int x2), (3, .int x3), (4, .int x4), (6, .int x6)]) E dX6_isBlock_73 rfl (congrArg (fun z => x7 + z) (by decide)) (by decide) rfl ?_
            refine j_goto (tgt := 31) E dX6_isBlock_76 (by decide) ?_
            refine j_perm (lv' := [(0, .ref (ad x0)), (1, .int x1), (2, .int x2), (3, .int x3), (4, .int x4), (5, .int 0), (6, .int x6), (7, .int (x7 + 1))]) [2, 3, 4, 5, 6, 1, 7, 0] rfl ?_
            exact ih k 0 (x7 + 1) hk hf
          · have hf := ifn hf z9
            refine j_iconst (v := 1) E dX6_isBlock_66 (by decide) ?_
            refine j_goto (tgt := 71) E dX6_isBlock_67 (by decide) ?_
            refine j_istore (lv' := [(5, .int 1), (0, .ref (ad x0)), (1, .int x1), (2, .int x2), (3, .int x3), (4, .int x4), (6, .int x6), (7, .int x7)]) E dX6_isBlock_71 (by decide) rfl ?_
            refine j_iinc (v := (x7 + 1)) (k0 := 7) (lv' := [(7, .int (x7 + 1)), (5, .int 1), (0, .ref (ad x0)), (1, .int x1), (2, .int x2), (3, .int x3), (4, .int x4), (6, .int x6)]) E dX6_isBlock_73 rfl (congrArg (fun z => x7 + z) (by decide)) (by decide) rfl ?_
            refine j_goto (tgt := 31) E dX6_isBlock_76 (by decide) ?_
            refine j_perm (lv' := [(0, .ref (ad x0)), (1, .int x1), (2, .int x2), (3, .int x3), (4, .int x4), (5, .int 1), (6, .int x6), (7, .int (x7 + 1))]) [2, 3, 4, 5, 6, 1, 7, 0] rfl ?_
            exact ih k 1 (x7 + 1) hk hf
set_option maxRecDepth 100000 in
set_option maxHeartbeats 4000000 in
theorem w_X6_isBlock_8 {p : Program} {l : Launch} {e : Env} {s : State} {m : MethodId} {args : Array Value} {below : List Frame} {meth : Method} {c : Code} {D : va_G} {ad : Nat → Nat} {cy : Nat → ClassId} (E : EE p s m args c cX6_isBlock 8 (wsM yX6_isBlock cX6_isBlock 8 (some .boolean)) RX6 D cy) (hr : meth.sig.returnType = (some .boolean)) (hlk : meth.locks = false) {r : Int32} (h : HP) (x0 : Nat) (x1 : Int32) (x2 : Int32) (x3 : Int32) (x4 : Int32) : ∀ (n : Nat) (k : (Int32 → Option (Int32))) (x5 : Int32) (x6 : Int32), (∀ (x5 : Int32), k x5 = some r → JJ p l e rmX6_isBlock s m args below meth c 0 0 (MQ below (QV D ad cy (some (.int r)) h) args s 0 0 (Aw ad)) D ad cy (Aw ad) 8 h [(5, .int x5)] 85 []) → L_X6_isBlock_8 h x0 x1 x2 x3 x4 n k x5 x6 = some r → JJ p l e rmX6_isBlock s m args below meth c 0 0 (MQ below (QV D ad cy (some (.int r)) h) args s 0 0 (Aw ad)) D ad cy (Aw ad) 8 h [(0, .ref (ad x0)), (1, .int x1), (2, .int x2), (3, .int x3), (4, .int x4), (5, .int x5), (6, .int x6)] 8 [] := by
  intro n
  induction n with
  | zero => intro k x5 x6 hk hf; cases hf
  | succ n ih =>
    intro k x5 x6 hk hf
    unfold L_X6_isBlock_8 at hf
    refine j_iload E 6 rfl dX6_isBlock_8 ?_
    refine j_iload_n E 2 rfl dX6_isBlock_10 rfl ?_
    refine j_iload_n E 3 rfl dX6_isBlock_11 rfl ?_
    refine j_imul E dX6_isBlock_12 ?_
    refine j_iload_n E 2 rfl dX6_isBlock_13 rfl ?_
    refine j_iadd E dX6_isBlock_14 ?_
    refine j_icmp_ge (tgt := 85) E dX6_isBlock_15 (by decide) (fun z1 => ?_) (fun z1 => ?_)
    · have hf := ifp hf z1
      refine j_perm (lv' := [(5, .int x5)]) [5] rfl ?_
      exact hk x5 hf
    · have hf := ifn hf z1
      refine j_iload E 6 rfl dX6_isBlock_18 ?_
      refine j_bipush (v := 16) E dX6_isBlock_20 (by decide) ?_
      refine j_icmp_ge (tgt := 85) E dX6_isBlock_22 (by decide) (fun z2 => ?_) (fun z2 => ?_)
      · have hf := ifp hf z2
        refine j_perm (lv' := [(5, .int x5)]) [5] rfl ?_
        exact hk x5 hf
      · have hf := ifn hf z2
        refine j_iload_n E 2 rfl dX6_isBlock_25 rfl ?_
        refine j_iload E 4 rfl dX6_isBlock_26 ?_
        refine j_imul E dX6_isBlock_28 ?_
        refine j_istore (lv' := [(7, .int (x2 * x4)), (0, .ref (ad x0)), (1, .int x1), (2, .int x2), (3, .int x3), (4, .int x4), (5, .int x5), (6, .int x6)]) E dX6_isBlock_29 (by decide) rfl ?_
        refine j_perm (lv' := [(0, .ref (ad x0)), (1, .int x1), (2, .int x2), (3, .int x3), (4, .int x4), (5, .int x5), (6, .int x6), (7, .int (x2 * x4))]) [1, 2, 3, 4, 5, 6, 7, 0] rfl ?_
        refine w_X6_isBlock_31 E hr hlk h x0 x1 x2 x4 x6 x3 FU _ x5 (x2 * x4) (fun x10 hf => ?_) hf
        refine j_iinc (v := (x6 + 1)) (k0 := 6) (lv' := [(6, .int (x6 + 1)), (0, .ref (ad x0)), (1, .int x1), (2, .int x2), (3, .int x3), (4, .int x4), (5, .int x10)]) E dX6_isBlock_79 rfl (congrArg (fun z => x6 + z) (by decide)) (by decide) rfl ?_
        refine j_goto (tgt := 8) E dX6_isBlock_82 (by decide) ?_
        refine j_perm (lv' := [(0, .ref (ad x0)), (1, .int x1), (2, .int x2), (3, .int x3), (4, .int x4), (5, .int x10), (6, .int (x6 + 1))]) [1, 2, 3, 4, 5, 6, 0] rfl ?_
        exact ih k x10 (x6 + 1) hk hf
set_option maxRecDepth 100000 in
set_option maxHeartbeats 4000000 in
theorem c_X6_isBlock (l : Launch) (D : va_G) (ad : Nat → Nat) (cy : Nat → ClassId) (h : HP) (x0 : Nat) (x1 : Int32) (x2 : Int32) (x3 : Int32) (x4 : Int32) {r : Int32} (hf : f_X6_isBlock h x0 x1 x2 x3 x4 = some r) : Met l yX6_isBlock (wsM yX6_isBlock cX6_isBlock 8 (some .boolean)) rmX6_isBlock (va_Pc [.ref (ad x0), .int x1, .int x2, .int x3, .int x4] (PW D ad cy h)) (QV D ad cy (some (.int r)) h) 0 0 (Aw ad) := by
  refine met_of (own := RX6) (lv := [(0, .ref (ad x0)), (1, .int x1), (2, .int x2), (3, .int x3), (4, .int x4)]) (by decide) rfl (Nat.le_of_ble_eq_true rfl) rfl (fun p e s m args below meth c E hr hlk => ?_)
  unfold f_X6_isBlock at hf
  refine j_iconst (v := 0) E dX6_isBlock_0 (by decide) ?_
  refine j_istore (lv' := [(5, .int 0), (0, .ref (ad x0)), (1, .int x1), (2, .int x2), (3, .int x3), (4, .int x4)]) E dX6_isBlock_1 (by decide) rfl ?_
  refine j_iload_n E 3 rfl dX6_isBlock_3 rfl ?_
  refine j_iload_n E 4 rfl dX6_isBlock_4 rfl ?_
  refine j_imul E dX6_isBlock_5 ?_
  refine j_istore (lv' := [(6, .int (x2 * x3)), (5, .int 0), (0, .ref (ad x0)), (1, .int x1), (2, .int x2), (3, .int x3), (4, .int x4)]) E dX6_isBlock_6 (by decide) rfl ?_
  refine j_perm (lv' := [(0, .ref (ad x0)), (1, .int x1), (2, .int x2), (3, .int x3), (4, .int x4), (5, .int 0), (6, .int (x2 * x3))]) [2, 3, 4, 5, 6, 1, 0] rfl ?_
  refine w_X6_isBlock_8 E hr hlk h x0 x1 x2 x3 x4 FU _ 0 (x2 * x3) (fun x11 hf => ?_) hf
  refine j_iload E 0 rfl dX6_isBlock_85 ?_
  obtain ⟨n12, hf⟩ := cz_spec hf
  cases hf
  exact j_zret E hr hlk n12 dX6_isBlock_87
noncomputable def L_X6_layBlock_16 (x0 : Nat) (x1 : Int32) (x2 : Int32) (x3 : Int32) (x4 : Int32) : Nat → (HP → Option (HP)) → HP → Int32 → Option (HP)
  | 0, _, _, _ => none
  | n + 1, k, h, x6 =>
      if (x2 * x2) ≤ x6 then (
        k h
      ) else (
        nz x2 <|
        nz x2 <|
        ck 5 h x0 <|
        (f_X6_holds h x0 x1 ((x2 * x3) + (x6 / x2)) ((x2 * x4) + (x6 - x6 / x2 * x2))).bind fun v9 =>
        ck 5 h x0 <|
        (f_X6_lay h x0 v9).bind fun h12 =>
        L_X6_layBlock_16 x0 x1 x2 x3 x4 n k h12 (x6 + 1)
      )
noncomputable def f_X6_layBlock (h : HP) (x0 : Nat) (x1 : Int32) (x2 : Int32) (x3 : Int32) (x4 : Int32) (x5 : Int32) : Option (HP) :=
  if x5 = 0 then (
    ck 5 h x0 <|
    (f_X6_lay h x0 (Int32.toInt64 x4)).bind fun h3 =>
    some h3
  ) else (
    L_X6_layBlock_16 x0 x1 x2 x3 x4 FU (fun h14 =>
      some h14) h 0
  )
abbrev rmX6_layBlock : Room := { frames := 3, cells := 0, slots := 0, locals := 68 }
theorem hd_X6_layBlock : yX6_layBlock.cls = RX6 ∧ yX6_layBlock.cls ≠ "java/lang/invoke/MethodHandle" ∧ yX6_layBlock.cls ≠ "java/lang/invoke/VarHandle" ∧ (parseMethodDescriptor yX6_layBlock.desc).map (fun d => d.parameters.length) = some 5 := by decide +kernel
set_option maxRecDepth 100000 in
set_option maxHeartbeats 4000000 in
theorem w_X6_layBlock_16 {p : Program} {l : Launch} {e : Env} {s : State} {m : MethodId} {args : Array Value} {below : List Frame} {meth : Method} {c : Code} {D : va_G} {ad : Nat → Nat} {cy : Nat → ClassId} (E : EE p s m args c cX6_layBlock 7 (wsM yX6_layBlock cX6_layBlock 7 none) RX6 D cy) (hr : meth.sig.returnType = none) (hlk : meth.locks = false) {h' : HP} (x0 : Nat) (x1 : Int32) (x2 : Int32) (x3 : Int32) (x4 : Int32) : ∀ (n : Nat) (k : (HP → Option (HP))) (h : HP) (x6 : Int32), (∀ (h : HP), k h = some h' → JJ p l e rmX6_layBlock s m args below meth c 0 0 (MQ below (QV D ad cy none h') args s 0 0 (Aw ad)) D ad cy (Aw ad) 7 h [] 56 []) → L_X6_layBlock_16 x0 x1 x2 x3 x4 n k h x6 = some h' → JJ p l e rmX6_layBlock s m args below meth c 0 0 (MQ below (QV D ad cy none h') args s 0 0 (Aw ad)) D ad cy (Aw ad) 7 h [(0, .ref (ad x0)), (1, .int x1), (2, .int x2), (3, .int x3), (4, .int x4), (6, .int x6)] 16 [] := by
  intro n
  induction n with
  | zero => intro k h x6 hk hf; cases hf
  | succ n ih =>
    intro k h x6 hk hf
    unfold L_X6_layBlock_16 at hf
    refine j_iload E 5 rfl dX6_layBlock_16 ?_
    refine j_iload_n E 2 rfl dX6_layBlock_18 rfl ?_
    refine j_iload_n E 2 rfl dX6_layBlock_19 rfl ?_
    refine j_imul E dX6_layBlock_20 ?_
    refine j_icmp_ge (tgt := 56) E dX6_layBlock_21 (by decide) (fun z5 => ?_) (fun z5 => ?_)
    · have hf := ifp hf z5
      refine j_perm (lv' := []) [] rfl ?_
      exact hk h hf
    · have hf := ifn hf z5
      refine j_aload_n E 0 rfl dX6_layBlock_24 rfl ?_
      refine j_aload_n E 0 rfl dX6_layBlock_25 rfl ?_
      refine j_iload_n E 1 rfl dX6_layBlock_26 rfl ?_
      refine j_iload_n E 2 rfl dX6_layBlock_27 rfl ?_
      refine j_iload_n E 3 rfl dX6_layBlock_28 rfl ?_
      refine j_imul E dX6_layBlock_29 ?_
      refine j_iload E 5 rfl dX6_layBlock_30 ?_
      refine j_iload_n E 2 rfl dX6_layBlock_32 rfl ?_
      obtain ⟨n6, hf⟩ := nz_spec hf
      refine j_idiv E n6 dX6_layBlock_33 ?_
      refine j_iadd E dX6_layBlock_34 ?_
      refine j_iload_n E 2 rfl dX6_layBlock_35 rfl ?_
      refine j_iload E 4 rfl dX6_layBlock_36 ?_
      refine j_imul E dX6_layBlock_38 ?_
      refine j_iload E 5 rfl dX6_layBlock_39 ?_
      refine j_iload_n E 2 rfl dX6_layBlock_41 rfl ?_
      obtain ⟨n7, hf⟩ := nz_spec hf
      refine j_irem E n7 dX6_layBlock_42 ?_
      refine j_iadd E dX6_layBlock_43 ?_
      obtain ⟨k8, hf⟩ := ck_spec hf
      obtain ⟨v9, e10, hf⟩ := bs hf
      refine j_callV (ci := 5) (b := x0) (As := [.int x1, .int ((x2 * x3) + (x6 / x2)), .int ((x2 * x4) + (x6 - x6 / x2 * x2))]) (rest := [.ref (ad x0)]) (v := (some (.long v9))) E (c_X6_holds l D ad cy h x0 x1 ((x2 * x3) + (x6 / x2)) ((x2 * x4) + (x6 - x6 / x2 * x2)) e10) (mcw E.1.2.2.2.2 uw_3_206 uw_3_203 uw_3_205 us_2_5 uw_1_6 rfl rfl hd_X6_holds ⟨by decide, by decide⟩) rfl k8 rfl rfl (Nat.le_of_ble_eq_true rfl) dX6_layBlock_44 ⟨Nat.zero_le _, Nat.zero_le _⟩ ?_
      refine j_stk (st' := [.long v9, .ref (ad x0)]) rfl ?_
      obtain ⟨k11, hf⟩ := ck_spec hf
      obtain ⟨h12, e13, hf⟩ := bs hf
      refine j_callV (ci := 5) (b := x0) (As := [.long v9]) (rest := []) (v := none) E (c_X6_lay l D ad cy h x0 v9 e13) (mcw E.1.2.2.2.2 uw_4_44 uw_4_41 uw_4_43 us_2_10 uw_1_6 rfl rfl hd_X6_lay ⟨by decide, by decide⟩) rfl k11 rfl rfl (Nat.le_of_ble_eq_true rfl) dX6_layBlock_47 ⟨Nat.zero_le _, Nat.zero_le _⟩ ?_
      refine j_stk (st' := []) rfl ?_
      refine j_iinc (v := (x6 + 1)) (k0 := 5) (lv' := [(6, .int (x6 + 1)), (0, .ref (ad x0)), (1, .int x1), (2, .int x2), (3, .int x3), (4, .int x4)]) E dX6_layBlock_50 rfl (congrArg (fun z => x6 + z) (by decide)) (by decide) rfl ?_
      refine j_goto (tgt := 16) E dX6_layBlock_53 (by decide) ?_
      refine j_perm (lv' := [(0, .ref (ad x0)), (1, .int x1), (2, .int x2), (3, .int x3), (4, .int x4), (6, .int (x6 + 1))]) [1, 2, 3, 4, 5, 0] rfl ?_
      exact ih k h12 (x6 + 1) hk hf
set_option maxRecDepth 100000 in
set_option maxHeartbeats 4000000 in
theorem c_X6_layBlock (l : Launch) (D : va_G) (ad : Nat → Nat) (cy : Nat → ClassId) (h : HP) (x0 : Nat) (x1 : Int32) (x2 : Int32) (x3 : Int32) (x4 : Int32) (x5 : Int32) {h' : HP} (hf : f_X6_layBlock h x0 x1 x2 x3 x4 x5 = some h') : Met l yX6_layBlock (wsM yX6_layBlock cX6_layBlock 7 none) rmX6_layBlock (va_Pc [.ref (ad x0), .int x1, .int x2, .int x3, .int x4, .int x5] (PW D ad cy h)) (QV D ad cy none h') 0 0 (Aw ad) := by
  refine met_of (own := RX6) (lv := [(0, .ref (ad x0)), (1, .int x1), (2, .int x2), (3, .int x3), (4, .int x4), (5, .int x5)]) (by decide) rfl (Nat.le_of_ble_eq_true rfl) rfl (fun p e s m args below meth c E hr hlk => ?_)
  unfold f_X6_layBlock at hf
  refine j_iload E 5 rfl dX6_layBlock_0 ?_
  refine j_if_ne (tgt := 13) E dX6_layBlock_2 (by decide) (fun z1 => ?_) (fun z1 => ?_)
  · have hf := ifn hf z1
    refine j_iconst (v := 0) E dX6_layBlock_13 (by decide) ?_
    refine j_istore (lv' := [(6, .int 0), (0, .ref (ad x0)), (1, .int x1), (2, .int x2), (3, .int x3), (4, .int x4), (5, .int x5)]) E dX6_layBlock_14 (by decide) rfl ?_
    refine j_perm (lv' := [(0, .ref (ad x0)), (1, .int x1), (2, .int x2), (3, .int x3), (4, .int x4), (6, .int 0)]) [1, 2, 3, 4, 5, 0] rfl ?_
    refine w_X6_layBlock_16 E hr hlk x0 x1 x2 x3 x4 FU _ h 0 (fun h14 hf => ?_) hf
    cases hf
    exact j_vret E hr hlk dX6_layBlock_56
  · have hf := ifp hf z1
    refine j_aload_n E 0 rfl dX6_layBlock_5 rfl ?_
    refine j_iload E 4 rfl dX6_layBlock_6 ?_
    refine j_i2l E dX6_layBlock_8 ?_
    obtain ⟨k2, hf⟩ := ck_spec hf
    obtain ⟨h3, e4, hf⟩ := bs hf
    refine j_callV (ci := 5) (b := x0) (As := [.long (Int32.toInt64 x4)]) (rest := []) (v := none) E (c_X6_lay l D ad cy h x0 (Int32.toInt64 x4) e4) (mcw E.1.2.2.2.2 uw_4_44 uw_4_41 uw_4_43 us_2_10 uw_1_6 rfl rfl hd_X6_lay ⟨by decide, by decide⟩) rfl k2 rfl rfl (Nat.le_of_ble_eq_true rfl) dX6_layBlock_9 ⟨Nat.zero_le _, Nat.zero_le _⟩ ?_
    refine j_stk (st' := []) rfl ?_
    cases hf
    exact j_vret E hr hlk dX6_layBlock_12
noncomputable def L_X6_blocks_49 (h : HP) (x0 : Nat) (x1 : Int32) (x2 : Int32) (x4 : Int32) (x6 : Int32) : Nat → (Int32 → Option (HP)) → Int32 → Int32 → Option (HP)
  | 0, _, _, _ => none
  | n + 1, k, x5, x7 =>
      if x4 ≤ x7 then (
        k x5
      ) else (
        ck 5 h x0 <|
        (f_X6_isBlock h x0 x1 x2 x6 x7).bind fun v13 =>
        if v13 = 0 then (
          L_X6_blocks_49 h x0 x1 x2 x4 x6 n k (x5 + 0) (x7 + 1)
        ) else (
          L_X6_blocks_49 h x0 x1 x2 x4 x6 n k (x5 + 1) (x7 + 1)
        )
      )
noncomputable def L_X6_blocks_33 (x0 : Nat) (x1 : Int32) (x2 : Int32) (x3 : Int32) (x4 : Int32) : Nat → (HP → Int32 → Option (HP)) → HP → Int32 → Int32 → Option (HP)
  | 0, _, _, _, _ => none
  | n + 1, k, h, x5, x6 =>
      if x3 ≤ x6 then (
        k h x5
      ) else (
        ck 5 h x0 <|
        (f_X6_lay h x0 (Int32.toInt64 x5)).bind fun h9 =>
        L_X6_blocks_49 h9 x0 x1 x2 x4 x6 FU (fun x16 =>
          L_X6_blocks_33 x0 x1 x2 x3 x4 n k h9 x16 (x6 + 1)) x5 0
      )
noncomputable def L_X6_blocks_119 (x0 : Nat) (x1 : Int32) (x2 : Int32) (x4 : Int32) (x6 : Int32) (x7 : Int32) : Nat → (HP → Option (HP)) → HP → Int32 → Option (HP)
  | 0, _, _, _ => none
  | n + 1, k, h, x8 =>
      if x4 ≤ x8 then (
        k h
      ) else (
        ck 5 h x0 <|
        (f_X6_isBlock h x0 x1 x2 x7 x8).bind fun v26 =>
        if v26 = 0 then (
          L_X6_blocks_119 x0 x1 x2 x4 x6 x7 n k h (x8 + 1)
        ) else (
          ck 5 h x0 <|
          (f_X6_layBlock h x0 x1 x2 x7 x8 x6).bind fun h30 =>
          L_X6_blocks_119 x0 x1 x2 x4 x6 x7 n k h30 (x8 + 1)
        )
      )
noncomputable def L_X6_blocks_110 (x0 : Nat) (x1 : Int32) (x2 : Int32) (x3 : Int32) (x4 : Int32) (x6 : Int32) : Nat → (HP → Option (HP)) → HP → Int32 → Option (HP)
  | 0, _, _, _ => none
  | n + 1, k, h, x7 =>
      if x3 ≤ x7 then (
        k h
      ) else (
        L_X6_blocks_119 x0 x1 x2 x4 x6 x7 FU (fun h32 =>
          L_X6_blocks_110 x0 x1 x2 x3 x4 x6 n k h32 (x7 + 1)) h 0
      )
noncomputable def L_X6_blocks_101 (x0 : Nat) (x1 : Int32) (x2 : Int32) (x3 : Int32) (x4 : Int32) : Nat → (HP → Option (HP)) → HP → Int32 → Option (HP)
  | 0, _, _, _ => none
  | n + 1, k, h, x6 =>
      if 2 ≤ x6 then (
        k h
      ) else (
        L_X6_blocks_110 x0 x1 x2 x3 x4 x6 FU (fun h33 =>
          L_X6_blocks_101 x0 x1 x2 x3 x4 n k h33 (x6 + 1)) h 0
      )
noncomputable def f_X6_blocks (h : HP) (x0 : Nat) (x1 : Int32) (x2 : Int32) : Option (HP) :=
  (gR 5 h x0 1).bind fun v1 =>
  (aI h v1 x1).bind fun v2 =>
  nz x2 <|
  (gR 5 h x0 2).bind fun v4 =>
  (aI h v4 x1).bind fun v5 =>
  nz x2 <|
  L_X6_blocks_33 x0 x1 x2 (((v2 + x2) - 1) / x2) (((v5 + x2) - 1) / x2) FU (fun h17 x18 =>
    ck 5 h17 x0 <|
    (f_X6_lay h17 x0 (Int32.toInt64 x18)).bind fun h20 =>
    L_X6_blocks_101 x0 x1 x2 (((v2 + x2) - 1) / x2) (((v5 + x2) - 1) / x2) FU (fun h34 =>
      some h34) h20 0) h 0 0
abbrev rmX6_blocks : Room := { frames := 4, cells := 0, slots := 0, locals := 94 }
theorem hd_X6_blocks : yX6_blocks.cls = RX6 ∧ yX6_blocks.cls ≠ "java/lang/invoke/MethodHandle" ∧ yX6_blocks.cls ≠ "java/lang/invoke/VarHandle" ∧ (parseMethodDescriptor yX6_blocks.desc).map (fun d => d.parameters.length) = some 2 := by decide +kernel
set_option maxRecDepth 100000 in
set_option maxHeartbeats 4000000 in
theorem w_X6_blocks_49 {p : Program} {l : Launch} {e : Env} {s : State} {m : MethodId} {args : Array Value} {below : List Frame} {meth : Method} {c : Code} {D : va_G} {ad : Nat → Nat} {cy : Nat → ClassId} (E : EE p s m args c cX6_blocks 9 (wsM yX6_blocks cX6_blocks 9 none) RX6 D cy) (hr : meth.sig.returnType = none) (hlk : meth.locks = false) {h' : HP} (h : HP) (x0 : Nat) (x1 : Int32) (x2 : Int32) (x4 : Int32) (x6 : Int32) (x3 : Int32) : ∀ (n : Nat) (k : (Int32 → Option (HP))) (x5 : Int32) (x7 : Int32), (∀ (x5 : Int32), k x5 = some h' → JJ p l e rmX6_blocks s m args below meth c 0 0 (MQ below (QV D ad cy none h') args s 0 0 (Aw ad)) D ad cy (Aw ad) 9 h [(0, .ref (ad x0)), (1, .int x1), (2, .int x2), (3, .int x3), (4, .int x4), (5, .int x5), (6, .int x6)] 85 []) → L_X6_blocks_49 h x0 x1 x2 x4 x6 n k x5 x7 = some h' → JJ p l e rmX6_blocks s m args below meth c 0 0 (MQ below (QV D ad cy none h') args s 0 0 (Aw ad)) D ad cy (Aw ad) 9 h [(0, .ref (ad x0)), (1, .int x1), (2, .int x2), (3, .int x3), (4, .int x4), (5, .int x5), (6, .int x6), (7, .int x7)] 49 [] := by
  intro n
  induction n with
  | zero => intro k x5 x7 hk hf; cases hf
  | succ n ih =>
    intro k x5 x7 hk hf
    unfold L_X6_blocks_49 at hf
    refine j_iload E 7 rfl dX6_blocks_49 ?_
    refine j_iload E 4 rfl dX6_blocks_51 ?_
    refine j_icmp_ge (tgt := 85) E dX6_blocks_53 (by decide) (fun z11 => ?_) (fun z11 => ?_)
    · have hf := ifp hf z11
      refine j_perm (lv' := [(0, .ref (ad x0)), (1, .int x1), (2, .int x2), (3, .int x3), (4, .int x4), (5, .int x5), (6, .int x6)]) [0, 1, 2, 3, 4, 5, 6] rfl ?_
      exact hk x5 hf
    · have hf := ifn hf z11
      refine j_iload E 5 rfl dX6_blocks_56 ?_
      refine j_aload_n E 0 rfl dX6_blocks_58 rfl ?_
      refine j_iload_n E 1 rfl dX6_blocks_59 rfl ?_
      refine j_iload_n E 2 rfl dX6_blocks_60 rfl ?_
      refine j_iload E 6 rfl dX6_blocks_61 ?_
      refine j_iload E 7 rfl dX6_blocks_63 ?_
      obtain ⟨k12, hf⟩ := ck_spec hf
      obtain ⟨v13, e14, hf⟩ := bs hf
      refine j_callV (ci := 5) (b := x0) (As := [.int x1, .int x2, .int x6, .int x7]) (rest := [.int x5]) (v := (some (.int v13))) E (c_X6_isBlock l D ad cy h x0 x1 x2 x6 x7 e14) (mcw E.1.2.2.2.2 uw_4_60 uw_4_57 uw_4_59 us_2_14 uw_1_6 rfl rfl hd_X6_isBlock ⟨by decide, by decide⟩) rfl k12 rfl rfl (Nat.le_of_ble_eq_true rfl) dX6_blocks_65 ⟨Nat.zero_le _, Nat.zero_le _⟩ ?_
      refine j_stk (st' := [.int v13, .int x5]) rfl ?_
      refine j_if_eq (tgt := 75) E dX6_blocks_68 (by decide) (fun z15 => ?_) (fun z15 => ?_)
      · have hf := ifp hf z15
        refine j_iconst (v := 0) E dX6_blocks_75 (by decide) ?_
        refine j_iadd E dX6_blocks_76 ?_
        refine j_istore (lv' := [(5, .int (x5 + 0)), (0, .ref (ad x0)), (1, .int x1), (2, .int x2), (3, .int x3), (4, .int x4), (6, .int x6), (7, .int x7)]) E dX6_blocks_77 (by decide) rfl ?_
        refine j_iinc (v := (x7 + 1)) (k0 := 7) (lv' := [(7, .int (x7 + 1)), (5, .int (x5 + 0)), (0, .ref (ad x0)), (1, .int x1), (2, .int x2), (3, .int x3), (4, .int x4), (6, .int x6)]) E dX6_blocks_79 rfl (congrArg (fun z => x7 + z) (by decide)) (by decide) rfl ?_
        refine j_goto (tgt := 49) E dX6_blocks_82 (by decide) ?_
        refine j_perm (lv' := [(0, .ref (ad x0)), (1, .int x1), (2, .int x2), (3, .int x3), (4, .int x4), (5, .int (x5 + 0)), (6, .int x6), (7, .int (x7 + 1))]) [2, 3, 4, 5, 6, 1, 7, 0] rfl ?_
        exact ih k (x5 + 0) (x7 + 1) hk hf
      · have hf := ifn hf z15
        refine j_iconst (v := 1) E dX6_blocks_71 (by decide) ?_
        refine j_goto (tgt := 76) E dX6_blocks_72 (by decide) ?_
        refine j_iadd E dX6_blocks_76 ?_
        refine j_istore (lv' := [(5, .int (x5 + 1)), (0, .ref (ad x0)), (1, .int x1), (2, .int x2), (3, .int x3), (4, .int x4), (6, .int x6), (7, .int x7)]) E dX6_blocks_77 (by decide) rfl ?_
        refine j_iinc (v := (x7 + 1)) (k0 := 7) (lv' := [(7, .int (x7 + 1)), (5, .int (x5 + 1)), (0, .ref (ad x0)), (1, .int x1), (2, .int x2), (3, .int x3), (4, .int x4), (6, .int x6)]) E dX6_blocks_79 rfl (congrArg (fun z => x7 + z) (by decide)) (by decide) rfl ?_
        refine j_goto (tgt := 49) E dX6_blocks_82 (by decide) ?_
        refine j_perm (lv' := [(0, .ref (ad x0)), (1, .int x1), (2, .int x2), (3, .int x3), (4, .int x4), (5, .int (x5 + 1)), (6, .int x6), (7, .int (x7 + 1))]) [2, 3, 4, 5, 6, 1, 7, 0] rfl ?_
        exact ih k (x5 + 1) (x7 + 1) hk hf
set_option maxRecDepth 100000 in
set_option maxHeartbeats 4000000 in
theorem w_X6_blocks_33 {p : Program} {l : Launch} {e : Env} {s : State} {m : MethodId} {args : Array Value} {below : List Frame} {meth : Method} {c : Code} {D : va_G} {ad : Nat → Nat} {cy : Nat → ClassId} (E : EE p s m args c cX6_blocks 9 (wsM yX6_blocks cX6_blocks 9 none) RX6 D cy) (hr : meth.sig.returnType = none) (hlk : meth.locks = false) {h' : HP} (x0 : Nat) (x1 : Int32) (x2 : Int32) (x3 : Int32) (x4 : Int32) : ∀ (n : Nat) (k : (HP → Int32 → Option (HP))) (h : HP) (x5 : Int32) (x6 : Int32), (∀ (h : HP) (x5 : Int32), k h x5 = some h' → JJ p l e rmX6_blocks s m args below meth c 0 0 (MQ below (QV D ad cy none h') args s 0 0 (Aw ad)) D ad cy (Aw ad) 9 h [(0, .ref (ad x0)), (1, .int x1), (2, .int x2), (3, .int x3), (4, .int x4), (5, .int x5)] 91 []) → L_X6_blocks_33 x0 x1 x2 x3 x4 n k h x5 x6 = some h' → JJ p l e rmX6_blocks s m args below meth c 0 0 (MQ below (QV D ad cy none h') args s 0 0 (Aw ad)) D ad cy (Aw ad) 9 h [(0, .ref (ad x0)), (1, .int x1), (2, .int x2), (3, .int x3), (4, .int x4), (5, .int x5), (6, .int x6)] 33 [] := by
  intro n
  induction n with
  | zero => intro k h x5 x6 hk hf; cases hf
  | succ n ih =>
    intro k h x5 x6 hk hf
    unfold L_X6_blocks_33 at hf
    refine j_iload E 6 rfl dX6_blocks_33 ?_
    refine j_iload_n E 3 rfl dX6_blocks_35 rfl ?_
    refine j_icmp_ge (tgt := 91) E dX6_blocks_36 (by decide) (fun z7 => ?_) (fun z7 => ?_)
    · have hf := ifp hf z7
      refine j_perm (lv' := [(0, .ref (ad x0)), (1, .int x1), (2, .int x2), (3, .int x3), (4, .int x4), (5, .int x5)]) [0, 1, 2, 3, 4, 5] rfl ?_
      exact hk h x5 hf
    · have hf := ifn hf z7
      refine j_aload_n E 0 rfl dX6_blocks_39 rfl ?_
      refine j_iload E 5 rfl dX6_blocks_40 ?_
      refine j_i2l E dX6_blocks_42 ?_
      obtain ⟨k8, hf⟩ := ck_spec hf
      obtain ⟨h9, e10, hf⟩ := bs hf
      refine j_callV (ci := 5) (b := x0) (As := [.long (Int32.toInt64 x5)]) (rest := []) (v := none) E (c_X6_lay l D ad cy h x0 (Int32.toInt64 x5) e10) (mcw E.1.2.2.2.2 uw_4_44 uw_4_41 uw_4_43 us_2_10 uw_1_6 rfl rfl hd_X6_lay ⟨by decide, by decide⟩) rfl k8 rfl rfl (Nat.le_of_ble_eq_true rfl) dX6_blocks_43 ⟨Nat.zero_le _, Nat.zero_le _⟩ ?_
      refine j_stk (st' := []) rfl ?_
      refine j_iconst (v := 0) E dX6_blocks_46 (by decide) ?_
      refine j_istore (lv' := [(7, .int 0), (0, .ref (ad x0)), (1, .int x1), (2, .int x2), (3, .int x3), (4, .int x4), (5, .int x5), (6, .int x6)]) E dX6_blocks_47 (by decide) rfl ?_
      refine j_perm (lv' := [(0, .ref (ad x0)), (1, .int x1), (2, .int x2), (3, .int x3), (4, .int x4), (5, .int x5), (6, .int x6), (7, .int 0)]) [1, 2, 3, 4, 5, 6, 7, 0] rfl ?_
      refine w_X6_blocks_49 E hr hlk h9 x0 x1 x2 x4 x6 x3 FU _ x5 0 (fun x16 hf => ?_) hf
      refine j_iinc (v := (x6 + 1)) (k0 := 6) (lv' := [(6, .int (x6 + 1)), (0, .ref (ad x0)), (1, .int x1), (2, .int x2), (3, .int x3), (4, .int x4), (5, .int x16)]) E dX6_blocks_85 rfl (congrArg (fun z => x6 + z) (by decide)) (by decide) rfl ?_
      refine j_goto (tgt := 33) E dX6_blocks_88 (by decide) ?_
      refine j_perm (lv' := [(0, .ref (ad x0)), (1, .int x1), (2, .int x2), (3, .int x3), (4, .int x4), (5, .int x16), (6, .int (x6 + 1))]) [1, 2, 3, 4, 5, 6, 0] rfl ?_
      exact ih k h9 x16 (x6 + 1) hk hf
set_option maxRecDepth 100000 in
set_option maxHeartbeats 4000000 in
theorem w_X6_blocks_119 {p : Program} {l : Launch} {e : Env} {s : State} {m : MethodId} {args : Array Value} {below : List Frame} {meth : Method} {c : Code} {D : va_G} {ad : Nat → Nat} {cy : Nat → ClassId} (E : EE p s m args c cX6_blocks 9 (wsM yX6_blocks cX6_blocks 9 none) RX6 D cy) (hr : meth.sig.returnType = none) (hlk : meth.locks = false) {h' : HP} (x0 : Nat) (x1 : Int32) (x2 : Int32) (x4 : Int32) (x6 : Int32) (x7 : Int32) (x3 : Int32) : ∀ (n : Nat) (k : (HP → Option (HP))) (h : HP) (x8 : Int32), (∀ (h : HP), k h = some h' → JJ p l e rmX6_blocks s m args below meth c 0 0 (MQ below (QV D ad cy none h') args s 0 0 (Aw ad)) D ad cy (Aw ad) 9 h [(0, .ref (ad x0)), (1, .int x1), (2, .int x2), (3, .int x3), (4, .int x4), (6, .int x6), (7, .int x7)] 157 []) → L_X6_blocks_119 x0 x1 x2 x4 x6 x7 n k h x8 = some h' → JJ p l e rmX6_blocks s m args below meth c 0 0 (MQ below (QV D ad cy none h') args s 0 0 (Aw ad)) D ad cy (Aw ad) 9 h [(0, .ref (ad x0)), (1, .int x1), (2, .int x2), (3, .int x3), (4, .int x4), (6, .int x6), (7, .int x7), (8, .int x8)] 119 [] := by
  intro n
  induction n with
  | zero => intro k h x8 hk hf; cases hf
  | succ n ih =>
    intro k h x8 hk hf
    unfold L_X6_blocks_119 at hf
    refine j_iload E 7 rfl dX6_blocks_119 ?_
    refine j_iload E 4 rfl dX6_blocks_121 ?_
    refine j_icmp_ge (tgt := 157) E dX6_blocks_123 (by decide) (fun z24 => ?_) (fun z24 => ?_)
    · have hf := ifp hf z24
      refine j_perm (lv' := [(0, .ref (ad x0)), (1, .int x1), (2, .int x2), (3, .int x3), (4, .int x4), (6, .int x6), (7, .int x7)]) [0, 1, 2, 3, 4, 5, 6] rfl ?_
      exact hk h hf
    · have hf := ifn hf z24
      refine j_aload_n E 0 rfl dX6_blocks_126 rfl ?_
      refine j_iload_n E 1 rfl dX6_blocks_127 rfl ?_
      refine j_iload_n E 2 rfl dX6_blocks_128 rfl ?_
      refine j_iload E 6 rfl dX6_blocks_129 ?_
      refine j_iload E 7 rfl dX6_blocks_131 ?_
      obtain ⟨k25, hf⟩ := ck_spec hf
      obtain ⟨v26, e27, hf⟩ := bs hf
      refine j_callV (ci := 5) (b := x0) (As := [.int x1, .int x2, .int x7, .int x8]) (rest := []) (v := (some (.int v26))) E (c_X6_isBlock l D ad cy h x0 x1 x2 x7 x8 e27) (mcw E.1.2.2.2.2 uw_4_60 uw_4_57 uw_4_59 us_2_14 uw_1_6 rfl rfl hd_X6_isBlock ⟨by decide, by decide⟩) rfl k25 rfl rfl (Nat.le_of_ble_eq_true rfl) dX6_blocks_133 ⟨Nat.zero_le _, Nat.zero_le _⟩ ?_
      refine j_stk (st' := [.int v26]) rfl ?_
      refine j_if_eq (tgt := 151) E dX6_blocks_136 (by decide) (fun z28 => ?_) (fun z28 => ?_)
      · have hf := ifp hf z28
        refine j_iinc (v := (x8 + 1)) (k0 := 7) (lv' := [(8, .int (x8 + 1)), (0, .ref (ad x0)), (1, .int x1), (2, .int x2), (3, .int x3), (4, .int x4), (6, .int x6), (7, .int x7)]) E dX6_blocks_151 rfl (congrArg (fun z => x8 + z) (by decide)) (by decide) rfl ?_
        refine j_goto (tgt := 119) E dX6_blocks_154 (by decide) ?_
        refine j_perm (lv' := [(0, .ref (ad x0)), (1, .int x1), (2, .int x2), (3, .int x3), (4, .int x4), (6, .int x6), (7, .int x7), (8, .int (x8 + 1))]) [1, 2, 3, 4, 5, 6, 7, 0] rfl ?_
        exact ih k h (x8 + 1) hk hf
      · have hf := ifn hf z28
        refine j_aload_n E 0 rfl dX6_blocks_139 rfl ?_
        refine j_iload_n E 1 rfl dX6_blocks_140 rfl ?_
        refine j_iload_n E 2 rfl dX6_blocks_141 rfl ?_
        refine j_iload E 6 rfl dX6_blocks_142 ?_
        refine j_iload E 7 rfl dX6_blocks_144 ?_
        refine j_iload E 5 rfl dX6_blocks_146 ?_
        obtain ⟨k29, hf⟩ := ck_spec hf
        obtain ⟨h30, e31, hf⟩ := bs hf
        refine j_callV (ci := 5) (b := x0) (As := [.int x1, .int x2, .int x7, .int x8, .int x6]) (rest := []) (v := none) E (c_X6_layBlock l D ad cy h x0 x1 x2 x7 x8 x6 e31) (mcw E.1.2.2.2.2 uw_4_64 uw_4_61 uw_4_63 us_2_15 uw_1_6 rfl rfl hd_X6_layBlock ⟨by decide, by decide⟩) rfl k29 rfl rfl (Nat.le_of_ble_eq_true rfl) dX6_blocks_148 ⟨Nat.zero_le _, Nat.zero_le _⟩ ?_
        refine j_stk (st' := []) rfl ?_
        refine j_iinc (v := (x8 + 1)) (k0 := 7) (lv' := [(8, .int (x8 + 1)), (0, .ref (ad x0)), (1, .int x1), (2, .int x2), (3, .int x3), (4, .int x4), (6, .int x6), (7, .int x7)]) E dX6_blocks_151 rfl (congrArg (fun z => x8 + z) (by decide)) (by decide) rfl ?_
        refine j_goto (tgt := 119) E dX6_blocks_154 (by decide) ?_
        refine j_perm (lv' := [(0, .ref (ad x0)), (1, .int x1), (2, .int x2), (3, .int x3), (4, .int x4), (6, .int x6), (7, .int x7), (8, .int (x8 + 1))]) [1, 2, 3, 4, 5, 6, 7, 0] rfl ?_
        exact ih k h30 (x8 + 1) hk hf
set_option maxRecDepth 100000 in
set_option maxHeartbeats 4000000 in
theorem w_X6_blocks_110 {p : Program} {l : Launch} {e : Env} {s : State} {m : MethodId} {args : Array Value} {below : List Frame} {meth : Method} {c : Code} {D : va_G} {ad : Nat → Nat} {cy : Nat → ClassId} (E : EE p s m args c cX6_blocks 9 (wsM yX6_blocks cX6_blocks 9 none) RX6 D cy) (hr : meth.sig.returnType = none) (hlk : meth.locks = false) {h' : HP} (x0 : Nat) (x1 : Int32) (x2 : Int32) (x3 : Int32) (x4 : Int32) (x6 : Int32) : ∀ (n : Nat) (k : (HP → Option (HP))) (h : HP) (x7 : Int32), (∀ (h : HP), k h = some h' → JJ p l e rmX6_blocks s m args below meth c 0 0 (MQ below (QV D ad cy none h') args s 0 0 (Aw ad)) D ad cy (Aw ad) 9 h [(0, .ref (ad x0)), (1, .int x1), (2, .int x2), (3, .int x3), (4, .int x4), (6, .int x6)] 163 []) → L_X6_blocks_110 x0 x1 x2 x3 x4 x6 n k h x7 = some h' → JJ p l e rmX6_blocks s m args below meth c 0 0 (MQ below (QV D ad cy none h') args s 0 0 (Aw ad)) D ad cy (Aw ad) 9 h [(0, .ref (ad x0)), (1, .int x1), (2, .int x2), (3, .int x3), (4, .int x4), (6, .int x6), (7, .int x7)] 110 [] := by
  intro n
  induction n with
  | zero => intro k h x7 hk hf; cases hf
  | succ n ih =>
    intro k h x7 hk hf
    unfold L_X6_blocks_110 at hf
    refine j_iload E 6 rfl dX6_blocks_110 ?_
    refine j_iload_n E 3 rfl dX6_blocks_112 rfl ?_
    refine j_icmp_ge (tgt := 163) E dX6_blocks_113 (by decide) (fun z23 => ?_) (fun z23 => ?_)
    · have hf := ifp hf z23
      refine j_perm (lv' := [(0, .ref (ad x0)), (1, .int x1), (2, .int x2), (3, .int x3), (4, .int x4), (6, .int x6)]) [0, 1, 2, 3, 4, 5] rfl ?_
      exact hk h hf
    · have hf := ifn hf z23
      refine j_iconst (v := 0) E dX6_blocks_116 (by decide) ?_
      refine j_istore (lv' := [(8, .int 0), (0, .ref (ad x0)), (1, .int x1), (2, .int x2), (3, .int x3), (4, .int x4), (6, .int x6), (7, .int x7)]) E dX6_blocks_117 (by decide) rfl ?_
      refine j_perm (lv' := [(0, .ref (ad x0)), (1, .int x1), (2, .int x2), (3, .int x3), (4, .int x4), (6, .int x6), (7, .int x7), (8, .int 0)]) [1, 2, 3, 4, 5, 6, 7, 0] rfl ?_
      refine w_X6_blocks_119 E hr hlk x0 x1 x2 x4 x6 x7 x3 FU _ h 0 (fun h32 hf => ?_) hf
      refine j_iinc (v := (x7 + 1)) (k0 := 6) (lv' := [(7, .int (x7 + 1)), (0, .ref (ad x0)), (1, .int x1), (2, .int x2), (3, .int x3), (4, .int x4), (6, .int x6)]) E dX6_blocks_157 rfl (congrArg (fun z => x7 + z) (by decide)) (by decide) rfl ?_
      refine j_goto (tgt := 110) E dX6_blocks_160 (by decide) ?_
      refine j_perm (lv' := [(0, .ref (ad x0)), (1, .int x1), (2, .int x2), (3, .int x3), (4, .int x4), (6, .int x6), (7, .int (x7 + 1))]) [1, 2, 3, 4, 5, 6, 0] rfl ?_
      exact ih k h32 (x7 + 1) hk hf
set_option maxRecDepth 100000 in
set_option maxHeartbeats 4000000 in
theorem w_X6_blocks_101 {p : Program} {l : Launch} {e : Env} {s : State} {m : MethodId} {args : Array Value} {below : List Frame} {meth : Method} {c : Code} {D : va_G} {ad : Nat → Nat} {cy : Nat → ClassId} (E : EE p s m args c cX6_blocks 9 (wsM yX6_blocks cX6_blocks 9 none) RX6 D cy) (hr : meth.sig.returnType = none) (hlk : meth.locks = false) {h' : HP} (x0 : Nat) (x1 : Int32) (x2 : Int32) (x3 : Int32) (x4 : Int32) : ∀ (n : Nat) (k : (HP → Option (HP))) (h : HP) (x6 : Int32), (∀ (h : HP), k h = some h' → JJ p l e rmX6_blocks s m args below meth c 0 0 (MQ below (QV D ad cy none h') args s 0 0 (Aw ad)) D ad cy (Aw ad) 9 h [] 169 []) → L_X6_blocks_101 x0 x1 x2 x3 x4 n k h x6 = some h' → JJ p l e rmX6_blocks s m args below meth c 0 0 (MQ below (QV D ad cy none h') args s 0 0 (Aw ad)) D ad cy (Aw ad) 9 h [(0, .ref (ad x0)), (1, .int x1), (2, .int x2), (3, .int x3), (4, .int x4), (6, .int x6)] 101 [] := by
  intro n
  induction n with
  | zero => intro k h x6 hk hf; cases hf
  | succ n ih =>
    intro k h x6 hk hf
    unfold L_X6_blocks_101 at hf
    refine j_iload E 5 rfl dX6_blocks_101 ?_
    refine j_iconst (v := 2) E dX6_blocks_103 (by decide) ?_
    refine j_icmp_ge (tgt := 169) E dX6_blocks_104 (by decide) (fun z22 => ?_) (fun z22 => ?_)
    · have hf := ifp hf z22
      refine j_perm (lv' := []) [] rfl ?_
      exact hk h hf
    · have hf := ifn hf z22
      refine j_iconst (v := 0) E dX6_blocks_107 (by decide) ?_
      refine j_istore (lv' := [(7, .int 0), (0, .ref (ad x0)), (1, .int x1), (2, .int x2), (3, .int x3), (4, .int x4), (6, .int x6)]) E dX6_blocks_108 (by decide) rfl ?_
      refine j_perm (lv' := [(0, .ref (ad x0)), (1, .int x1), (2, .int x2), (3, .int x3), (4, .int x4), (6, .int x6), (7, .int 0)]) [1, 2, 3, 4, 5, 6, 0] rfl ?_
      refine w_X6_blocks_110 E hr hlk x0 x1 x2 x3 x4 x6 FU _ h 0 (fun h33 hf => ?_) hf
      refine j_iinc (v := (x6 + 1)) (k0 := 5) (lv' := [(6, .int (x6 + 1)), (0, .ref (ad x0)), (1, .int x1), (2, .int x2), (3, .int x3), (4, .int x4)]) E dX6_blocks_163 rfl (congrArg (fun z => x6 + z) (by decide)) (by decide) rfl ?_
      refine j_goto (tgt := 101) E dX6_blocks_166 (by decide) ?_
      refine j_perm (lv' := [(0, .ref (ad x0)), (1, .int x1), (2, .int x2), (3, .int x3), (4, .int x4), (6, .int (x6 + 1))]) [1, 2, 3, 4, 5, 0] rfl ?_
      exact ih k h33 (x6 + 1) hk hf
set_option maxRecDepth 100000 in
set_option maxHeartbeats 4000000 in
theorem c_X6_blocks (l : Launch) (D : va_G) (ad : Nat → Nat) (cy : Nat → ClassId) (h : HP) (x0 : Nat) (x1 : Int32) (x2 : Int32) {h' : HP} (hf : f_X6_blocks h x0 x1 x2 = some h') : Met l yX6_blocks (wsM yX6_blocks cX6_blocks 9 none) rmX6_blocks (va_Pc [.ref (ad x0), .int x1, .int x2] (PW D ad cy h)) (QV D ad cy none h') 0 0 (Aw ad) := by
  refine met_of (own := RX6) (lv := [(0, .ref (ad x0)), (1, .int x1), (2, .int x2)]) (by decide) rfl (Nat.le_of_ble_eq_true rfl) rfl (fun p e s m args below meth c E hr hlk => ?_)
  unfold f_X6_blocks at hf
  refine j_aload_n E 0 rfl dX6_blocks_0 rfl ?_
  obtain ⟨v1, ev1, hf⟩ := bs hf
  refine j_getR (ci := 5) (k0 := 1) (T := TX6) (N := 14) E (mI inUX6) rfl (by decide) (mU uw_3_105) ev1 dX6_blocks_1 ?_
  refine j_iload_n E 1 rfl dX6_blocks_4 rfl ?_
  obtain ⟨v2, ev2, hf⟩ := bs hf
  refine j_aI E ev2 dX6_blocks_5 ?_
  refine j_iload_n E 2 rfl dX6_blocks_6 rfl ?_
  refine j_iadd E dX6_blocks_7 ?_
  refine j_iconst (v := 1) E dX6_blocks_8 (by decide) ?_
  refine j_isub E dX6_blocks_9 ?_
  refine j_iload_n E 2 rfl dX6_blocks_10 rfl ?_
  obtain ⟨n3, hf⟩ := nz_spec hf
  refine j_idiv E n3 dX6_blocks_11 ?_
  refine j_istore_n (lv' := [(3, .int (((v2 + x2) - 1) / x2)), (0, .ref (ad x0)), (1, .int x1), (2, .int x2)]) E dX6_blocks_12 rfl (by decide) rfl ?_
  refine j_aload_n E 1 rfl dX6_blocks_13 rfl ?_
  obtain ⟨v4, ev4, hf⟩ := bs hf
  refine j_getR (ci := 5) (k0 := 2) (T := TX6) (N := 14) E (mI inUX6) rfl (by decide) (mU uw_3_106) ev4 dX6_blocks_14 ?_
  refine j_iload_n E 2 rfl dX6_blocks_17 rfl ?_
  obtain ⟨v5, ev5, hf⟩ := bs hf
  refine j_aI E ev5 dX6_blocks_18 ?_
  refine j_iload_n E 3 rfl dX6_blocks_19 rfl ?_
  refine j_iadd E dX6_blocks_20 ?_
  refine j_iconst (v := 1) E dX6_blocks_21 (by decide) ?_
  refine j_isub E dX6_blocks_22 ?_
  refine j_iload_n E 3 rfl dX6_blocks_23 rfl ?_
  obtain ⟨n6, hf⟩ := nz_spec hf
  refine j_idiv E n6 dX6_blocks_24 ?_
  refine j_istore (lv' := [(4, .int (((v5 + x2) - 1) / x2)), (3, .int (((v2 + x2) - 1) / x2)), (0, .ref (ad x0)), (1, .int x1), (2, .int x2)]) E dX6_blocks_25 (by decide) rfl ?_
  refine j_iconst (v := 0) E dX6_blocks_27 (by decide) ?_
  refine j_istore (lv' := [(5, .int 0), (4, .int (((v5 + x2) - 1) / x2)), (3, .int (((v2 + x2) - 1) / x2)), (0, .ref (ad x0)), (1, .int x1), (2, .int x2)]) E dX6_blocks_28 (by decide) rfl ?_
  refine j_iconst (v := 0) E dX6_blocks_30 (by decide) ?_
  refine j_istore (lv' := [(6, .int 0), (5, .int 0), (4, .int (((v5 + x2) - 1) / x2)), (3, .int (((v2 + x2) - 1) / x2)), (0, .ref (ad x0)), (1, .int x1), (2, .int x2)]) E dX6_blocks_31 (by decide) rfl ?_
  refine j_perm (lv' := [(0, .ref (ad x0)), (1, .int x1), (2, .int x2), (3, .int (((v2 + x2) - 1) / x2)), (4, .int (((v5 + x2) - 1) / x2)), (5, .int 0), (6, .int 0)]) [4, 5, 6, 3, 2, 1, 0] rfl ?_
  refine w_X6_blocks_33 E hr hlk x0 x1 x2 (((v2 + x2) - 1) / x2) (((v5 + x2) - 1) / x2) FU _ h 0 0 (fun h17 x18 hf => ?_) hf
  refine j_aload_n E 0 rfl dX6_blocks_91 rfl ?_
  refine j_iload E 5 rfl dX6_blocks_92 ?_
  refine j_i2l E dX6_blocks_94 ?_
  obtain ⟨k19, hf⟩ := ck_spec hf
  obtain ⟨h20, e21, hf⟩ := bs hf
  refine j_callV (ci := 5) (b := x0) (As := [.long (Int32.toInt64 x18)]) (rest := []) (v := none) E (c_X6_lay l D ad cy h17 x0 (Int32.toInt64 x18) e21) (mcw E.1.2.2.2.2 uw_4_44 uw_4_41 uw_4_43 us_2_10 uw_1_6 rfl rfl hd_X6_lay ⟨by decide, by decide⟩) rfl k19 rfl rfl (Nat.le_of_ble_eq_true rfl) dX6_blocks_95 ⟨Nat.zero_le _, Nat.zero_le _⟩ ?_
  refine j_stk (st' := []) rfl ?_
  refine j_iconst (v := 0) E dX6_blocks_98 (by decide) ?_
  refine j_istore (lv' := [(6, .int 0), (0, .ref (ad x0)), (1, .int x1), (2, .int x2), (3, .int (((v2 + x2) - 1) / x2)), (4, .int (((v5 + x2) - 1) / x2)), (5, .int x18)]) E dX6_blocks_99 (by decide) rfl ?_
  refine j_perm (lv' := [(0, .ref (ad x0)), (1, .int x1), (2, .int x2), (3, .int (((v2 + x2) - 1) / x2)), (4, .int (((v5 + x2) - 1) / x2)), (6, .int 0)]) [1, 2, 3, 4, 5, 0] rfl ?_
  refine w_X6_blocks_101 E hr hlk x0 x1 x2 (((v2 + x2) - 1) / x2) (((v5 + x2) - 1) / x2) FU _ h20 0 (fun h34 hf => ?_) hf
  cases hf
  exact j_vret E hr hlk dX6_blocks_169
noncomputable def L_X6_slants_14 (h : HP) (x0 : Nat) (x1 : Int32) (x2 : Int32) : Nat → (Int32 → Option (HP)) → Int32 → Int32 → Option (HP)
  | 0, _, _, _ => none
  | n + 1, k, x3, x4 =>
      (gR 5 h x0 1).bind fun v2 =>
      (aI h v2 x1).bind fun v3 =>
      if v3 ≤ x4 then (
        k x3
      ) else (
        if x3 = 0 then (
          ck 5 h x0 <|
          (f_X6_isIn h x0 x1 x4 (x4 + x2)).bind fun v7 =>
          if v7 = 0 then (
            L_X6_slants_14 h x0 x1 x2 n k 0 (x4 + 1)
          ) else (
            ck 5 h x0 <|
            (f_X6_has h x0 x1 x4 (x4 + x2)).bind fun v11 =>
            if v11 = 0 then (
              L_X6_slants_14 h x0 x1 x2 n k 0 (x4 + 1)
            ) else (
              L_X6_slants_14 h x0 x1 x2 n k 1 (x4 + 1)
            )
          )
        ) else (
          L_X6_slants_14 h x0 x1 x2 n k 1 (x4 + 1)
        )
      )
noncomputable def L_X6_slants_82 (x0 : Nat) (x1 : Int32) (x2 : Int32) : Nat → (HP → Option (HP)) → HP → Int32 → Option (HP)
  | 0, _, _, _ => none
  | n + 1, k, h, x4 =>
      (gR 5 h x0 1).bind fun v19 =>
      (aI h v19 x1).bind fun v20 =>
      if v20 ≤ x4 then (
        k h
      ) else (
        ck 5 h x0 <|
        (f_X6_holds h x0 x1 x4 (x4 + x2)).bind fun v23 =>
        ck 5 h x0 <|
        (f_X6_lay h x0 v23).bind fun h26 =>
        L_X6_slants_82 x0 x1 x2 n k h26 (x4 + 1)
      )
noncomputable def L_X6_slants_3 (x0 : Nat) (x1 : Int32) : Nat → (HP → Option (HP)) → HP → Int32 → Option (HP)
  | 0, _, _, _ => none
  | n + 1, k, h, x2 =>
      if 15 < x2 then (
        k h
      ) else (
        L_X6_slants_14 h x0 x1 x2 FU (fun x14 =>
          if x14 = 0 then (
            L_X6_slants_3 x0 x1 n k h (x2 + 1)
          ) else (
            ck 5 h x0 <|
            (f_X6_lay h x0 (Int32.toInt64 x2)).bind fun h17 =>
            L_X6_slants_82 x0 x1 x2 FU (fun h28 =>
              L_X6_slants_3 x0 x1 n k h28 (x2 + 1)) h17 0
          )) 0 0
      )
noncomputable def f_X6_slants (h : HP) (x0 : Nat) (x1 : Int32) : Option (HP) :=
  L_X6_slants_3 x0 x1 FU (fun h29 =>
    some h29) h (-15)
abbrev rmX6_slants : Room := { frames := 3, cells := 0, slots := 0, locals := 68 }
theorem hd_X6_slants : yX6_slants.cls = RX6 ∧ yX6_slants.cls ≠ "java/lang/invoke/MethodHandle" ∧ yX6_slants.cls ≠ "java/lang/invoke/VarHandle" ∧ (parseMethodDescriptor yX6_slants.desc).map (fun d => d.parameters.length) = some 1 := by decide +kernel
set_option maxRecDepth 100000 in
set_option maxHeartbeats 4000000 in
theorem w_X6_slants_14 {p : Program} {l : Launch} {e : Env} {s : State} {m : MethodId} {args : Array Value} {below : List Frame} {meth : Method} {c : Code} {D : va_G} {ad : Nat → Nat} {cy : Nat → ClassId} (E : EE p s m args c cX6_slants 5 (wsM yX6_slants cX6_slants 5 none) RX6 D cy) (hr : meth.sig.returnType = none) (hlk : meth.locks = false) {h' : HP} (h : HP) (x0 : Nat) (x1 : Int32) (x2 : Int32) : ∀ (n : Nat) (k : (Int32 → Option (HP))) (x3 : Int32) (x4 : Int32), (∀ (x3 : Int32), k x3 = some h' → JJ p l e rmX6_slants s m args below meth c 0 0 (MQ below (QV D ad cy none h') args s 0 0 (Aw ad)) D ad cy (Aw ad) 5 h [(0, .ref (ad x0)), (1, .int x1), (2, .int x2), (3, .int x3)] 69 []) → L_X6_slants_14 h x0 x1 x2 n k x3 x4 = some h' → JJ p l e rmX6_slants s m args below meth c 0 0 (MQ below (QV D ad cy none h') args s 0 0 (Aw ad)) D ad cy (Aw ad) 5 h [(0, .ref (ad x0)), (1, .int x1), (2, .int x2), (3, .int x3), (4, .int x4)] 14 [] := by
  intro n
  induction n with
  | zero => intro k x3 x4 hk hf; cases hf
  | succ n ih =>
    intro k x3 x4 hk hf
    unfold L_X6_slants_14 at hf
    refine j_iload E 4 rfl dX6_slants_14 ?_
    refine j_aload_n E 0 rfl dX6_slants_16 rfl ?_
    obtain ⟨v2, ev2, hf⟩ := bs hf
    refine j_getR (ci := 5) (k0 := 1) (T := TX6) (N := 14) E (mI inUX6) rfl (by decide) (mU uw_3_105) ev2 dX6_slants_17 ?_
    refine j_iload_n E 1 rfl dX6_slants_20 rfl ?_
    obtain ⟨v3, ev3, hf⟩ := bs hf
    refine j_aI E ev3 dX6_slants_21 ?_
    refine j_icmp_ge (tgt := 69) E dX6_slants_22 (by decide) (fun z4 => ?_) (fun z4 => ?_)
    · have hf := ifp hf z4
      refine j_perm (lv' := [(0, .ref (ad x0)), (1, .int x1), (2, .int x2), (3, .int x3)]) [0, 1, 2, 3] rfl ?_
      exact hk x3 hf
    · have hf := ifn hf z4
      refine j_iload_n E 3 rfl dX6_slants_25 rfl ?_
      refine j_if_ne (tgt := 57) E dX6_slants_26 (by decide) (fun z5 => ?_) (fun z5 => ?_)
      · have hf := ifn hf z5
        refine j_iconst (v := 1) E dX6_slants_57 (by decide) ?_
        refine j_goto (tgt := 62) E dX6_slants_58 (by decide) ?_
        refine j_istore_n (lv' := [(3, .int 1), (0, .ref (ad x0)), (1, .int x1), (2, .int x2), (4, .int x4)]) E dX6_slants_62 rfl (by decide) rfl ?_
        refine j_iinc (v := (x4 + 1)) (k0 := 4) (lv' := [(4, .int (x4 + 1)), (3, .int 1), (0, .ref (ad x0)), (1, .int x1), (2, .int x2)]) E dX6_slants_63 rfl (congrArg (fun z => x4 + z) (by decide)) (by decide) rfl ?_
        refine j_goto (tgt := 14) E dX6_slants_66 (by decide) ?_
        refine j_perm (lv' := [(0, .ref (ad x0)), (1, .int x1), (2, .int x2), (3, .int 1), (4, .int (x4 + 1))]) [2, 3, 4, 1, 0] rfl ?_
        exact ih k 1 (x4 + 1) hk hf
      · have hf := ifp hf z5
        refine j_aload_n E 0 rfl dX6_slants_29 rfl ?_
        refine j_iload_n E 1 rfl dX6_slants_30 rfl ?_
        refine j_iload E 4 rfl dX6_slants_31 ?_
        refine j_iload E 4 rfl dX6_slants_33 ?_
        refine j_iload_n E 2 rfl dX6_slants_35 rfl ?_
        refine j_iadd E dX6_slants_36 ?_
        obtain ⟨k6, hf⟩ := ck_spec hf
        obtain ⟨v7, e8, hf⟩ := bs hf
        refine j_callV (ci := 5) (b := x0) (As := [.int x1, .int x4, .int (x4 + x2)]) (rest := []) (v := (some (.int v7))) E (c_X6_isIn l D ad cy h x0 x1 x4 (x4 + x2) e8) (mcw E.1.2.2.2.2 uw_3_194 uw_3_191 uw_3_193 us_2_4 uw_1_6 rfl rfl hd_X6_isIn ⟨by decide, by decide⟩) rfl k6 rfl rfl (Nat.le_of_ble_eq_true rfl) dX6_slants_37 ⟨Nat.zero_le _, Nat.zero_le _⟩ ?_
        refine j_stk (st' := [.int v7]) rfl ?_
        refine j_if_eq (tgt := 61) E dX6_slants_40 (by decide) (fun z9 => ?_) (fun z9 => ?_)
        · have hf := ifp hf z9
          refine j_iconst (v := 0) E dX6_slants_61 (by decide) ?_
          refine j_istore_n (lv' := [(3, .int 0), (0, .ref (ad x0)), (1, .int x1), (2, .int x2), (4, .int x4)]) E dX6_slants_62 rfl (by decide) rfl ?_
          refine j_iinc (v := (x4 + 1)) (k0 := 4) (lv' := [(4, .int (x4 + 1)), (3, .int 0), (0, .ref (ad x0)), (1, .int x1), (2, .int x2)]) E dX6_slants_63 rfl (congrArg (fun z => x4 + z) (by decide)) (by decide) rfl ?_
          refine j_goto (tgt := 14) E dX6_slants_66 (by decide) ?_
          refine j_perm (lv' := [(0, .ref (ad x0)), (1, .int x1), (2, .int x2), (3, .int 0), (4, .int (x4 + 1))]) [2, 3, 4, 1, 0] rfl ?_
          exact ih k 0 (x4 + 1) hk hf
        · have hf := ifn hf z9
          refine j_aload_n E 0 rfl dX6_slants_43 rfl ?_
          refine j_iload_n E 1 rfl dX6_slants_44 rfl ?_
          refine j_iload E 4 rfl dX6_slants_45 ?_
          refine j_iload E 4 rfl dX6_slants_47 ?_
          refine j_iload_n E 2 rfl dX6_slants_49 rfl ?_
          refine j_iadd E dX6_slants_50 ?_
          obtain ⟨k10, hf⟩ := ck_spec hf
          obtain ⟨v11, e12, hf⟩ := bs hf
          refine j_callV (ci := 5) (b := x0) (As := [.int x1, .int x4, .int (x4 + x2)]) (rest := []) (v := (some (.int v11))) E (c_X6_has l D ad cy h x0 x1 x4 (x4 + x2) e12) (mcw E.1.2.2.2.2 uw_3_210 uw_3_207 uw_3_209 us_2_6 uw_1_6 rfl rfl hd_X6_has ⟨by decide, by decide⟩) rfl k10 rfl rfl (Nat.le_of_ble_eq_true rfl) dX6_slants_51 ⟨Nat.zero_le _, Nat.zero_le _⟩ ?_
          refine j_stk (st' := [.int v11]) rfl ?_
          refine j_if_eq (tgt := 61) E dX6_slants_54 (by decide) (fun z13 => ?_) (fun z13 => ?_)
          · have hf := ifp hf z13
            refine j_iconst (v := 0) E dX6_slants_61 (by decide) ?_
            refine j_istore_n (lv' := [(3, .int 0), (0, .ref (ad x0)), (1, .int x1), (2, .int x2), (4, .int x4)]) E dX6_slants_62 rfl (by decide) rfl ?_
            refine j_iinc (v := (x4 + 1)) (k0 := 4) (lv' := [(4, .int (x4 + 1)), (3, .int 0), (0, .ref (ad x0)), (1, .int x1), (2, .int x2)]) E dX6_slants_63 rfl (congrArg (fun z => x4 + z) (by decide)) (by decide) rfl ?_
            refine j_goto (tgt := 14) E dX6_slants_66 (by decide) ?_
            refine j_perm (lv' := [(0, .ref (ad x0)), (1, .int x1), (2, .int x2), (3, .int 0), (4, .int (x4 + 1))]) [2, 3, 4, 1, 0] rfl ?_
            exact ih k 0 (x4 + 1) hk hf
          · have hf := ifn hf z13
            refine j_iconst (v := 1) E dX6_slants_57 (by decide) ?_
            refine j_goto (tgt := 62) E dX6_slants_58 (by decide) ?_
            refine j_istore_n (lv' := [(3, .int 1), (0, .ref (ad x0)), (1, .int x1), (2, .int x2), (4, .int x4)]) E dX6_slants_62 rfl (by decide) rfl ?_
            refine j_iinc (v := (x4 + 1)) (k0 := 4) (lv' := [(4, .int (x4 + 1)), (3, .int 1), (0, .ref (ad x0)), (1, .int x1), (2, .int x2)]) E dX6_slants_63 rfl (congrArg (fun z => x4 + z) (by decide)) (by decide) rfl ?_
            refine j_goto (tgt := 14) E dX6_slants_66 (by decide) ?_
            refine j_perm (lv' := [(0, .ref (ad x0)), (1, .int x1), (2, .int x2), (3, .int 1), (4, .int (x4 + 1))]) [2, 3, 4, 1, 0] rfl ?_
            exact ih k 1 (x4 + 1) hk hf
set_option maxRecDepth 100000 in
set_option maxHeartbeats 4000000 in
theorem w_X6_slants_82 {p : Program} {l : Launch} {e : Env} {s : State} {m : MethodId} {args : Array Value} {below : List Frame} {meth : Method} {c : Code} {D : va_G} {ad : Nat → Nat} {cy : Nat → ClassId} (E : EE p s m args c cX6_slants 5 (wsM yX6_slants cX6_slants 5 none) RX6 D cy) (hr : meth.sig.returnType = none) (hlk : meth.locks = false) {h' : HP} (x0 : Nat) (x1 : Int32) (x2 : Int32) : ∀ (n : Nat) (k : (HP → Option (HP))) (h : HP) (x4 : Int32), (∀ (h : HP), k h = some h' → JJ p l e rmX6_slants s m args below meth c 0 0 (MQ below (QV D ad cy none h') args s 0 0 (Aw ad)) D ad cy (Aw ad) 5 h [(0, .ref (ad x0)), (1, .int x1), (2, .int x2)] 114 []) → L_X6_slants_82 x0 x1 x2 n k h x4 = some h' → JJ p l e rmX6_slants s m args below meth c 0 0 (MQ below (QV D ad cy none h') args s 0 0 (Aw ad)) D ad cy (Aw ad) 5 h [(0, .ref (ad x0)), (1, .int x1), (2, .int x2), (4, .int x4)] 82 [] := by
  intro n
  induction n with
  | zero => intro k h x4 hk hf; cases hf
  | succ n ih =>
    intro k h x4 hk hf
    unfold L_X6_slants_82 at hf
    refine j_iload E 3 rfl dX6_slants_82 ?_
    refine j_aload_n E 0 rfl dX6_slants_84 rfl ?_
    obtain ⟨v19, ev19, hf⟩ := bs hf
    refine j_getR (ci := 5) (k0 := 1) (T := TX6) (N := 14) E (mI inUX6) rfl (by decide) (mU uw_3_105) ev19 dX6_slants_85 ?_
    refine j_iload_n E 1 rfl dX6_slants_88 rfl ?_
    obtain ⟨v20, ev20, hf⟩ := bs hf
    refine j_aI E ev20 dX6_slants_89 ?_
    refine j_icmp_ge (tgt := 114) E dX6_slants_90 (by decide) (fun z21 => ?_) (fun z21 => ?_)
    · have hf := ifp hf z21
      refine j_perm (lv' := [(0, .ref (ad x0)), (1, .int x1), (2, .int x2)]) [0, 1, 2] rfl ?_
      exact hk h hf
    · have hf := ifn hf z21
      refine j_aload_n E 0 rfl dX6_slants_93 rfl ?_
      refine j_aload_n E 0 rfl dX6_slants_94 rfl ?_
      refine j_iload_n E 1 rfl dX6_slants_95 rfl ?_
      refine j_iload E 3 rfl dX6_slants_96 ?_
      refine j_iload E 3 rfl dX6_slants_98 ?_
      refine j_iload_n E 2 rfl dX6_slants_100 rfl ?_
      refine j_iadd E dX6_slants_101 ?_
      obtain ⟨k22, hf⟩ := ck_spec hf
      obtain ⟨v23, e24, hf⟩ := bs hf
      refine j_callV (ci := 5) (b := x0) (As := [.int x1, .int x4, .int (x4 + x2)]) (rest := [.ref (ad x0)]) (v := (some (.long v23))) E (c_X6_holds l D ad cy h x0 x1 x4 (x4 + x2) e24) (mcw E.1.2.2.2.2 uw_3_206 uw_3_203 uw_3_205 us_2_5 uw_1_6 rfl rfl hd_X6_holds ⟨by decide, by decide⟩) rfl k22 rfl rfl (Nat.le_of_ble_eq_true rfl) dX6_slants_102 ⟨Nat.zero_le _, Nat.zero_le _⟩ ?_
      refine j_stk (st' := [.long v23, .ref (ad x0)]) rfl ?_
      obtain ⟨k25, hf⟩ := ck_spec hf
      obtain ⟨h26, e27, hf⟩ := bs hf
      refine j_callV (ci := 5) (b := x0) (As := [.long v23]) (rest := []) (v := none) E (c_X6_lay l D ad cy h x0 v23 e27) (mcw E.1.2.2.2.2 uw_4_44 uw_4_41 uw_4_43 us_2_10 uw_1_6 rfl rfl hd_X6_lay ⟨by decide, by decide⟩) rfl k25 rfl rfl (Nat.le_of_ble_eq_true rfl) dX6_slants_105 ⟨Nat.zero_le _, Nat.zero_le _⟩ ?_
      refine j_stk (st' := []) rfl ?_
      refine j_iinc (v := (x4 + 1)) (k0 := 3) (lv' := [(4, .int (x4 + 1)), (0, .ref (ad x0)), (1, .int x1), (2, .int x2)]) E dX6_slants_108 rfl (congrArg (fun z => x4 + z) (by decide)) (by decide) rfl ?_
      refine j_goto (tgt := 82) E dX6_slants_111 (by decide) ?_
      refine j_perm (lv' := [(0, .ref (ad x0)), (1, .int x1), (2, .int x2), (4, .int (x4 + 1))]) [1, 2, 3, 0] rfl ?_
      exact ih k h26 (x4 + 1) hk hf
set_option maxRecDepth 100000 in
set_option maxHeartbeats 4000000 in
theorem w_X6_slants_3 {p : Program} {l : Launch} {e : Env} {s : State} {m : MethodId} {args : Array Value} {below : List Frame} {meth : Method} {c : Code} {D : va_G} {ad : Nat → Nat} {cy : Nat → ClassId} (E : EE p s m args c cX6_slants 5 (wsM yX6_slants cX6_slants 5 none) RX6 D cy) (hr : meth.sig.returnType = none) (hlk : meth.locks = false) {h' : HP} (x0 : Nat) (x1 : Int32) : ∀ (n : Nat) (k : (HP → Option (HP))) (h : HP) (x2 : Int32), (∀ (h : HP), k h = some h' → JJ p l e rmX6_slants s m args below meth c 0 0 (MQ below (QV D ad cy none h') args s 0 0 (Aw ad)) D ad cy (Aw ad) 5 h [] 120 []) → L_X6_slants_3 x0 x1 n k h x2 = some h' → JJ p l e rmX6_slants s m args below meth c 0 0 (MQ below (QV D ad cy none h') args s 0 0 (Aw ad)) D ad cy (Aw ad) 5 h [(0, .ref (ad x0)), (1, .int x1), (2, .int x2)] 3 [] := by
  intro n
  induction n with
  | zero => intro k h x2 hk hf; cases hf
  | succ n ih =>
    intro k h x2 hk hf
    unfold L_X6_slants_3 at hf
    refine j_iload_n E 2 rfl dX6_slants_3 rfl ?_
    refine j_bipush (v := 15) E dX6_slants_4 (by decide) ?_
    refine j_icmp_gt (tgt := 120) E dX6_slants_6 (by decide) (fun z1 => ?_) (fun z1 => ?_)
    · have hf := ifp hf z1
      refine j_perm (lv' := []) [] rfl ?_
      exact hk h hf
    · have hf := ifn hf z1
      refine j_iconst (v := 0) E dX6_slants_9 (by decide) ?_
      refine j_istore_n (lv' := [(3, .int 0), (0, .ref (ad x0)), (1, .int x1), (2, .int x2)]) E dX6_slants_10 rfl (by decide) rfl ?_
      refine j_iconst (v := 0) E dX6_slants_11 (by decide) ?_
      refine j_istore (lv' := [(4, .int 0), (3, .int 0), (0, .ref (ad x0)), (1, .int x1), (2, .int x2)]) E dX6_slants_12 (by decide) rfl ?_
      refine j_perm (lv' := [(0, .ref (ad x0)), (1, .int x1), (2, .int x2), (3, .int 0), (4, .int 0)]) [2, 3, 4, 1, 0] rfl ?_
      refine w_X6_slants_14 E hr hlk h x0 x1 x2 FU _ 0 0 (fun x14 hf => ?_) hf
      refine j_iload_n E 3 rfl dX6_slants_69 rfl ?_
      refine j_if_eq (tgt := 114) E dX6_slants_70 (by decide) (fun z15 => ?_) (fun z15 => ?_)
      · have hf := ifp hf z15
        refine j_iinc (v := (x2 + 1)) (k0 := 2) (lv' := [(2, .int (x2 + 1)), (0, .ref (ad x0)), (1, .int x1), (3, .int x14)]) E dX6_slants_114 rfl (congrArg (fun z => x2 + z) (by decide)) (by decide) rfl ?_
        refine j_goto (tgt := 3) E dX6_slants_117 (by decide) ?_
        refine j_perm (lv' := [(0, .ref (ad x0)), (1, .int x1), (2, .int (x2 + 1))]) [1, 2, 0] rfl ?_
        exact ih k h (x2 + 1) hk hf
      · have hf := ifn hf z15
        refine j_aload_n E 0 rfl dX6_slants_73 rfl ?_
        refine j_iload_n E 2 rfl dX6_slants_74 rfl ?_
        refine j_i2l E dX6_slants_75 ?_
        obtain ⟨k16, hf⟩ := ck_spec hf
        obtain ⟨h17, e18, hf⟩ := bs hf
        refine j_callV (ci := 5) (b := x0) (As := [.long (Int32.toInt64 x2)]) (rest := []) (v := none) E (c_X6_lay l D ad cy h x0 (Int32.toInt64 x2) e18) (mcw E.1.2.2.2.2 uw_4_44 uw_4_41 uw_4_43 us_2_10 uw_1_6 rfl rfl hd_X6_lay ⟨by decide, by decide⟩) rfl k16 rfl rfl (Nat.le_of_ble_eq_true rfl) dX6_slants_76 ⟨Nat.zero_le _, Nat.zero_le _⟩ ?_
        refine j_stk (st' := []) rfl ?_
        refine j_iconst (v := 0) E dX6_slants_79 (by decide) ?_
        refine j_istore (lv' := [(4, .int 0), (0, .ref (ad x0)), (1, .int x1), (2, .int x2), (3, .int x14)]) E dX6_slants_80 (by decide) rfl ?_
        refine j_perm (lv' := [(0, .ref (ad x0)), (1, .int x1), (2, .int x2), (4, .int 0)]) [1, 2, 3, 0] rfl ?_
        refine w_X6_slants_82 E hr hlk x0 x1 x2 FU _ h17 0 (fun h28 hf => ?_) hf
        refine j_iinc (v := (x2 + 1)) (k0 := 2) (lv' := [(2, .int (x2 + 1)), (0, .ref (ad x0)), (1, .int x1)]) E dX6_slants_114 rfl (congrArg (fun z => x2 + z) (by decide)) (by decide) rfl ?_
        refine j_goto (tgt := 3) E dX6_slants_117 (by decide) ?_
        refine j_perm (lv' := [(0, .ref (ad x0)), (1, .int x1), (2, .int (x2 + 1))]) [1, 2, 0] rfl ?_
        exact ih k h28 (x2 + 1) hk hf
set_option maxRecDepth 100000 in
set_option maxHeartbeats 4000000 in
theorem c_X6_slants (l : Launch) (D : va_G) (ad : Nat → Nat) (cy : Nat → ClassId) (h : HP) (x0 : Nat) (x1 : Int32) {h' : HP} (hf : f_X6_slants h x0 x1 = some h') : Met l yX6_slants (wsM yX6_slants cX6_slants 5 none) rmX6_slants (va_Pc [.ref (ad x0), .int x1] (PW D ad cy h)) (QV D ad cy none h') 0 0 (Aw ad) := by
  refine met_of (own := RX6) (lv := [(0, .ref (ad x0)), (1, .int x1)]) (by decide) rfl (Nat.le_of_ble_eq_true rfl) rfl (fun p e s m args below meth c E hr hlk => ?_)
  unfold f_X6_slants at hf
  refine j_bipush (v := (-15)) E dX6_slants_0 (by decide) ?_
  refine j_istore_n (lv' := [(2, .int (-15)), (0, .ref (ad x0)), (1, .int x1)]) E dX6_slants_2 rfl (by decide) rfl ?_
  refine j_perm (lv' := [(0, .ref (ad x0)), (1, .int x1), (2, .int (-15))]) [1, 2, 0] rfl ?_
  refine w_X6_slants_3 E hr hlk x0 x1 FU _ h (-15) (fun h29 hf => ?_) hf
  cases hf
  exact j_vret E hr hlk dX6_slants_120
