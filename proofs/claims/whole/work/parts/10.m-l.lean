noncomputable def L_X6_rows_76 (x0 : Nat) (x1 : Int32) (x4 : Int32) : Nat → (HP → Option (HP × Int32)) → HP → Int32 → Option (HP × Int32)
  | 0, _, _, _ => none
  | n + 1, k, h, x5 =>
      (gR 5 h x0 2).bind fun v22 =>
      (aI h v22 x1).bind fun v23 =>
      if v23 ≤ x5 then (
        k h
      ) else (
        (gR 5 h x0 9).bind fun v25 =>
        (aI h v25 x4).bind fun v26 =>
        ck 5 h x0 <|
        (f_X6_has h x0 x1 v26 x5).bind fun v28 =>
        if v28 = 0 then (
          L_X6_rows_76 x0 x1 x4 n k h (x5 + 1)
        ) else (
          (gR 5 h x0 9).bind fun v31 =>
          (aI h v31 x4).bind fun v32 =>
          ck 5 h x0 <|
          (f_X6_holds h x0 x1 v32 x5).bind fun v34 =>
          ck 5 h x0 <|
          (f_X6_keep h x0 x4 x5 v34).bind fun h37 =>
          L_X6_rows_76 x0 x1 x4 n k h37 (x5 + 1)
        )
      )
noncomputable def L_X6_rows_48 (x0 : Nat) (x1 : Int32) (x3 : Int32) : Nat → (HP → Option (HP × Int32)) → HP → Int32 → Option (HP × Int32)
  | 0, _, _, _ => none
  | n + 1, k, h, x4 =>
      if x3 ≤ x4 then (
        k h
      ) else (
        (gR 5 h x0 9).bind fun v17 =>
        (aI h v17 x4).bind fun v18 =>
        (gR 5 h x0 1).bind fun v19 =>
        (aI h v19 x1).bind fun v20 =>
        if v18 < v20 then (
          L_X6_rows_76 x0 x1 x4 FU (fun h39 =>
            L_X6_rows_48 x0 x1 x3 n k h39 (x4 + 1)) h 0
        ) else (
          some (h, (-3))
        )
      )
noncomputable def f_X6_rows (h : HP) (x0 : Nat) (x1 : Int32) (x2 : Int32) : Option (HP × Int32) :=
  (f_X6_isNumber x2).bind fun v1 =>
  if v1 = 0 then (
    some (h, (-1))
  ) else (
    ck 5 h x0 <|
    (f_X6_isTable h x0 x1).bind fun v5 =>
    if v5 = 0 then (
      some (h, (-1))
    ) else (
      (gI 5 h x0 8).bind fun v8 =>
      (pI 5 h x0 8 0).bind fun h9 =>
      if v8 = 0 then (
        some (h9, (-3))
      ) else (
        (gR 5 h9 x0 2).bind fun v11 =>
        (aI h9 v11 x1).bind fun v12 =>
        ck 5 h9 x0 <|
        (f_X6_begin h9 x0 v8 v12).bind fun h14 =>
        L_X6_rows_48 x0 x1 v8 FU (fun h40 =>
          ck 5 h40 x0 <|
          (f_X6_putAt h40 x0 x2).bind fun (h42, v43) =>
          some (h42, v43)) h14 0
      )
    )
  )
abbrev rmX6_rows : Room := { frames := 3, cells := 0, slots := 0, locals := 68 }
theorem hd_X6_rows : yX6_rows.cls = RX6 ∧ yX6_rows.cls ≠ "java/lang/invoke/MethodHandle" ∧ yX6_rows.cls ≠ "java/lang/invoke/VarHandle" ∧ (parseMethodDescriptor yX6_rows.desc).map (fun d => d.parameters.length) = some 2 := by decide +kernel
set_option maxRecDepth 100000 in
set_option maxHeartbeats 4000000 in
theorem w_X6_rows_76 {p : Program} {l : Launch} {e : Env} {s : State} {m : MethodId} {args : Array Value} {below : List Frame} {meth : Method} {c : Code} {D : va_G} {ad : Nat → Nat} {cy : Nat → ClassId} (E : EE p s m args c cX6_rows 6 (wsM yX6_rows cX6_rows 6 (some .int)) RX6 D cy) (hr : meth.sig.returnType = (some .int)) (hlk : meth.locks = false) {h' : HP} {r : Int32} (x0 : Nat) (x1 : Int32) (x4 : Int32) (x2 : Int32) (x3 : Int32) : ∀ (n : Nat) (k : (HP → Option (HP × Int32))) (h : HP) (x5 : Int32), (∀ (h : HP), k h = some (h', r) → JJ p l e rmX6_rows s m args below meth c 0 0 (MQ below (QV D ad cy (some (.int r)) h') args s 0 0 (Aw ad)) D ad cy (Aw ad) 6 h [(0, .ref (ad x0)), (1, .int x1), (2, .int x2), (3, .int x3), (4, .int x4)] 132 []) → L_X6_rows_76 x0 x1 x4 n k h x5 = some (h', r) → JJ p l e rmX6_rows s m args below meth c 0 0 (MQ below (QV D ad cy (some (.int r)) h') args s 0 0 (Aw ad)) D ad cy (Aw ad) 6 h [(0, .ref (ad x0)), (1, .int x1), (2, .int x2), (3, .int x3), (4, .int x4), (5, .int x5)] 76 [] := by
  intro n
  induction n with
  | zero => intro k h x5 hk hf; cases hf
  | succ n ih =>
    intro k h x5 hk hf
    unfold L_X6_rows_76 at hf
    refine j_iload E 5 rfl dX6_rows_76 ?_
    refine j_aload_n E 0 rfl dX6_rows_78 rfl ?_
    obtain ⟨v22, ev22, hf⟩ := bs hf
    refine j_getR (ci := 5) (k0 := 2) (T := TX6) (N := 14) E (mI inUX6) rfl (by decide) (mU uw_3_106) ev22 dX6_rows_79 ?_
    refine j_iload_n E 1 rfl dX6_rows_82 rfl ?_
    obtain ⟨v23, ev23, hf⟩ := bs hf
    refine j_aI E ev23 dX6_rows_83 ?_
    refine j_icmp_ge (tgt := 132) E dX6_rows_84 (by decide) (fun z24 => ?_) (fun z24 => ?_)
    · have hf := ifp hf z24
      refine j_perm (lv' := [(0, .ref (ad x0)), (1, .int x1), (2, .int x2), (3, .int x3), (4, .int x4)]) [0, 1, 2, 3, 4] rfl ?_
      exact hk h hf
    · have hf := ifn hf z24
      refine j_aload_n E 0 rfl dX6_rows_87 rfl ?_
      refine j_iload_n E 1 rfl dX6_rows_88 rfl ?_
      refine j_aload_n E 0 rfl dX6_rows_89 rfl ?_
      obtain ⟨v25, ev25, hf⟩ := bs hf
      refine j_getR (ci := 5) (k0 := 9) (T := TX6) (N := 14) E (mI inUX6) rfl (by decide) (mU uw_3_113) ev25 dX6_rows_90 ?_
      refine j_iload E 4 rfl dX6_rows_93 ?_
      obtain ⟨v26, ev26, hf⟩ := bs hf
      refine j_aI E ev26 dX6_rows_95 ?_
      refine j_iload E 5 rfl dX6_rows_96 ?_
      obtain ⟨k27, hf⟩ := ck_spec hf
      obtain ⟨v28, e29, hf⟩ := bs hf
      refine j_callV (ci := 5) (b := x0) (As := [.int x1, .int v26, .int x5]) (rest := []) (v := (some (.int v28))) E (c_X6_has l D ad cy h x0 x1 v26 x5 e29) (mcw E.1.2.2.2.2 uw_3_210 uw_3_207 uw_3_209 us_2_6 uw_1_6 rfl rfl hd_X6_has ⟨by decide, by decide⟩) rfl k27 rfl rfl (Nat.le_of_ble_eq_true rfl) dX6_rows_98 ⟨Nat.zero_le _, Nat.zero_le _⟩ ?_
      refine j_stk (st' := [.int v28]) rfl ?_
      refine j_if_eq (tgt := 126) E dX6_rows_101 (by decide) (fun z30 => ?_) (fun z30 => ?_)
      · have hf := ifp hf z30
        refine j_iinc (v := (x5 + 1)) (k0 := 5) (lv' := [(5, .int (x5 + 1)), (0, .ref (ad x0)), (1, .int x1), (2, .int x2), (3, .int x3), (4, .int x4)]) E dX6_rows_126 rfl (congrArg (fun z => x5 + z) (by decide)) (by decide) rfl ?_
        refine j_goto (tgt := 76) E dX6_rows_129 (by decide) ?_
        refine j_perm (lv' := [(0, .ref (ad x0)), (1, .int x1), (2, .int x2), (3, .int x3), (4, .int x4), (5, .int (x5 + 1))]) [1, 2, 3, 4, 5, 0] rfl ?_
        exact ih k h (x5 + 1) hk hf
      · have hf := ifn hf z30
        refine j_aload_n E 0 rfl dX6_rows_104 rfl ?_
        refine j_iload E 4 rfl dX6_rows_105 ?_
        refine j_iload E 5 rfl dX6_rows_107 ?_
        refine j_aload_n E 0 rfl dX6_rows_109 rfl ?_
        refine j_iload_n E 1 rfl dX6_rows_110 rfl ?_
        refine j_aload_n E 0 rfl dX6_rows_111 rfl ?_
        obtain ⟨v31, ev31, hf⟩ := bs hf
        refine j_getR (ci := 5) (k0 := 9) (T := TX6) (N := 14) E (mI inUX6) rfl (by decide) (mU uw_3_113) ev31 dX6_rows_112 ?_
        refine j_iload E 4 rfl dX6_rows_115 ?_
        obtain ⟨v32, ev32, hf⟩ := bs hf
        refine j_aI E ev32 dX6_rows_117 ?_
        refine j_iload E 5 rfl dX6_rows_118 ?_
        obtain ⟨k33, hf⟩ := ck_spec hf
        obtain ⟨v34, e35, hf⟩ := bs hf
        refine j_callV (ci := 5) (b := x0) (As := [.int x1, .int v32, .int x5]) (rest := [.int x5, .int x4, .ref (ad x0)]) (v := (some (.long v34))) E (c_X6_holds l D ad cy h x0 x1 v32 x5 e35) (mcw E.1.2.2.2.2 uw_3_206 uw_3_203 uw_3_205 us_2_5 uw_1_6 rfl rfl hd_X6_holds ⟨by decide, by decide⟩) rfl k33 rfl rfl (Nat.le_of_ble_eq_true rfl) dX6_rows_120 ⟨Nat.zero_le _, Nat.zero_le _⟩ ?_
        refine j_stk (st' := [.long v34, .int x5, .int x4, .ref (ad x0)]) rfl ?_
        obtain ⟨k36, hf⟩ := ck_spec hf
        obtain ⟨h37, e38, hf⟩ := bs hf
        refine j_callV (ci := 5) (b := x0) (As := [.int x4, .int x5, .long v34]) (rest := []) (v := none) E (c_X6_keep l D ad cy h x0 x4 x5 v34 e38) (mcw E.1.2.2.2.2 uw_4_1 uw_3_238 uw_4_0 us_2_8 uw_1_6 rfl rfl hd_X6_keep ⟨by decide, by decide⟩) rfl k36 rfl rfl (Nat.le_of_ble_eq_true rfl) dX6_rows_123 ⟨Nat.zero_le _, Nat.zero_le _⟩ ?_
        refine j_stk (st' := []) rfl ?_
        refine j_iinc (v := (x5 + 1)) (k0 := 5) (lv' := [(5, .int (x5 + 1)), (0, .ref (ad x0)), (1, .int x1), (2, .int x2), (3, .int x3), (4, .int x4)]) E dX6_rows_126 rfl (congrArg (fun z => x5 + z) (by decide)) (by decide) rfl ?_
        refine j_goto (tgt := 76) E dX6_rows_129 (by decide) ?_
        refine j_perm (lv' := [(0, .ref (ad x0)), (1, .int x1), (2, .int x2), (3, .int x3), (4, .int x4), (5, .int (x5 + 1))]) [1, 2, 3, 4, 5, 0] rfl ?_
        exact ih k h37 (x5 + 1) hk hf
set_option maxRecDepth 100000 in
set_option maxHeartbeats 4000000 in
theorem w_X6_rows_48 {p : Program} {l : Launch} {e : Env} {s : State} {m : MethodId} {args : Array Value} {below : List Frame} {meth : Method} {c : Code} {D : va_G} {ad : Nat → Nat} {cy : Nat → ClassId} (E : EE p s m args c cX6_rows 6 (wsM yX6_rows cX6_rows 6 (some .int)) RX6 D cy) (hr : meth.sig.returnType = (some .int)) (hlk : meth.locks = false) {h' : HP} {r : Int32} (x0 : Nat) (x1 : Int32) (x3 : Int32) (x2 : Int32) : ∀ (n : Nat) (k : (HP → Option (HP × Int32))) (h : HP) (x4 : Int32), (∀ (h : HP), k h = some (h', r) → JJ p l e rmX6_rows s m args below meth c 0 0 (MQ below (QV D ad cy (some (.int r)) h') args s 0 0 (Aw ad)) D ad cy (Aw ad) 6 h [(0, .ref (ad x0)), (2, .int x2)] 138 []) → L_X6_rows_48 x0 x1 x3 n k h x4 = some (h', r) → JJ p l e rmX6_rows s m args below meth c 0 0 (MQ below (QV D ad cy (some (.int r)) h') args s 0 0 (Aw ad)) D ad cy (Aw ad) 6 h [(0, .ref (ad x0)), (1, .int x1), (2, .int x2), (3, .int x3), (4, .int x4)] 48 [] := by
  intro n
  induction n with
  | zero => intro k h x4 hk hf; cases hf
  | succ n ih =>
    intro k h x4 hk hf
    unfold L_X6_rows_48 at hf
    refine j_iload E 4 rfl dX6_rows_48 ?_
    refine j_iload_n E 3 rfl dX6_rows_50 rfl ?_
    refine j_icmp_ge (tgt := 138) E dX6_rows_51 (by decide) (fun z16 => ?_) (fun z16 => ?_)
    · have hf := ifp hf z16
      refine j_perm (lv' := [(0, .ref (ad x0)), (2, .int x2)]) [0, 2] rfl ?_
      exact hk h hf
    · have hf := ifn hf z16
      refine j_aload_n E 0 rfl dX6_rows_54 rfl ?_
      obtain ⟨v17, ev17, hf⟩ := bs hf
      refine j_getR (ci := 5) (k0 := 9) (T := TX6) (N := 14) E (mI inUX6) rfl (by decide) (mU uw_3_113) ev17 dX6_rows_55 ?_
      refine j_iload E 4 rfl dX6_rows_58 ?_
      obtain ⟨v18, ev18, hf⟩ := bs hf
      refine j_aI E ev18 dX6_rows_60 ?_
      refine j_aload_n E 0 rfl dX6_rows_61 rfl ?_
      obtain ⟨v19, ev19, hf⟩ := bs hf
      refine j_getR (ci := 5) (k0 := 1) (T := TX6) (N := 14) E (mI inUX6) rfl (by decide) (mU uw_3_105) ev19 dX6_rows_62 ?_
      refine j_iload_n E 1 rfl dX6_rows_65 rfl ?_
      obtain ⟨v20, ev20, hf⟩ := bs hf
      refine j_aI E ev20 dX6_rows_66 ?_
      refine j_icmp_lt (tgt := 73) E dX6_rows_67 (by decide) (fun z21 => ?_) (fun z21 => ?_)
      · have hf := ifp hf z21
        refine j_iconst (v := 0) E dX6_rows_73 (by decide) ?_
        refine j_istore (lv' := [(5, .int 0), (0, .ref (ad x0)), (1, .int x1), (2, .int x2), (3, .int x3), (4, .int x4)]) E dX6_rows_74 (by decide) rfl ?_
        refine j_perm (lv' := [(0, .ref (ad x0)), (1, .int x1), (2, .int x2), (3, .int x3), (4, .int x4), (5, .int 0)]) [1, 2, 3, 4, 5, 0] rfl ?_
        refine w_X6_rows_76 E hr hlk x0 x1 x4 x2 x3 FU _ h 0 (fun h39 hf => ?_) hf
        refine j_iinc (v := (x4 + 1)) (k0 := 4) (lv' := [(4, .int (x4 + 1)), (0, .ref (ad x0)), (1, .int x1), (2, .int x2), (3, .int x3)]) E dX6_rows_132 rfl (congrArg (fun z => x4 + z) (by decide)) (by decide) rfl ?_
        refine j_goto (tgt := 48) E dX6_rows_135 (by decide) ?_
        refine j_perm (lv' := [(0, .ref (ad x0)), (1, .int x1), (2, .int x2), (3, .int x3), (4, .int (x4 + 1))]) [1, 2, 3, 4, 0] rfl ?_
        exact ih k h39 (x4 + 1) hk hf
      · have hf := ifn hf z21
        refine j_bipush (v := (-3)) E dX6_rows_70 (by decide) ?_
        cases hf
        exact j_iret E hr hlk dX6_rows_72
set_option maxRecDepth 100000 in
set_option maxHeartbeats 4000000 in
theorem c_X6_rows (l : Launch) (D : va_G) (ad : Nat → Nat) (cy : Nat → ClassId) (h : HP) (x0 : Nat) (x1 : Int32) (x2 : Int32) {h' : HP} {r : Int32} (hf : f_X6_rows h x0 x1 x2 = some (h', r)) : Met l yX6_rows (wsM yX6_rows cX6_rows 6 (some .int)) rmX6_rows (va_Pc [.ref (ad x0), .int x1, .int x2] (PW D ad cy h)) (QV D ad cy (some (.int r)) h') 0 0 (Aw ad) := by
  refine met_of (own := RX6) (lv := [(0, .ref (ad x0)), (1, .int x1), (2, .int x2)]) (by decide) rfl (Nat.le_of_ble_eq_true rfl) rfl (fun p e s m args below meth c E hr hlk => ?_)
  unfold f_X6_rows at hf
  refine j_iload_n E 2 rfl dX6_rows_0 rfl ?_
  obtain ⟨v1, e2, hf⟩ := bs hf
  refine j_callS (As := [.int x2]) (rest := []) (v := (some (.int v1))) E (c_X6_isNumber l D ad cy h x2 e2) (mcs E.1.2.2.2.2 uw_3_154 uw_3_152 uw_3_153 uw_1_6 rfl rfl hd_X6_isNumber ⟨by decide, by decide⟩) rfl rfl (Nat.le_of_ble_eq_true rfl) dX6_rows_1 ⟨Nat.zero_le _, Nat.zero_le _⟩ ?_
  refine j_stk (st' := [.int v1]) rfl ?_
  refine j_if_eq (tgt := 15) E dX6_rows_4 (by decide) (fun z3 => ?_) (fun z3 => ?_)
  · have hf := ifp hf z3
    refine j_iconst (v := (-1)) E dX6_rows_15 (by decide) ?_
    cases hf
    exact j_iret E hr hlk dX6_rows_16
  · have hf := ifn hf z3
    refine j_aload_n E 0 rfl dX6_rows_7 rfl ?_
    refine j_iload_n E 1 rfl dX6_rows_8 rfl ?_
    obtain ⟨k4, hf⟩ := ck_spec hf
    obtain ⟨v5, e6, hf⟩ := bs hf
    refine j_callV (ci := 5) (b := x0) (As := [.int x1]) (rest := []) (v := (some (.int v5))) E (c_X6_isTable l D ad cy h x0 x1 e6) (mcw E.1.2.2.2.2 uw_3_186 uw_3_183 uw_3_185 us_2_2 uw_1_6 rfl rfl hd_X6_isTable ⟨by decide, by decide⟩) rfl k4 rfl rfl (Nat.le_of_ble_eq_true rfl) dX6_rows_9 ⟨Nat.zero_le _, Nat.zero_le _⟩ ?_
    refine j_stk (st' := [.int v5]) rfl ?_
    refine j_if_ne (tgt := 17) E dX6_rows_12 (by decide) (fun z7 => ?_) (fun z7 => ?_)
    · have hf := ifn hf z7
      refine j_aload_n E 0 rfl dX6_rows_17 rfl ?_
      obtain ⟨v8, ev8, hf⟩ := bs hf
      refine j_getI (ci := 5) (k0 := 8) (T := TX6) (N := 14) E (mI inUX6) rfl (by decide) (mU uw_3_112) ev8 dX6_rows_18 ?_
      refine j_istore_n (lv' := [(3, .int v8), (0, .ref (ad x0)), (1, .int x1), (2, .int x2)]) E dX6_rows_21 rfl (by decide) rfl ?_
      refine j_aload_n E 1 rfl dX6_rows_22 rfl ?_
      refine j_iconst (v := 0) E dX6_rows_23 (by decide) ?_
      obtain ⟨h9, eh9, hf⟩ := bs hf
      refine j_putI (ci := 5) (k0 := 8) (T := TX6) (N := 14) E (mI inUX6) rfl (by decide) (mU uw_3_112) tyX6 tyX6_ok nmX6 rfl (by decide +kernel) eh9 dX6_rows_24 ?_
      refine j_iload_n E 0 rfl dX6_rows_27 rfl ?_
      refine j_if_ne (tgt := 34) E dX6_rows_28 (by decide) (fun z10 => ?_) (fun z10 => ?_)
      · have hf := ifn hf z10
        refine j_aload_n E 1 rfl dX6_rows_34 rfl ?_
        refine j_iload_n E 0 rfl dX6_rows_35 rfl ?_
        refine j_aload_n E 1 rfl dX6_rows_36 rfl ?_
        obtain ⟨v11, ev11, hf⟩ := bs hf
        refine j_getR (ci := 5) (k0 := 2) (T := TX6) (N := 14) E (mI inUX6) rfl (by decide) (mU uw_3_106) ev11 dX6_rows_37 ?_
        refine j_iload_n E 2 rfl dX6_rows_40 rfl ?_
        obtain ⟨v12, ev12, hf⟩ := bs hf
        refine j_aI E ev12 dX6_rows_41 ?_
        obtain ⟨k13, hf⟩ := ck_spec hf
        obtain ⟨h14, e15, hf⟩ := bs hf
        refine j_callV (ci := 5) (b := x0) (As := [.int v8, .int v12]) (rest := []) (v := none) E (c_X6_begin l D ad cy h9 x0 v8 v12 e15) (mcw E.1.2.2.2.2 uw_3_158 uw_3_155 uw_3_157 us_1_15 uw_1_6 rfl rfl hd_X6_begin ⟨by decide, by decide⟩) rfl k13 rfl rfl (Nat.le_of_ble_eq_true rfl) dX6_rows_42 ⟨Nat.zero_le _, Nat.zero_le _⟩ ?_
        refine j_stk (st' := []) rfl ?_
        refine j_iconst (v := 0) E dX6_rows_45 (by decide) ?_
        refine j_istore (lv' := [(4, .int 0), (3, .int v8), (0, .ref (ad x0)), (1, .int x1), (2, .int x2)]) E dX6_rows_46 (by decide) rfl ?_
        refine j_perm (lv' := [(0, .ref (ad x0)), (1, .int x1), (2, .int x2), (3, .int v8), (4, .int 0)]) [2, 3, 4, 1, 0] rfl ?_
        refine w_X6_rows_48 E hr hlk x0 x1 v8 x2 FU _ h14 0 (fun h40 hf => ?_) hf
        refine j_aload_n E 0 rfl dX6_rows_138 rfl ?_
        refine j_iload_n E 1 rfl dX6_rows_139 rfl ?_
        obtain ⟨k41, hf⟩ := ck_spec hf
        obtain ⟨⟨h42, v43⟩, e44, hf⟩ := bs hf
        refine j_callV (ci := 5) (b := x0) (As := [.int x2]) (rest := []) (v := (some (.int v43))) E (c_X6_putAt l D ad cy h40 x0 x2 e44) (mcw E.1.2.2.2.2 uw_3_162 uw_3_159 uw_3_161 us_2_0 uw_1_6 rfl rfl hd_X6_putAt ⟨by decide, by decide⟩) rfl k41 rfl rfl (Nat.le_of_ble_eq_true rfl) dX6_rows_140 ⟨Nat.zero_le _, Nat.zero_le _⟩ ?_
        refine j_stk (st' := [.int v43]) rfl ?_
        cases hf
        exact j_iret E hr hlk dX6_rows_143
      · have hf := ifp hf z10
        refine j_bipush (v := (-3)) E dX6_rows_31 (by decide) ?_
        cases hf
        exact j_iret E hr hlk dX6_rows_33
    · have hf := ifp hf z7
      refine j_iconst (v := (-1)) E dX6_rows_15 (by decide) ?_
      cases hf
      exact j_iret E hr hlk dX6_rows_16
noncomputable def L_X6_slopes_213 (h : HP) (x0 : Nat) (x1 : Int32) (x3 : Int32) (x7 : Int32) (x8 : Int32) : Nat → (Int64 → Option (HP × Int32)) → Int64 → Int32 → Option (HP × Int32)
  | 0, _, _, _ => none
  | n + 1, k, x9, x11 =>
      (gR 5 h x0 1).bind fun v50 =>
      (aI h v50 x1).bind fun v51 =>
      if v51 ≤ x11 then (
        k x9
      ) else (
        ck 5 h x0 <|
        (f_X6_holds h x0 x3 x11 x8).bind fun v54 =>
        ck 5 h x0 <|
        (f_X6_holds h x0 x1 x11 x7).bind fun v57 =>
        L_X6_slopes_213 h x0 x1 x3 x7 x8 n k (x9 + (v54 * v57)) (x11 + 1)
      )
noncomputable def L_X6_slopes_166 (h : HP) (x0 : Nat) (x2 : Int32) (x3 : Int32) (x7 : Int32) (x8 : Int32) : Nat → (Int64 → Option (HP × Int32)) → Int64 → Int32 → Option (HP × Int32)
  | 0, _, _, _ => none
  | n + 1, k, x9, x11 =>
      (gR 5 h x0 2).bind fun v63 =>
      (aI h v63 x2).bind fun v64 =>
      if v64 ≤ x11 then (
        k x9
      ) else (
        ck 5 h x0 <|
        (f_X6_holds h x0 x3 x7 x11).bind fun v67 =>
        ck 5 h x0 <|
        (f_X6_holds h x0 x2 x8 x11).bind fun v70 =>
        L_X6_slopes_166 h x0 x2 x3 x7 x8 n k (x9 + (v67 * v70)) (x11 + 1)
      )
noncomputable def L_X6_slopes_130 (x0 : Nat) (x1 : Int32) (x2 : Int32) (x3 : Int32) (x5 : Int32) (x6 : Int32) (x7 : Int32) : Nat → (HP → Option (HP × Int32)) → HP → Int32 → Option (HP × Int32)
  | 0, _, _, _ => none
  | n + 1, k, h, x8 =>
      (gR 5 h x0 2).bind fun v42 =>
      (aI h v42 x6).bind fun v43 =>
      if v43 ≤ x8 then (
        k h
      ) else (
        ck 5 h x0 <|
        (f_X6_has h x0 x6 x7 x8).bind fun v46 =>
        if v46 = 0 then (
          L_X6_slopes_130 x0 x1 x2 x3 x5 x6 x7 n k h (x8 + 1)
        ) else (
          if x5 = 0 then (
            L_X6_slopes_213 h x0 x1 x3 x7 x8 FU (fun x59 =>
              ck 5 h x0 <|
              (f_X6_keep h x0 x7 x8 x59).bind fun h61 =>
              L_X6_slopes_130 x0 x1 x2 x3 x5 x6 x7 n k h61 (x8 + 1)) 0 0
          ) else (
            L_X6_slopes_166 h x0 x2 x3 x7 x8 FU (fun x72 =>
              ck 5 h x0 <|
              (f_X6_keep h x0 x7 x8 x72).bind fun h74 =>
              L_X6_slopes_130 x0 x1 x2 x3 x5 x6 x7 n k h74 (x8 + 1)) 0 0
          )
        )
      )
noncomputable def L_X6_slopes_115 (x0 : Nat) (x1 : Int32) (x2 : Int32) (x3 : Int32) (x5 : Int32) (x6 : Int32) : Nat → (HP → Option (HP × Int32)) → HP → Int32 → Option (HP × Int32)
  | 0, _, _, _ => none
  | n + 1, k, h, x7 =>
      (gR 5 h x0 1).bind fun v39 =>
      (aI h v39 x6).bind fun v40 =>
      if v40 ≤ x7 then (
        k h
      ) else (
        L_X6_slopes_130 x0 x1 x2 x3 x5 x6 x7 FU (fun h76 =>
          L_X6_slopes_115 x0 x1 x2 x3 x5 x6 n k h76 (x7 + 1)) h 0
      )
noncomputable def f_X6_slopes (h : HP) (x0 : Nat) (x1 : Int32) (x2 : Int32) (x3 : Int32) (x4 : Int32) (x5 : Int32) : Option (HP × Int32) :=
  (f_X6_isNumber x4).bind fun v1 =>
  if v1 = 0 then (
    some (h, (-1))
  ) else (
    ck 5 h x0 <|
    (f_X6_isTable h x0 x1).bind fun v5 =>
    if v5 = 0 then (
      some (h, (-1))
    ) else (
      ck 5 h x0 <|
      (f_X6_isTable h x0 x2).bind fun v9 =>
      if v9 = 0 then (
        some (h, (-1))
      ) else (
        ck 5 h x0 <|
        (f_X6_isTable h x0 x3).bind fun v13 =>
        if v13 = 0 then (
          some (h, (-1))
        ) else (
          (gR 5 h x0 2).bind fun v16 =>
          (aI h v16 x1).bind fun v17 =>
          (gR 5 h x0 1).bind fun v18 =>
          (aI h v18 x2).bind fun v19 =>
          if v17 = v19 then (
            (gR 5 h x0 1).bind fun v21 =>
            (aI h v21 x3).bind fun v22 =>
            (gR 5 h x0 1).bind fun v23 =>
            (aI h v23 x1).bind fun v24 =>
            if v22 = v24 then (
              (gR 5 h x0 2).bind fun v26 =>
              (aI h v26 x3).bind fun v27 =>
              (gR 5 h x0 2).bind fun v28 =>
              (aI h v28 x2).bind fun v29 =>
              if v27 = v29 then (
                if x5 = 0 then (
                  (gR 5 h x0 1).bind fun v32 =>
                  (aI h v32 x2).bind fun v33 =>
                  (gR 5 h x0 2).bind fun v34 =>
                  (aI h v34 x2).bind fun v35 =>
                  ck 5 h x0 <|
                  (f_X6_begin h x0 v33 v35).bind fun h37 =>
                  L_X6_slopes_115 x0 x1 x2 x3 x5 x2 FU (fun h77 =>
                    ck 5 h77 x0 <|
                    (f_X6_putAt h77 x0 x4).bind fun (h79, v80) =>
                    some (h79, v80)) h37 0
                ) else (
                  (gR 5 h x0 1).bind fun v82 =>
                  (aI h v82 x1).bind fun v83 =>
                  (gR 5 h x0 2).bind fun v84 =>
                  (aI h v84 x1).bind fun v85 =>
                  ck 5 h x0 <|
                  (f_X6_begin h x0 v83 v85).bind fun h87 =>
                  L_X6_slopes_115 x0 x1 x2 x3 x5 x1 FU (fun h89 =>
                    ck 5 h89 x0 <|
                    (f_X6_putAt h89 x0 x4).bind fun (h91, v92) =>
                    some (h91, v92)) h87 0
                )
              ) else (
                some (h, (-3))
              )
            ) else (
              some (h, (-3))
            )
          ) else (
            some (h, (-3))
          )
        )
      )
    )
  )
abbrev rmX6_slopes : Room := { frames := 3, cells := 0, slots := 0, locals := 68 }
theorem hd_X6_slopes : yX6_slopes.cls = RX6 ∧ yX6_slopes.cls ≠ "java/lang/invoke/MethodHandle" ∧ yX6_slopes.cls ≠ "java/lang/invoke/VarHandle" ∧ (parseMethodDescriptor yX6_slopes.desc).map (fun d => d.parameters.length) = some 5 := by decide +kernel
set_option maxRecDepth 100000 in
set_option maxHeartbeats 4000000 in
theorem w_X6_slopes_213 {p : Program} {l : Launch} {e : Env} {s : State} {m : MethodId} {args : Array Value} {below : List Frame} {meth : Method} {c : Code} {D : va_G} {ad : Nat → Nat} {cy : Nat → ClassId} (E : EE p s m args c cX6_slopes 12 (wsM yX6_slopes cX6_slopes 12 (some .int)) RX6 D cy) (hr : meth.sig.returnType = (some .int)) (hlk : meth.locks = false) {h' : HP} {r : Int32} (h : HP) (x0 : Nat) (x1 : Int32) (x3 : Int32) (x7 : Int32) (x8 : Int32) (x2 : Int32) (x4 : Int32) (x5 : Int32) (x6 : Int32) : ∀ (n : Nat) (k : (Int64 → Option (HP × Int32))) (x9 : Int64) (x11 : Int32), (∀ (x9 : Int64), k x9 = some (h', r) → JJ p l e rmX6_slopes s m args below meth c 0 0 (MQ below (QV D ad cy (some (.int r)) h') args s 0 0 (Aw ad)) D ad cy (Aw ad) 12 h [(0, .ref (ad x0)), (1, .int x1), (2, .int x2), (3, .int x3), (4, .int x4), (5, .int x5), (6, .int x6), (7, .int x7), (8, .int x8), (9, .long x9)] 254 []) → L_X6_slopes_213 h x0 x1 x3 x7 x8 n k x9 x11 = some (h', r) → JJ p l e rmX6_slopes s m args below meth c 0 0 (MQ below (QV D ad cy (some (.int r)) h') args s 0 0 (Aw ad)) D ad cy (Aw ad) 12 h [(0, .ref (ad x0)), (1, .int x1), (2, .int x2), (3, .int x3), (4, .int x4), (5, .int x5), (6, .int x6), (7, .int x7), (8, .int x8), (9, .long x9), (11, .int x11)] 213 [] := by
  intro n
  induction n with
  | zero => intro k x9 x11 hk hf; cases hf
  | succ n ih =>
    intro k x9 x11 hk hf
    unfold L_X6_slopes_213 at hf
    refine j_iload E 10 rfl dX6_slopes_213 ?_
    refine j_aload_n E 0 rfl dX6_slopes_215 rfl ?_
    obtain ⟨v50, ev50, hf⟩ := bs hf
    refine j_getR (ci := 5) (k0 := 1) (T := TX6) (N := 14) E (mI inUX6) rfl (by decide) (mU uw_3_105) ev50 dX6_slopes_216 ?_
    refine j_iload_n E 1 rfl dX6_slopes_219 rfl ?_
    obtain ⟨v51, ev51, hf⟩ := bs hf
    refine j_aI E ev51 dX6_slopes_220 ?_
    refine j_icmp_ge (tgt := 254) E dX6_slopes_221 (by decide) (fun z52 => ?_) (fun z52 => ?_)
    · have hf := ifp hf z52
      refine j_perm (lv' := [(0, .ref (ad x0)), (1, .int x1), (2, .int x2), (3, .int x3), (4, .int x4), (5, .int x5), (6, .int x6), (7, .int x7), (8, .int x8), (9, .long x9)]) [0, 1, 2, 3, 4, 5, 6, 7, 8, 9] rfl ?_
      exact hk x9 hf
    · have hf := ifn hf z52
      refine j_lload E 9 rfl dX6_slopes_224 ?_
      refine j_aload_n E 0 rfl dX6_slopes_226 rfl ?_
      refine j_iload_n E 3 rfl dX6_slopes_227 rfl ?_
      refine j_iload E 10 rfl dX6_slopes_228 ?_
      refine j_iload E 8 rfl dX6_slopes_230 ?_
      obtain ⟨k53, hf⟩ := ck_spec hf
      obtain ⟨v54, e55, hf⟩ := bs hf
      refine j_callV (ci := 5) (b := x0) (As := [.int x3, .int x11, .int x8]) (rest := [.long x9]) (v := (some (.long v54))) E (c_X6_holds l D ad cy h x0 x3 x11 x8 e55) (mcw E.1.2.2.2.2 uw_3_206 uw_3_203 uw_3_205 us_2_5 uw_1_6 rfl rfl hd_X6_holds ⟨by decide, by decide⟩) rfl k53 rfl rfl (Nat.le_of_ble_eq_true rfl) dX6_slopes_232 ⟨Nat.zero_le _, Nat.zero_le _⟩ ?_
      refine j_stk (st' := [.long v54, .long x9]) rfl ?_
      refine j_aload_n E 0 rfl dX6_slopes_235 rfl ?_
      refine j_iload_n E 1 rfl dX6_slopes_236 rfl ?_
      refine j_iload E 10 rfl dX6_slopes_237 ?_
      refine j_iload E 7 rfl dX6_slopes_239 ?_
      obtain ⟨k56, hf⟩ := ck_spec hf
      obtain ⟨v57, e58, hf⟩ := bs hf
      refine j_callV (ci := 5) (b := x0) (As := [.int x1, .int x11, .int x7]) (rest := [.long v54, .long x9]) (v := (some (.long v57))) E (c_X6_holds l D ad cy h x0 x1 x11 x7 e58) (mcw E.1.2.2.2.2 uw_3_206 uw_3_203 uw_3_205 us_2_5 uw_1_6 rfl rfl hd_X6_holds ⟨by decide, by decide⟩) rfl k56 rfl rfl (Nat.le_of_ble_eq_true rfl) dX6_slopes_241 ⟨Nat.zero_le _, Nat.zero_le _⟩ ?_
      refine j_stk (st' := [.long v57, .long v54, .long x9]) rfl ?_
      refine j_lmul E dX6_slopes_244 ?_
      refine j_ladd E dX6_slopes_245 ?_
      refine j_lstore (lv' := [(9, .long (x9 + (v54 * v57))), (0, .ref (ad x0)), (1, .int x1), (2, .int x2), (3, .int x3), (4, .int x4), (5, .int x5), (6, .int x6), (7, .int x7), (8, .int x8), (11, .int x11)]) E dX6_slopes_246 (by decide) rfl ?_
      refine j_iinc (v := (x11 + 1)) (k0 := 10) (lv' := [(11, .int (x11 + 1)), (9, .long (x9 + (v54 * v57))), (0, .ref (ad x0)), (1, .int x1), (2, .int x2), (3, .int x3), (4, .int x4), (5, .int x5), (6, .int x6), (7, .int x7), (8, .int x8)]) E dX6_slopes_248 rfl (congrArg (fun z => x11 + z) (by decide)) (by decide) rfl ?_
      refine j_goto (tgt := 213) E dX6_slopes_251 (by decide) ?_
      refine j_perm (lv' := [(0, .ref (ad x0)), (1, .int x1), (2, .int x2), (3, .int x3), (4, .int x4), (5, .int x5), (6, .int x6), (7, .int x7), (8, .int x8), (9, .long (x9 + (v54 * v57))), (11, .int (x11 + 1))]) [2, 3, 4, 5, 6, 7, 8, 9, 10, 1, 0] rfl ?_
      exact ih k (x9 + (v54 * v57)) (x11 + 1) hk hf
set_option maxRecDepth 100000 in
set_option maxHeartbeats 4000000 in
theorem w_X6_slopes_166 {p : Program} {l : Launch} {e : Env} {s : State} {m : MethodId} {args : Array Value} {below : List Frame} {meth : Method} {c : Code} {D : va_G} {ad : Nat → Nat} {cy : Nat → ClassId} (E : EE p s m args c cX6_slopes 12 (wsM yX6_slopes cX6_slopes 12 (some .int)) RX6 D cy) (hr : meth.sig.returnType = (some .int)) (hlk : meth.locks = false) {h' : HP} {r : Int32} (h : HP) (x0 : Nat) (x2 : Int32) (x3 : Int32) (x7 : Int32) (x8 : Int32) (x1 : Int32) (x4 : Int32) (x5 : Int32) (x6 : Int32) : ∀ (n : Nat) (k : (Int64 → Option (HP × Int32))) (x9 : Int64) (x11 : Int32), (∀ (x9 : Int64), k x9 = some (h', r) → JJ p l e rmX6_slopes s m args below meth c 0 0 (MQ below (QV D ad cy (some (.int r)) h') args s 0 0 (Aw ad)) D ad cy (Aw ad) 12 h [(0, .ref (ad x0)), (1, .int x1), (2, .int x2), (3, .int x3), (4, .int x4), (5, .int x5), (6, .int x6), (7, .int x7), (8, .int x8), (9, .long x9)] 207 []) → L_X6_slopes_166 h x0 x2 x3 x7 x8 n k x9 x11 = some (h', r) → JJ p l e rmX6_slopes s m args below meth c 0 0 (MQ below (QV D ad cy (some (.int r)) h') args s 0 0 (Aw ad)) D ad cy (Aw ad) 12 h [(0, .ref (ad x0)), (1, .int x1), (2, .int x2), (3, .int x3), (4, .int x4), (5, .int x5), (6, .int x6), (7, .int x7), (8, .int x8), (9, .long x9), (11, .int x11)] 166 [] := by
  intro n
  induction n with
  | zero => intro k x9 x11 hk hf; cases hf
  | succ n ih =>
    intro k x9 x11 hk hf
    unfold L_X6_slopes_166 at hf
    refine j_iload E 10 rfl dX6_slopes_166 ?_
    refine j_aload_n E 0 rfl dX6_slopes_168 rfl ?_
    obtain ⟨v63, ev63, hf⟩ := bs hf
    refine j_getR (ci := 5) (k0 := 2) (T := TX6) (N := 14) E (mI inUX6) rfl (by decide) (mU uw_3_106) ev63 dX6_slopes_169 ?_
    refine j_iload_n E 2 rfl dX6_slopes_172 rfl ?_
    obtain ⟨v64, ev64, hf⟩ := bs hf
    refine j_aI E ev64 dX6_slopes_173 ?_
    refine j_icmp_ge (tgt := 207) E dX6_slopes_174 (by decide) (fun z65 => ?_) (fun z65 => ?_)
    · have hf := ifp hf z65
      refine j_perm (lv' := [(0, .ref (ad x0)), (1, .int x1), (2, .int x2), (3, .int x3), (4, .int x4), (5, .int x5), (6, .int x6), (7, .int x7), (8, .int x8), (9, .long x9)]) [0, 1, 2, 3, 4, 5, 6, 7, 8, 9] rfl ?_
      exact hk x9 hf
    · have hf := ifn hf z65
      refine j_lload E 9 rfl dX6_slopes_177 ?_
      refine j_aload_n E 0 rfl dX6_slopes_179 rfl ?_
      refine j_iload_n E 3 rfl dX6_slopes_180 rfl ?_
      refine j_iload E 7 rfl dX6_slopes_181 ?_
      refine j_iload E 10 rfl dX6_slopes_183 ?_
      obtain ⟨k66, hf⟩ := ck_spec hf
      obtain ⟨v67, e68, hf⟩ := bs hf
      refine j_callV (ci := 5) (b := x0) (As := [.int x3, .int x7, .int x11]) (rest := [.long x9]) (v := (some (.long v67))) E (c_X6_holds l D ad cy h x0 x3 x7 x11 e68) (mcw E.1.2.2.2.2 uw_3_206 uw_3_203 uw_3_205 us_2_5 uw_1_6 rfl rfl hd_X6_holds ⟨by decide, by decide⟩) rfl k66 rfl rfl (Nat.le_of_ble_eq_true rfl) dX6_slopes_185 ⟨Nat.zero_le _, Nat.zero_le _⟩ ?_
      refine j_stk (st' := [.long v67, .long x9]) rfl ?_
      refine j_aload_n E 0 rfl dX6_slopes_188 rfl ?_
      refine j_iload_n E 2 rfl dX6_slopes_189 rfl ?_
      refine j_iload E 8 rfl dX6_slopes_190 ?_
      refine j_iload E 10 rfl dX6_slopes_192 ?_
      obtain ⟨k69, hf⟩ := ck_spec hf
      obtain ⟨v70, e71, hf⟩ := bs hf
      refine j_callV (ci := 5) (b := x0) (As := [.int x2, .int x8, .int x11]) (rest := [.long v67, .long x9]) (v := (some (.long v70))) E (c_X6_holds l D ad cy h x0 x2 x8 x11 e71) (mcw E.1.2.2.2.2 uw_3_206 uw_3_203 uw_3_205 us_2_5 uw_1_6 rfl rfl hd_X6_holds ⟨by decide, by decide⟩) rfl k69 rfl rfl (Nat.le_of_ble_eq_true rfl) dX6_slopes_194 ⟨Nat.zero_le _, Nat.zero_le _⟩ ?_
      refine j_stk (st' := [.long v70, .long v67, .long x9]) rfl ?_
      refine j_lmul E dX6_slopes_197 ?_
      refine j_ladd E dX6_slopes_198 ?_
      refine j_lstore (lv' := [(9, .long (x9 + (v67 * v70))), (0, .ref (ad x0)), (1, .int x1), (2, .int x2), (3, .int x3), (4, .int x4), (5, .int x5), (6, .int x6), (7, .int x7), (8, .int x8), (11, .int x11)]) E dX6_slopes_199 (by decide) rfl ?_
      refine j_iinc (v := (x11 + 1)) (k0 := 10) (lv' := [(11, .int (x11 + 1)), (9, .long (x9 + (v67 * v70))), (0, .ref (ad x0)), (1, .int x1), (2, .int x2), (3, .int x3), (4, .int x4), (5, .int x5), (6, .int x6), (7, .int x7), (8, .int x8)]) E dX6_slopes_201 rfl (congrArg (fun z => x11 + z) (by decide)) (by decide) rfl ?_
      refine j_goto (tgt := 166) E dX6_slopes_204 (by decide) ?_
      refine j_perm (lv' := [(0, .ref (ad x0)), (1, .int x1), (2, .int x2), (3, .int x3), (4, .int x4), (5, .int x5), (6, .int x6), (7, .int x7), (8, .int x8), (9, .long (x9 + (v67 * v70))), (11, .int (x11 + 1))]) [2, 3, 4, 5, 6, 7, 8, 9, 10, 1, 0] rfl ?_
      exact ih k (x9 + (v67 * v70)) (x11 + 1) hk hf
set_option maxRecDepth 100000 in
set_option maxHeartbeats 4000000 in
theorem w_X6_slopes_130 {p : Program} {l : Launch} {e : Env} {s : State} {m : MethodId} {args : Array Value} {below : List Frame} {meth : Method} {c : Code} {D : va_G} {ad : Nat → Nat} {cy : Nat → ClassId} (E : EE p s m args c cX6_slopes 12 (wsM yX6_slopes cX6_slopes 12 (some .int)) RX6 D cy) (hr : meth.sig.returnType = (some .int)) (hlk : meth.locks = false) {h' : HP} {r : Int32} (x0 : Nat) (x1 : Int32) (x2 : Int32) (x3 : Int32) (x5 : Int32) (x6 : Int32) (x7 : Int32) (x4 : Int32) : ∀ (n : Nat) (k : (HP → Option (HP × Int32))) (h : HP) (x8 : Int32), (∀ (h : HP), k h = some (h', r) → JJ p l e rmX6_slopes s m args below meth c 0 0 (MQ below (QV D ad cy (some (.int r)) h') args s 0 0 (Aw ad)) D ad cy (Aw ad) 12 h [(0, .ref (ad x0)), (1, .int x1), (2, .int x2), (3, .int x3), (4, .int x4), (5, .int x5), (6, .int x6), (7, .int x7)] 270 []) → L_X6_slopes_130 x0 x1 x2 x3 x5 x6 x7 n k h x8 = some (h', r) → JJ p l e rmX6_slopes s m args below meth c 0 0 (MQ below (QV D ad cy (some (.int r)) h') args s 0 0 (Aw ad)) D ad cy (Aw ad) 12 h [(0, .ref (ad x0)), (1, .int x1), (2, .int x2), (3, .int x3), (4, .int x4), (5, .int x5), (6, .int x6), (7, .int x7), (8, .int x8)] 130 [] := by
  intro n
  induction n with
  | zero => intro k h x8 hk hf; cases hf
  | succ n ih =>
    intro k h x8 hk hf
    unfold L_X6_slopes_130 at hf
    refine j_iload E 8 rfl dX6_slopes_130 ?_
    refine j_aload_n E 0 rfl dX6_slopes_132 rfl ?_
    obtain ⟨v42, ev42, hf⟩ := bs hf
    refine j_getR (ci := 5) (k0 := 2) (T := TX6) (N := 14) E (mI inUX6) rfl (by decide) (mU uw_3_106) ev42 dX6_slopes_133 ?_
    refine j_iload E 6 rfl dX6_slopes_136 ?_
    obtain ⟨v43, ev43, hf⟩ := bs hf
    refine j_aI E ev43 dX6_slopes_138 ?_
    refine j_icmp_ge (tgt := 270) E dX6_slopes_139 (by decide) (fun z44 => ?_) (fun z44 => ?_)
    · have hf := ifp hf z44
      refine j_perm (lv' := [(0, .ref (ad x0)), (1, .int x1), (2, .int x2), (3, .int x3), (4, .int x4), (5, .int x5), (6, .int x6), (7, .int x7)]) [0, 1, 2, 3, 4, 5, 6, 7] rfl ?_
      exact hk h hf
    · have hf := ifn hf z44
      refine j_aload_n E 0 rfl dX6_slopes_142 rfl ?_
      refine j_iload E 6 rfl dX6_slopes_143 ?_
      refine j_iload E 7 rfl dX6_slopes_145 ?_
      refine j_iload E 8 rfl dX6_slopes_147 ?_
      obtain ⟨k45, hf⟩ := ck_spec hf
      obtain ⟨v46, e47, hf⟩ := bs hf
      refine j_callV (ci := 5) (b := x0) (As := [.int x6, .int x7, .int x8]) (rest := []) (v := (some (.int v46))) E (c_X6_has l D ad cy h x0 x6 x7 x8 e47) (mcw E.1.2.2.2.2 uw_3_210 uw_3_207 uw_3_209 us_2_6 uw_1_6 rfl rfl hd_X6_has ⟨by decide, by decide⟩) rfl k45 rfl rfl (Nat.le_of_ble_eq_true rfl) dX6_slopes_149 ⟨Nat.zero_le _, Nat.zero_le _⟩ ?_
      refine j_stk (st' := [.int v46]) rfl ?_
      refine j_if_eq (tgt := 264) E dX6_slopes_152 (by decide) (fun z48 => ?_) (fun z48 => ?_)
      · have hf := ifp hf z48
        refine j_iinc (v := (x8 + 1)) (k0 := 8) (lv' := [(8, .int (x8 + 1)), (0, .ref (ad x0)), (1, .int x1), (2, .int x2), (3, .int x3), (4, .int x4), (5, .int x5), (6, .int x6), (7, .int x7)]) E dX6_slopes_264 rfl (congrArg (fun z => x8 + z) (by decide)) (by decide) rfl ?_
        refine j_goto (tgt := 130) E dX6_slopes_267 (by decide) ?_
        refine j_perm (lv' := [(0, .ref (ad x0)), (1, .int x1), (2, .int x2), (3, .int x3), (4, .int x4), (5, .int x5), (6, .int x6), (7, .int x7), (8, .int (x8 + 1))]) [1, 2, 3, 4, 5, 6, 7, 8, 0] rfl ?_
        exact ih k h (x8 + 1) hk hf
      · have hf := ifn hf z48
        refine j_lconst (v := 0) E dX6_slopes_155 (by decide) ?_
        refine j_lstore (lv' := [(9, .long 0), (0, .ref (ad x0)), (1, .int x1), (2, .int x2), (3, .int x3), (4, .int x4), (5, .int x5), (6, .int x6), (7, .int x7), (8, .int x8)]) E dX6_slopes_156 (by decide) rfl ?_
        refine j_iload E 6 rfl dX6_slopes_158 ?_
        refine j_if_eq (tgt := 210) E dX6_slopes_160 (by decide) (fun z49 => ?_) (fun z49 => ?_)
        · have hf := ifp hf z49
          refine j_iconst (v := 0) E dX6_slopes_210 (by decide) ?_
          refine j_istore (lv' := [(11, .int 0), (9, .long 0), (0, .ref (ad x0)), (1, .int x1), (2, .int x2), (3, .int x3), (4, .int x4), (5, .int x5), (6, .int x6), (7, .int x7), (8, .int x8)]) E dX6_slopes_211 (by decide) rfl ?_
          refine j_perm (lv' := [(0, .ref (ad x0)), (1, .int x1), (2, .int x2), (3, .int x3), (4, .int x4), (5, .int x5), (6, .int x6), (7, .int x7), (8, .int x8), (9, .long 0), (11, .int 0)]) [2, 3, 4, 5, 6, 7, 8, 9, 10, 1, 0] rfl ?_
          refine w_X6_slopes_213 E hr hlk h x0 x1 x3 x7 x8 x2 x4 x5 x6 FU _ 0 0 (fun x59 hf => ?_) hf
          refine j_aload_n E 0 rfl dX6_slopes_254 rfl ?_
          refine j_iload E 7 rfl dX6_slopes_255 ?_
          refine j_iload E 8 rfl dX6_slopes_257 ?_
          refine j_lload E 9 rfl dX6_slopes_259 ?_
          obtain ⟨k60, hf⟩ := ck_spec hf
          obtain ⟨h61, e62, hf⟩ := bs hf
          refine j_callV (ci := 5) (b := x0) (As := [.int x7, .int x8, .long x59]) (rest := []) (v := none) E (c_X6_keep l D ad cy h x0 x7 x8 x59 e62) (mcw E.1.2.2.2.2 uw_4_1 uw_3_238 uw_4_0 us_2_8 uw_1_6 rfl rfl hd_X6_keep ⟨by decide, by decide⟩) rfl k60 rfl rfl (Nat.le_of_ble_eq_true rfl) dX6_slopes_261 ⟨Nat.zero_le _, Nat.zero_le _⟩ ?_
          refine j_stk (st' := []) rfl ?_
          refine j_iinc (v := (x8 + 1)) (k0 := 8) (lv' := [(8, .int (x8 + 1)), (0, .ref (ad x0)), (1, .int x1), (2, .int x2), (3, .int x3), (4, .int x4), (5, .int x5), (6, .int x6), (7, .int x7), (9, .long x59)]) E dX6_slopes_264 rfl (congrArg (fun z => x8 + z) (by decide)) (by decide) rfl ?_
          refine j_goto (tgt := 130) E dX6_slopes_267 (by decide) ?_
          refine j_perm (lv' := [(0, .ref (ad x0)), (1, .int x1), (2, .int x2), (3, .int x3), (4, .int x4), (5, .int x5), (6, .int x6), (7, .int x7), (8, .int (x8 + 1))]) [1, 2, 3, 4, 5, 6, 7, 8, 0] rfl ?_
          exact ih k h61 (x8 + 1) hk hf
        · have hf := ifn hf z49
          refine j_iconst (v := 0) E dX6_slopes_163 (by decide) ?_
          refine j_istore (lv' := [(11, .int 0), (9, .long 0), (0, .ref (ad x0)), (1, .int x1), (2, .int x2), (3, .int x3), (4, .int x4), (5, .int x5), (6, .int x6), (7, .int x7), (8, .int x8)]) E dX6_slopes_164 (by decide) rfl ?_
          refine j_perm (lv' := [(0, .ref (ad x0)), (1, .int x1), (2, .int x2), (3, .int x3), (4, .int x4), (5, .int x5), (6, .int x6), (7, .int x7), (8, .int x8), (9, .long 0), (11, .int 0)]) [2, 3, 4, 5, 6, 7, 8, 9, 10, 1, 0] rfl ?_
          refine w_X6_slopes_166 E hr hlk h x0 x2 x3 x7 x8 x1 x4 x5 x6 FU _ 0 0 (fun x72 hf => ?_) hf
          refine j_goto (tgt := 254) E dX6_slopes_207 (by decide) ?_
          refine j_aload_n E 0 rfl dX6_slopes_254 rfl ?_
          refine j_iload E 7 rfl dX6_slopes_255 ?_
          refine j_iload E 8 rfl dX6_slopes_257 ?_
          refine j_lload E 9 rfl dX6_slopes_259 ?_
          obtain ⟨k73, hf⟩ := ck_spec hf
          obtain ⟨h74, e75, hf⟩ := bs hf
          refine j_callV (ci := 5) (b := x0) (As := [.int x7, .int x8, .long x72]) (rest := []) (v := none) E (c_X6_keep l D ad cy h x0 x7 x8 x72 e75) (mcw E.1.2.2.2.2 uw_4_1 uw_3_238 uw_4_0 us_2_8 uw_1_6 rfl rfl hd_X6_keep ⟨by decide, by decide⟩) rfl k73 rfl rfl (Nat.le_of_ble_eq_true rfl) dX6_slopes_261 ⟨Nat.zero_le _, Nat.zero_le _⟩ ?_
          refine j_stk (st' := []) rfl ?_
          refine j_iinc (v := (x8 + 1)) (k0 := 8) (lv' := [(8, .int (x8 + 1)), (0, .ref (ad x0)), (1, .int x1), (2, .int x2), (3, .int x3), (4, .int x4), (5, .int x5), (6, .int x6), (7, .int x7), (9, .long x72)]) E dX6_slopes_264 rfl (congrArg (fun z => x8 + z) (by decide)) (by decide) rfl ?_
          refine j_goto (tgt := 130) E dX6_slopes_267 (by decide) ?_
          refine j_perm (lv' := [(0, .ref (ad x0)), (1, .int x1), (2, .int x2), (3, .int x3), (4, .int x4), (5, .int x5), (6, .int x6), (7, .int x7), (8, .int (x8 + 1))]) [1, 2, 3, 4, 5, 6, 7, 8, 0] rfl ?_
          exact ih k h74 (x8 + 1) hk hf
set_option maxRecDepth 100000 in
set_option maxHeartbeats 4000000 in
theorem w_X6_slopes_115 {p : Program} {l : Launch} {e : Env} {s : State} {m : MethodId} {args : Array Value} {below : List Frame} {meth : Method} {c : Code} {D : va_G} {ad : Nat → Nat} {cy : Nat → ClassId} (E : EE p s m args c cX6_slopes 12 (wsM yX6_slopes cX6_slopes 12 (some .int)) RX6 D cy) (hr : meth.sig.returnType = (some .int)) (hlk : meth.locks = false) {h' : HP} {r : Int32} (x0 : Nat) (x1 : Int32) (x2 : Int32) (x3 : Int32) (x5 : Int32) (x6 : Int32) (x4 : Int32) : ∀ (n : Nat) (k : (HP → Option (HP × Int32))) (h : HP) (x7 : Int32), (∀ (h : HP), k h = some (h', r) → JJ p l e rmX6_slopes s m args below meth c 0 0 (MQ below (QV D ad cy (some (.int r)) h') args s 0 0 (Aw ad)) D ad cy (Aw ad) 12 h [(0, .ref (ad x0)), (4, .int x4)] 276 []) → L_X6_slopes_115 x0 x1 x2 x3 x5 x6 n k h x7 = some (h', r) → JJ p l e rmX6_slopes s m args below meth c 0 0 (MQ below (QV D ad cy (some (.int r)) h') args s 0 0 (Aw ad)) D ad cy (Aw ad) 12 h [(0, .ref (ad x0)), (1, .int x1), (2, .int x2), (3, .int x3), (4, .int x4), (5, .int x5), (6, .int x6), (7, .int x7)] 115 [] := by
  intro n
  induction n with
  | zero => intro k h x7 hk hf; cases hf
  | succ n ih =>
    intro k h x7 hk hf
    unfold L_X6_slopes_115 at hf
    refine j_iload E 7 rfl dX6_slopes_115 ?_
    refine j_aload_n E 0 rfl dX6_slopes_117 rfl ?_
    obtain ⟨v39, ev39, hf⟩ := bs hf
    refine j_getR (ci := 5) (k0 := 1) (T := TX6) (N := 14) E (mI inUX6) rfl (by decide) (mU uw_3_105) ev39 dX6_slopes_118 ?_
    refine j_iload E 6 rfl dX6_slopes_121 ?_
    obtain ⟨v40, ev40, hf⟩ := bs hf
    refine j_aI E ev40 dX6_slopes_123 ?_
    refine j_icmp_ge (tgt := 276) E dX6_slopes_124 (by decide) (fun z41 => ?_) (fun z41 => ?_)
    · have hf := ifp hf z41
      refine j_perm (lv' := [(0, .ref (ad x0)), (4, .int x4)]) [0, 4] rfl ?_
      exact hk h hf
    · have hf := ifn hf z41
      refine j_iconst (v := 0) E dX6_slopes_127 (by decide) ?_
      refine j_istore (lv' := [(8, .int 0), (0, .ref (ad x0)), (1, .int x1), (2, .int x2), (3, .int x3), (4, .int x4), (5, .int x5), (6, .int x6), (7, .int x7)]) E dX6_slopes_128 (by decide) rfl ?_
      refine j_perm (lv' := [(0, .ref (ad x0)), (1, .int x1), (2, .int x2), (3, .int x3), (4, .int x4), (5, .int x5), (6, .int x6), (7, .int x7), (8, .int 0)]) [1, 2, 3, 4, 5, 6, 7, 8, 0] rfl ?_
      refine w_X6_slopes_130 E hr hlk x0 x1 x2 x3 x5 x6 x7 x4 FU _ h 0 (fun h76 hf => ?_) hf
      refine j_iinc (v := (x7 + 1)) (k0 := 7) (lv' := [(7, .int (x7 + 1)), (0, .ref (ad x0)), (1, .int x1), (2, .int x2), (3, .int x3), (4, .int x4), (5, .int x5), (6, .int x6)]) E dX6_slopes_270 rfl (congrArg (fun z => x7 + z) (by decide)) (by decide) rfl ?_
      refine j_goto (tgt := 115) E dX6_slopes_273 (by decide) ?_
      refine j_perm (lv' := [(0, .ref (ad x0)), (1, .int x1), (2, .int x2), (3, .int x3), (4, .int x4), (5, .int x5), (6, .int x6), (7, .int (x7 + 1))]) [1, 2, 3, 4, 5, 6, 7, 0] rfl ?_
      exact ih k h76 (x7 + 1) hk hf
set_option maxRecDepth 100000 in
set_option maxHeartbeats 4000000 in
theorem c_X6_slopes (l : Launch) (D : va_G) (ad : Nat → Nat) (cy : Nat → ClassId) (h : HP) (x0 : Nat) (x1 : Int32) (x2 : Int32) (x3 : Int32) (x4 : Int32) (x5 : Int32) {h' : HP} {r : Int32} (hf : f_X6_slopes h x0 x1 x2 x3 x4 x5 = some (h', r)) : Met l yX6_slopes (wsM yX6_slopes cX6_slopes 12 (some .int)) rmX6_slopes (va_Pc [.ref (ad x0), .int x1, .int x2, .int x3, .int x4, .int x5] (PW D ad cy h)) (QV D ad cy (some (.int r)) h') 0 0 (Aw ad) := by
  refine met_of (own := RX6) (lv := [(0, .ref (ad x0)), (1, .int x1), (2, .int x2), (3, .int x3), (4, .int x4), (5, .int x5)]) (by decide) rfl (Nat.le_of_ble_eq_true rfl) rfl (fun p e s m args below meth c E hr hlk => ?_)
  unfold f_X6_slopes at hf
  refine j_iload E 4 rfl dX6_slopes_0 ?_
  obtain ⟨v1, e2, hf⟩ := bs hf
  refine j_callS (As := [.int x4]) (rest := []) (v := (some (.int v1))) E (c_X6_isNumber l D ad cy h x4 e2) (mcs E.1.2.2.2.2 uw_3_154 uw_3_152 uw_3_153 uw_1_6 rfl rfl hd_X6_isNumber ⟨by decide, by decide⟩) rfl rfl (Nat.le_of_ble_eq_true rfl) dX6_slopes_2 ⟨Nat.zero_le _, Nat.zero_le _⟩ ?_
  refine j_stk (st' := [.int v1]) rfl ?_
  refine j_if_eq (tgt := 32) E dX6_slopes_5 (by decide) (fun z3 => ?_) (fun z3 => ?_)
  · have hf := ifp hf z3
    refine j_iconst (v := (-1)) E dX6_slopes_32 (by decide) ?_
    cases hf
    exact j_iret E hr hlk dX6_slopes_33
  · have hf := ifn hf z3
    refine j_aload_n E 0 rfl dX6_slopes_8 rfl ?_
    refine j_iload_n E 1 rfl dX6_slopes_9 rfl ?_
    obtain ⟨k4, hf⟩ := ck_spec hf
    obtain ⟨v5, e6, hf⟩ := bs hf
    refine j_callV (ci := 5) (b := x0) (As := [.int x1]) (rest := []) (v := (some (.int v5))) E (c_X6_isTable l D ad cy h x0 x1 e6) (mcw E.1.2.2.2.2 uw_3_186 uw_3_183 uw_3_185 us_2_2 uw_1_6 rfl rfl hd_X6_isTable ⟨by decide, by decide⟩) rfl k4 rfl rfl (Nat.le_of_ble_eq_true rfl) dX6_slopes_10 ⟨Nat.zero_le _, Nat.zero_le _⟩ ?_
    refine j_stk (st' := [.int v5]) rfl ?_
    refine j_if_eq (tgt := 32) E dX6_slopes_13 (by decide) (fun z7 => ?_) (fun z7 => ?_)
    · have hf := ifp hf z7
      refine j_iconst (v := (-1)) E dX6_slopes_32 (by decide) ?_
      cases hf
      exact j_iret E hr hlk dX6_slopes_33
    · have hf := ifn hf z7
      refine j_aload_n E 0 rfl dX6_slopes_16 rfl ?_
      refine j_iload_n E 2 rfl dX6_slopes_17 rfl ?_
      obtain ⟨k8, hf⟩ := ck_spec hf
      obtain ⟨v9, e10, hf⟩ := bs hf
      refine j_callV (ci := 5) (b := x0) (As := [.int x2]) (rest := []) (v := (some (.int v9))) E (c_X6_isTable l D ad cy h x0 x2 e10) (mcw E.1.2.2.2.2 uw_3_186 uw_3_183 uw_3_185 us_2_2 uw_1_6 rfl rfl hd_X6_isTable ⟨by decide, by decide⟩) rfl k8 rfl rfl (Nat.le_of_ble_eq_true rfl) dX6_slopes_18 ⟨Nat.zero_le _, Nat.zero_le _⟩ ?_
      refine j_stk (st' := [.int v9]) rfl ?_
      refine j_if_eq (tgt := 32) E dX6_slopes_21 (by decide) (fun z11 => ?_) (fun z11 => ?_)
      · have hf := ifp hf z11
        refine j_iconst (v := (-1)) E dX6_slopes_32 (by decide) ?_
        cases hf
        exact j_iret E hr hlk dX6_slopes_33
      · have hf := ifn hf z11
        refine j_aload_n E 0 rfl dX6_slopes_24 rfl ?_
        refine j_iload_n E 3 rfl dX6_slopes_25 rfl ?_
        obtain ⟨k12, hf⟩ := ck_spec hf
        obtain ⟨v13, e14, hf⟩ := bs hf
        refine j_callV (ci := 5) (b := x0) (As := [.int x3]) (rest := []) (v := (some (.int v13))) E (c_X6_isTable l D ad cy h x0 x3 e14) (mcw E.1.2.2.2.2 uw_3_186 uw_3_183 uw_3_185 us_2_2 uw_1_6 rfl rfl hd_X6_isTable ⟨by decide, by decide⟩) rfl k12 rfl rfl (Nat.le_of_ble_eq_true rfl) dX6_slopes_26 ⟨Nat.zero_le _, Nat.zero_le _⟩ ?_
        refine j_stk (st' := [.int v13]) rfl ?_
        refine j_if_ne (tgt := 34) E dX6_slopes_29 (by decide) (fun z15 => ?_) (fun z15 => ?_)
        · have hf := ifn hf z15
          refine j_aload_n E 0 rfl dX6_slopes_34 rfl ?_
          obtain ⟨v16, ev16, hf⟩ := bs hf
          refine j_getR (ci := 5) (k0 := 2) (T := TX6) (N := 14) E (mI inUX6) rfl (by decide) (mU uw_3_106) ev16 dX6_slopes_35 ?_
          refine j_iload_n E 1 rfl dX6_slopes_38 rfl ?_
          obtain ⟨v17, ev17, hf⟩ := bs hf
          refine j_aI E ev17 dX6_slopes_39 ?_
          refine j_aload_n E 0 rfl dX6_slopes_40 rfl ?_
          obtain ⟨v18, ev18, hf⟩ := bs hf
          refine j_getR (ci := 5) (k0 := 1) (T := TX6) (N := 14) E (mI inUX6) rfl (by decide) (mU uw_3_105) ev18 dX6_slopes_41 ?_
          refine j_iload_n E 2 rfl dX6_slopes_44 rfl ?_
          obtain ⟨v19, ev19, hf⟩ := bs hf
          refine j_aI E ev19 dX6_slopes_45 ?_
          refine j_icmp_ne (tgt := 79) E dX6_slopes_46 (by decide) (fun z20 => ?_) (fun z20 => ?_)
          · have hf := ifn hf z20
            refine j_bipush (v := (-3)) E dX6_slopes_79 (by decide) ?_
            cases hf
            exact j_iret E hr hlk dX6_slopes_81
          · have hf := ifp hf z20
            refine j_aload_n E 0 rfl dX6_slopes_49 rfl ?_
            obtain ⟨v21, ev21, hf⟩ := bs hf
            refine j_getR (ci := 5) (k0 := 1) (T := TX6) (N := 14) E (mI inUX6) rfl (by decide) (mU uw_3_105) ev21 dX6_slopes_50 ?_
            refine j_iload_n E 3 rfl dX6_slopes_53 rfl ?_
            obtain ⟨v22, ev22, hf⟩ := bs hf
            refine j_aI E ev22 dX6_slopes_54 ?_
            refine j_aload_n E 0 rfl dX6_slopes_55 rfl ?_
            obtain ⟨v23, ev23, hf⟩ := bs hf
            refine j_getR (ci := 5) (k0 := 1) (T := TX6) (N := 14) E (mI inUX6) rfl (by decide) (mU uw_3_105) ev23 dX6_slopes_56 ?_
            refine j_iload_n E 1 rfl dX6_slopes_59 rfl ?_
            obtain ⟨v24, ev24, hf⟩ := bs hf
            refine j_aI E ev24 dX6_slopes_60 ?_
            refine j_icmp_ne (tgt := 79) E dX6_slopes_61 (by decide) (fun z25 => ?_) (fun z25 => ?_)
            · have hf := ifn hf z25
              refine j_bipush (v := (-3)) E dX6_slopes_79 (by decide) ?_
              cases hf
              exact j_iret E hr hlk dX6_slopes_81
            · have hf := ifp hf z25
              refine j_aload_n E 0 rfl dX6_slopes_64 rfl ?_
              obtain ⟨v26, ev26, hf⟩ := bs hf
              refine j_getR (ci := 5) (k0 := 2) (T := TX6) (N := 14) E (mI inUX6) rfl (by decide) (mU uw_3_106) ev26 dX6_slopes_65 ?_
              refine j_iload_n E 3 rfl dX6_slopes_68 rfl ?_
              obtain ⟨v27, ev27, hf⟩ := bs hf
              refine j_aI E ev27 dX6_slopes_69 ?_
              refine j_aload_n E 0 rfl dX6_slopes_70 rfl ?_
              obtain ⟨v28, ev28, hf⟩ := bs hf
              refine j_getR (ci := 5) (k0 := 2) (T := TX6) (N := 14) E (mI inUX6) rfl (by decide) (mU uw_3_106) ev28 dX6_slopes_71 ?_
              refine j_iload_n E 2 rfl dX6_slopes_74 rfl ?_
              obtain ⟨v29, ev29, hf⟩ := bs hf
              refine j_aI E ev29 dX6_slopes_75 ?_
              refine j_icmp_eq (tgt := 82) E dX6_slopes_76 (by decide) (fun z30 => ?_) (fun z30 => ?_)
              · have hf := ifp hf z30
                refine j_iload E 5 rfl dX6_slopes_82 ?_
                refine j_if_eq (tgt := 91) E dX6_slopes_84 (by decide) (fun z31 => ?_) (fun z31 => ?_)
                · have hf := ifp hf z31
                  refine j_iload_n E 2 rfl dX6_slopes_91 rfl ?_
                  refine j_istore (lv' := [(6, .int x2), (0, .ref (ad x0)), (1, .int x1), (2, .int x2), (3, .int x3), (4, .int x4), (5, .int x5)]) E dX6_slopes_92 (by decide) rfl ?_
                  refine j_aload_n E 1 rfl dX6_slopes_94 rfl ?_
                  refine j_aload_n E 1 rfl dX6_slopes_95 rfl ?_
                  obtain ⟨v32, ev32, hf⟩ := bs hf
                  refine j_getR (ci := 5) (k0 := 1) (T := TX6) (N := 14) E (mI inUX6) rfl (by decide) (mU uw_3_105) ev32 dX6_slopes_96 ?_
                  refine j_iload E 0 rfl dX6_slopes_99 ?_
                  obtain ⟨v33, ev33, hf⟩ := bs hf
                  refine j_aI E ev33 dX6_slopes_101 ?_
                  refine j_aload_n E 1 rfl dX6_slopes_102 rfl ?_
                  obtain ⟨v34, ev34, hf⟩ := bs hf
                  refine j_getR (ci := 5) (k0 := 2) (T := TX6) (N := 14) E (mI inUX6) rfl (by decide) (mU uw_3_106) ev34 dX6_slopes_103 ?_
                  refine j_iload E 0 rfl dX6_slopes_106 ?_
                  obtain ⟨v35, ev35, hf⟩ := bs hf
                  refine j_aI E ev35 dX6_slopes_108 ?_
                  obtain ⟨k36, hf⟩ := ck_spec hf
                  obtain ⟨h37, e38, hf⟩ := bs hf
                  refine j_callV (ci := 5) (b := x0) (As := [.int v33, .int v35]) (rest := []) (v := none) E (c_X6_begin l D ad cy h x0 v33 v35 e38) (mcw E.1.2.2.2.2 uw_3_158 uw_3_155 uw_3_157 us_1_15 uw_1_6 rfl rfl hd_X6_begin ⟨by decide, by decide⟩) rfl k36 rfl rfl (Nat.le_of_ble_eq_true rfl) dX6_slopes_109 ⟨Nat.zero_le _, Nat.zero_le _⟩ ?_
                  refine j_stk (st' := []) rfl ?_
                  refine j_iconst (v := 0) E dX6_slopes_112 (by decide) ?_
                  refine j_istore (lv' := [(7, .int 0), (6, .int x2), (0, .ref (ad x0)), (1, .int x1), (2, .int x2), (3, .int x3), (4, .int x4), (5, .int x5)]) E dX6_slopes_113 (by decide) rfl ?_
                  refine j_perm (lv' := [(0, .ref (ad x0)), (1, .int x1), (2, .int x2), (3, .int x3), (4, .int x4), (5, .int x5), (6, .int x2), (7, .int 0)]) [2, 3, 4, 5, 6, 7, 1, 0] rfl ?_
                  refine w_X6_slopes_115 E hr hlk x0 x1 x2 x3 x5 x2 x4 FU _ h37 0 (fun h77 hf => ?_) hf
                  refine j_aload_n E 0 rfl dX6_slopes_276 rfl ?_
                  refine j_iload E 1 rfl dX6_slopes_277 ?_
                  obtain ⟨k78, hf⟩ := ck_spec hf
                  obtain ⟨⟨h79, v80⟩, e81, hf⟩ := bs hf
                  refine j_callV (ci := 5) (b := x0) (As := [.int x4]) (rest := []) (v := (some (.int v80))) E (c_X6_putAt l D ad cy h77 x0 x4 e81) (mcw E.1.2.2.2.2 uw_3_162 uw_3_159 uw_3_161 us_2_0 uw_1_6 rfl rfl hd_X6_putAt ⟨by decide, by decide⟩) rfl k78 rfl rfl (Nat.le_of_ble_eq_true rfl) dX6_slopes_279 ⟨Nat.zero_le _, Nat.zero_le _⟩ ?_
                  refine j_stk (st' := [.int v80]) rfl ?_
                  cases hf
                  exact j_iret E hr hlk dX6_slopes_282
                · have hf := ifn hf z31
                  refine j_iload_n E 1 rfl dX6_slopes_87 rfl ?_
                  refine j_goto (tgt := 92) E dX6_slopes_88 (by decide) ?_
                  refine j_istore (lv' := [(6, .int x1), (0, .ref (ad x0)), (1, .int x1), (2, .int x2), (3, .int x3), (4, .int x4), (5, .int x5)]) E dX6_slopes_92 (by decide) rfl ?_
                  refine j_aload_n E 1 rfl dX6_slopes_94 rfl ?_
                  refine j_aload_n E 1 rfl dX6_slopes_95 rfl ?_
                  obtain ⟨v82, ev82, hf⟩ := bs hf
                  refine j_getR (ci := 5) (k0 := 1) (T := TX6) (N := 14) E (mI inUX6) rfl (by decide) (mU uw_3_105) ev82 dX6_slopes_96 ?_
                  refine j_iload E 0 rfl dX6_slopes_99 ?_
                  obtain ⟨v83, ev83, hf⟩ := bs hf
                  refine j_aI E ev83 dX6_slopes_101 ?_
                  refine j_aload_n E 1 rfl dX6_slopes_102 rfl ?_
                  obtain ⟨v84, ev84, hf⟩ := bs hf
                  refine j_getR (ci := 5) (k0 := 2) (T := TX6) (N := 14) E (mI inUX6) rfl (by decide) (mU uw_3_106) ev84 dX6_slopes_103 ?_
                  refine j_iload E 0 rfl dX6_slopes_106 ?_
                  obtain ⟨v85, ev85, hf⟩ := bs hf
                  refine j_aI E ev85 dX6_slopes_108 ?_
                  obtain ⟨k86, hf⟩ := ck_spec hf
                  obtain ⟨h87, e88, hf⟩ := bs hf
                  refine j_callV (ci := 5) (b := x0) (As := [.int v83, .int v85]) (rest := []) (v := none) E (c_X6_begin l D ad cy h x0 v83 v85 e88) (mcw E.1.2.2.2.2 uw_3_158 uw_3_155 uw_3_157 us_1_15 uw_1_6 rfl rfl hd_X6_begin ⟨by decide, by decide⟩) rfl k86 rfl rfl (Nat.le_of_ble_eq_true rfl) dX6_slopes_109 ⟨Nat.zero_le _, Nat.zero_le _⟩ ?_
                  refine j_stk (st' := []) rfl ?_
                  refine j_iconst (v := 0) E dX6_slopes_112 (by decide) ?_
                  refine j_istore (lv' := [(7, .int 0), (6, .int x1), (0, .ref (ad x0)), (1, .int x1), (2, .int x2), (3, .int x3), (4, .int x4), (5, .int x5)]) E dX6_slopes_113 (by decide) rfl ?_
                  refine j_perm (lv' := [(0, .ref (ad x0)), (1, .int x1), (2, .int x2), (3, .int x3), (4, .int x4), (5, .int x5), (6, .int x1), (7, .int 0)]) [2, 3, 4, 5, 6, 7, 1, 0] rfl ?_
                  refine w_X6_slopes_115 E hr hlk x0 x1 x2 x3 x5 x1 x4 FU _ h87 0 (fun h89 hf => ?_) hf
                  refine j_aload_n E 0 rfl dX6_slopes_276 rfl ?_
                  refine j_iload E 1 rfl dX6_slopes_277 ?_
                  obtain ⟨k90, hf⟩ := ck_spec hf
                  obtain ⟨⟨h91, v92⟩, e93, hf⟩ := bs hf
                  refine j_callV (ci := 5) (b := x0) (As := [.int x4]) (rest := []) (v := (some (.int v92))) E (c_X6_putAt l D ad cy h89 x0 x4 e93) (mcw E.1.2.2.2.2 uw_3_162 uw_3_159 uw_3_161 us_2_0 uw_1_6 rfl rfl hd_X6_putAt ⟨by decide, by decide⟩) rfl k90 rfl rfl (Nat.le_of_ble_eq_true rfl) dX6_slopes_279 ⟨Nat.zero_le _, Nat.zero_le _⟩ ?_
                  refine j_stk (st' := [.int v92]) rfl ?_
                  cases hf
                  exact j_iret E hr hlk dX6_slopes_282
              · have hf := ifn hf z30
                refine j_bipush (v := (-3)) E dX6_slopes_79 (by decide) ?_
                cases hf
                exact j_iret E hr hlk dX6_slopes_81
        · have hf := ifp hf z15
          refine j_iconst (v := (-1)) E dX6_slopes_32 (by decide) ?_
          cases hf
          exact j_iret E hr hlk dX6_slopes_33
noncomputable def L_X6_sum_6 (h : HP) (x0 : Nat) (x1 : Int32) (x2 : Int32) (x3 : Int32) : Nat → (Int64 → Option (Int64)) → Int64 → Int32 → Option (Int64)
  | 0, _, _, _ => none
  | n + 1, k, x4, x6 =>
      if 16 ≤ x6 then (
        k x4
      ) else (
        ck 5 h x0 <|
        (f_X6_isTable h x0 x1).bind fun v3 =>
        if v3 = 0 then (
          k x4
        ) else (
          if x2 = 0 then (
            ck 5 h x0 <|
            (f_X6_holds h x0 x1 x6 x3).bind fun v8 =>
            L_X6_sum_6 h x0 x1 x2 x3 n k (x4 + v8) (x6 + 1)
          ) else (
            ck 5 h x0 <|
            (f_X6_holds h x0 x1 x3 x6).bind fun v11 =>
            L_X6_sum_6 h x0 x1 x2 x3 n k (x4 + v11) (x6 + 1)
          )
        )
      )
noncomputable def f_X6_sum (h : HP) (x0 : Nat) (x1 : Int32) (x2 : Int32) (x3 : Int32) : Option (Int64) :=
  L_X6_sum_6 h x0 x1 x2 x3 FU (fun x13 =>
    some x13) 0 0
abbrev rmX6_sum : Room := { frames := 3, cells := 0, slots := 0, locals := 68 }
theorem hd_X6_sum : yX6_sum.cls = RX6 ∧ yX6_sum.cls ≠ "java/lang/invoke/MethodHandle" ∧ yX6_sum.cls ≠ "java/lang/invoke/VarHandle" ∧ (parseMethodDescriptor yX6_sum.desc).map (fun d => d.parameters.length) = some 3 := by decide +kernel
set_option maxRecDepth 100000 in
set_option maxHeartbeats 4000000 in
theorem w_X6_sum_6 {p : Program} {l : Launch} {e : Env} {s : State} {m : MethodId} {args : Array Value} {below : List Frame} {meth : Method} {c : Code} {D : va_G} {ad : Nat → Nat} {cy : Nat → ClassId} (E : EE p s m args c cX6_sum 7 (wsM yX6_sum cX6_sum 7 (some .long)) RX6 D cy) (hr : meth.sig.returnType = (some .long)) (hlk : meth.locks = false) {r : Int64} (h : HP) (x0 : Nat) (x1 : Int32) (x2 : Int32) (x3 : Int32) : ∀ (n : Nat) (k : (Int64 → Option (Int64))) (x4 : Int64) (x6 : Int32), (∀ (x4 : Int64), k x4 = some r → JJ p l e rmX6_sum s m args below meth c 0 0 (MQ below (QV D ad cy (some (.long r)) h) args s 0 0 (Aw ad)) D ad cy (Aw ad) 7 h [(4, .long x4)] 55 []) → L_X6_sum_6 h x0 x1 x2 x3 n k x4 x6 = some r → JJ p l e rmX6_sum s m args below meth c 0 0 (MQ below (QV D ad cy (some (.long r)) h) args s 0 0 (Aw ad)) D ad cy (Aw ad) 7 h [(0, .ref (ad x0)), (1, .int x1), (2, .int x2), (3, .int x3), (4, .long x4), (6, .int x6)] 6 [] := by
  intro n
  induction n with
  | zero => intro k x4 x6 hk hf; cases hf
  | succ n ih =>
    intro k x4 x6 hk hf
    unfold L_X6_sum_6 at hf
    refine j_iload E 5 rfl dX6_sum_6 ?_
    refine j_bipush (v := 16) E dX6_sum_8 (by decide) ?_
    refine j_icmp_ge (tgt := 55) E dX6_sum_10 (by decide) (fun z1 => ?_) (fun z1 => ?_)
    · have hf := ifp hf z1
      refine j_perm (lv' := [(4, .long x4)]) [4] rfl ?_
      exact hk x4 hf
    · have hf := ifn hf z1
      refine j_aload_n E 0 rfl dX6_sum_13 rfl ?_
      refine j_iload_n E 1 rfl dX6_sum_14 rfl ?_
      obtain ⟨k2, hf⟩ := ck_spec hf
      obtain ⟨v3, e4, hf⟩ := bs hf
      refine j_callV (ci := 5) (b := x0) (As := [.int x1]) (rest := []) (v := (some (.int v3))) E (c_X6_isTable l D ad cy h x0 x1 e4) (mcw E.1.2.2.2.2 uw_3_186 uw_3_183 uw_3_185 us_2_2 uw_1_6 rfl rfl hd_X6_isTable ⟨by decide, by decide⟩) rfl k2 rfl rfl (Nat.le_of_ble_eq_true rfl) dX6_sum_15 ⟨Nat.zero_le _, Nat.zero_le _⟩ ?_
      refine j_stk (st' := [.int v3]) rfl ?_
      refine j_if_eq (tgt := 55) E dX6_sum_18 (by decide) (fun z5 => ?_) (fun z5 => ?_)
      · have hf := ifp hf z5
        refine j_perm (lv' := [(4, .long x4)]) [4] rfl ?_
        exact hk x4 hf
      · have hf := ifn hf z5
        refine j_lload E 4 rfl dX6_sum_21 ?_
        refine j_iload_n E 2 rfl dX6_sum_23 rfl ?_
        refine j_if_eq (tgt := 38) E dX6_sum_24 (by decide) (fun z6 => ?_) (fun z6 => ?_)
        · have hf := ifp hf z6
          refine j_aload_n E 0 rfl dX6_sum_38 rfl ?_
          refine j_iload_n E 1 rfl dX6_sum_39 rfl ?_
          refine j_iload E 5 rfl dX6_sum_40 ?_
          refine j_iload_n E 3 rfl dX6_sum_42 rfl ?_
          obtain ⟨k7, hf⟩ := ck_spec hf
          obtain ⟨v8, e9, hf⟩ := bs hf
          refine j_callV (ci := 5) (b := x0) (As := [.int x1, .int x6, .int x3]) (rest := [.long x4]) (v := (some (.long v8))) E (c_X6_holds l D ad cy h x0 x1 x6 x3 e9) (mcw E.1.2.2.2.2 uw_3_206 uw_3_203 uw_3_205 us_2_5 uw_1_6 rfl rfl hd_X6_holds ⟨by decide, by decide⟩) rfl k7 rfl rfl (Nat.le_of_ble_eq_true rfl) dX6_sum_43 ⟨Nat.zero_le _, Nat.zero_le _⟩ ?_
          refine j_stk (st' := [.long v8, .long x4]) rfl ?_
          refine j_ladd E dX6_sum_46 ?_
          refine j_lstore (lv' := [(4, .long (x4 + v8)), (0, .ref (ad x0)), (1, .int x1), (2, .int x2), (3, .int x3), (6, .int x6)]) E dX6_sum_47 (by decide) rfl ?_
          refine j_iinc (v := (x6 + 1)) (k0 := 5) (lv' := [(6, .int (x6 + 1)), (4, .long (x4 + v8)), (0, .ref (ad x0)), (1, .int x1), (2, .int x2), (3, .int x3)]) E dX6_sum_49 rfl (congrArg (fun z => x6 + z) (by decide)) (by decide) rfl ?_
          refine j_goto (tgt := 6) E dX6_sum_52 (by decide) ?_
          refine j_perm (lv' := [(0, .ref (ad x0)), (1, .int x1), (2, .int x2), (3, .int x3), (4, .long (x4 + v8)), (6, .int (x6 + 1))]) [2, 3, 4, 5, 1, 0] rfl ?_
          exact ih k (x4 + v8) (x6 + 1) hk hf
        · have hf := ifn hf z6
          refine j_aload_n E 0 rfl dX6_sum_27 rfl ?_
          refine j_iload_n E 1 rfl dX6_sum_28 rfl ?_
          refine j_iload_n E 3 rfl dX6_sum_29 rfl ?_
          refine j_iload E 5 rfl dX6_sum_30 ?_
          obtain ⟨k10, hf⟩ := ck_spec hf
          obtain ⟨v11, e12, hf⟩ := bs hf
          refine j_callV (ci := 5) (b := x0) (As := [.int x1, .int x3, .int x6]) (rest := [.long x4]) (v := (some (.long v11))) E (c_X6_holds l D ad cy h x0 x1 x3 x6 e12) (mcw E.1.2.2.2.2 uw_3_206 uw_3_203 uw_3_205 us_2_5 uw_1_6 rfl rfl hd_X6_holds ⟨by decide, by decide⟩) rfl k10 rfl rfl (Nat.le_of_ble_eq_true rfl) dX6_sum_32 ⟨Nat.zero_le _, Nat.zero_le _⟩ ?_
          refine j_stk (st' := [.long v11, .long x4]) rfl ?_
          refine j_goto (tgt := 46) E dX6_sum_35 (by decide) ?_
          refine j_ladd E dX6_sum_46 ?_
          refine j_lstore (lv' := [(4, .long (x4 + v11)), (0, .ref (ad x0)), (1, .int x1), (2, .int x2), (3, .int x3), (6, .int x6)]) E dX6_sum_47 (by decide) rfl ?_
          refine j_iinc (v := (x6 + 1)) (k0 := 5) (lv' := [(6, .int (x6 + 1)), (4, .long (x4 + v11)), (0, .ref (ad x0)), (1, .int x1), (2, .int x2), (3, .int x3)]) E dX6_sum_49 rfl (congrArg (fun z => x6 + z) (by decide)) (by decide) rfl ?_
          refine j_goto (tgt := 6) E dX6_sum_52 (by decide) ?_
          refine j_perm (lv' := [(0, .ref (ad x0)), (1, .int x1), (2, .int x2), (3, .int x3), (4, .long (x4 + v11)), (6, .int (x6 + 1))]) [2, 3, 4, 5, 1, 0] rfl ?_
          exact ih k (x4 + v11) (x6 + 1) hk hf
set_option maxRecDepth 100000 in
set_option maxHeartbeats 4000000 in
theorem c_X6_sum (l : Launch) (D : va_G) (ad : Nat → Nat) (cy : Nat → ClassId) (h : HP) (x0 : Nat) (x1 : Int32) (x2 : Int32) (x3 : Int32) {r : Int64} (hf : f_X6_sum h x0 x1 x2 x3 = some r) : Met l yX6_sum (wsM yX6_sum cX6_sum 7 (some .long)) rmX6_sum (va_Pc [.ref (ad x0), .int x1, .int x2, .int x3] (PW D ad cy h)) (QV D ad cy (some (.long r)) h) 0 0 (Aw ad) := by
  refine met_of (own := RX6) (lv := [(0, .ref (ad x0)), (1, .int x1), (2, .int x2), (3, .int x3)]) (by decide) rfl (Nat.le_of_ble_eq_true rfl) rfl (fun p e s m args below meth c E hr hlk => ?_)
  unfold f_X6_sum at hf
  refine j_lconst (v := 0) E dX6_sum_0 (by decide) ?_
  refine j_lstore (lv' := [(4, .long 0), (0, .ref (ad x0)), (1, .int x1), (2, .int x2), (3, .int x3)]) E dX6_sum_1 (by decide) rfl ?_
  refine j_iconst (v := 0) E dX6_sum_3 (by decide) ?_
  refine j_istore (lv' := [(6, .int 0), (4, .long 0), (0, .ref (ad x0)), (1, .int x1), (2, .int x2), (3, .int x3)]) E dX6_sum_4 (by decide) rfl ?_
  refine j_perm (lv' := [(0, .ref (ad x0)), (1, .int x1), (2, .int x2), (3, .int x3), (4, .long 0), (6, .int 0)]) [2, 3, 4, 5, 1, 0] rfl ?_
  refine w_X6_sum_6 E hr hlk h x0 x1 x2 x3 FU _ 0 0 (fun x13 hf => ?_) hf
  refine j_lload E 0 rfl dX6_sum_55 ?_
  cases hf
  exact j_lret E hr hlk dX6_sum_57
noncomputable def f_X6_lay (h : HP) (x0 : Nat) (x1 : Int64) : Option (HP) :=
  (gR 5 h x0 10).bind fun v1 =>
  (gI 5 h x0 11).bind fun v2 =>
  (sJ h v1 v2 x1).bind fun h3 =>
  (gI 5 h3 x0 11).bind fun v4 =>
  (pI 5 h3 x0 11 (v4 + 1)).bind fun h5 =>
  some h5
abbrev rmX6_lay : Room := { frames := 0, cells := 0, slots := 0, locals := 0 }
theorem hd_X6_lay : yX6_lay.cls = RX6 ∧ yX6_lay.cls ≠ "java/lang/invoke/MethodHandle" ∧ yX6_lay.cls ≠ "java/lang/invoke/VarHandle" ∧ (parseMethodDescriptor yX6_lay.desc).map (fun d => d.parameters.length) = some 1 := by decide +kernel
set_option maxRecDepth 100000 in
set_option maxHeartbeats 4000000 in
theorem c_X6_lay (l : Launch) (D : va_G) (ad : Nat → Nat) (cy : Nat → ClassId) (h : HP) (x0 : Nat) (x1 : Int64) {h' : HP} (hf : f_X6_lay h x0 x1 = some h') : Met l yX6_lay (wsM yX6_lay cX6_lay 3 none) rmX6_lay (va_Pc [.ref (ad x0), .long x1] (PW D ad cy h)) (QV D ad cy none h') 0 0 (Aw ad) := by
  refine met_of (own := RX6) (lv := [(0, .ref (ad x0)), (1, .long x1)]) (by decide) rfl (Nat.le_of_ble_eq_true rfl) rfl (fun p e s m args below meth c E hr hlk => ?_)
  unfold f_X6_lay at hf
  refine j_aload_n E 0 rfl dX6_lay_0 rfl ?_
  obtain ⟨v1, ev1, hf⟩ := bs hf
  refine j_getR (ci := 5) (k0 := 10) (T := TX6) (N := 14) E (mI inUX6) rfl (by decide) (mU uw_3_114) ev1 dX6_lay_1 ?_
  refine j_aload_n E 0 rfl dX6_lay_4 rfl ?_
  obtain ⟨v2, ev2, hf⟩ := bs hf
  refine j_getI (ci := 5) (k0 := 11) (T := TX6) (N := 14) E (mI inUX6) rfl (by decide) (mU uw_3_115) ev2 dX6_lay_5 ?_
  refine j_lload_n E 1 rfl dX6_lay_8 rfl ?_
  obtain ⟨h3, eh3, hf⟩ := bs hf
  refine j_sJ E eh3 dX6_lay_9 ?_
  refine j_aload_n E 0 rfl dX6_lay_10 rfl ?_
  refine j_dup E dX6_lay_11 rfl ?_
  obtain ⟨v4, ev4, hf⟩ := bs hf
  refine j_getI (ci := 5) (k0 := 11) (T := TX6) (N := 14) E (mI inUX6) rfl (by decide) (mU uw_3_115) ev4 dX6_lay_12 ?_
  refine j_iconst (v := 1) E dX6_lay_15 (by decide) ?_
  refine j_iadd E dX6_lay_16 ?_
  obtain ⟨h5, eh5, hf⟩ := bs hf
  refine j_putI (ci := 5) (k0 := 11) (T := TX6) (N := 14) E (mI inUX6) rfl (by decide) (mU uw_3_115) tyX6 tyX6_ok nmX6 rfl (by decide +kernel) eh5 dX6_lay_17 ?_
  cases hf
  exact j_vret E hr hlk dX6_lay_20
noncomputable def L_X6_byRows_23 (h : HP) (x0 : Nat) (x1 : Int32) (x3 : Int32) : Nat → (Int32 → Option (HP)) → Int32 → Int32 → Option (HP)
  | 0, _, _, _ => none
  | n + 1, k, x2, x4 =>
      (gR 5 h x0 2).bind fun v7 =>
      (aI h v7 x1).bind fun v8 =>
      if v8 ≤ x4 then (
        k x2
      ) else (
        ck 5 h x0 <|
        (f_X6_has h x0 x1 x3 x4).bind fun v11 =>
        if v11 = 0 then (
          L_X6_byRows_23 h x0 x1 x3 n k (x2 + 0) (x4 + 1)
        ) else (
          L_X6_byRows_23 h x0 x1 x3 n k (x2 + 1) (x4 + 1)
        )
      )
noncomputable def L_X6_byRows_4 (x0 : Nat) (x1 : Int32) : Nat → (HP → Int32 → Option (HP)) → HP → Int32 → Int32 → Option (HP)
  | 0, _, _, _, _ => none
  | n + 1, k, h, x2, x3 =>
      (gR 5 h x0 1).bind fun v1 =>
      (aI h v1 x1).bind fun v2 =>
      if v2 ≤ x3 then (
        k h x2
      ) else (
        ck 5 h x0 <|
        (f_X6_lay h x0 (Int32.toInt64 x2)).bind fun h5 =>
        L_X6_byRows_23 h5 x0 x1 x3 FU (fun x14 =>
          L_X6_byRows_4 x0 x1 n k h5 x14 (x3 + 1)) x2 0
      )
noncomputable def L_X6_byRows_81 (x0 : Nat) (x1 : Int32) (x3 : Int32) : Nat → (HP → Option (HP)) → HP → Int32 → Option (HP)
  | 0, _, _, _ => none
  | n + 1, k, h, x4 =>
      if 256 ≤ x4 then (
        k h
      ) else (
        (gR 5 h x0 3).bind fun v22 =>
        (aZ h v22 ((256 * x1) + x4)).bind fun v23 =>
        if v23 = 0 then (
          L_X6_byRows_81 x0 x1 x3 n k h (x4 + 1)
        ) else (
          if x3 = 0 then (
            ck 5 h x0 <|
            (f_X6_lay h x0 (Int32.toInt64 (x4 - x4 / 16 * 16))).bind fun h27 =>
            L_X6_byRows_81 x0 x1 x3 n k h27 (x4 + 1)
          ) else (
            (gR 5 h x0 4).bind fun v29 =>
            (aJ h v29 ((256 * x1) + x4)).bind fun v30 =>
            ck 5 h x0 <|
            (f_X6_lay h x0 v30).bind fun h32 =>
            L_X6_byRows_81 x0 x1 x3 n k h32 (x4 + 1)
          )
        )
      )
noncomputable def L_X6_byRows_73 (x0 : Nat) (x1 : Int32) : Nat → (HP → Option (HP)) → HP → Int32 → Option (HP)
  | 0, _, _, _ => none
  | n + 1, k, h, x3 =>
      if 2 ≤ x3 then (
        k h
      ) else (
        L_X6_byRows_81 x0 x1 x3 FU (fun h34 =>
          L_X6_byRows_73 x0 x1 n k h34 (x3 + 1)) h 0
      )
noncomputable def f_X6_byRows (h : HP) (x0 : Nat) (x1 : Int32) : Option (HP) :=
  L_X6_byRows_4 x0 x1 FU (fun h15 x16 =>
    ck 5 h15 x0 <|
    (f_X6_lay h15 x0 (Int32.toInt64 x16)).bind fun h18 =>
    L_X6_byRows_73 x0 x1 FU (fun h35 =>
      some h35) h18 0) h 0 0
abbrev rmX6_byRows : Room := { frames := 2, cells := 0, slots := 0, locals := 45 }
theorem hd_X6_byRows : yX6_byRows.cls = RX6 ∧ yX6_byRows.cls ≠ "java/lang/invoke/MethodHandle" ∧ yX6_byRows.cls ≠ "java/lang/invoke/VarHandle" ∧ (parseMethodDescriptor yX6_byRows.desc).map (fun d => d.parameters.length) = some 1 := by decide +kernel
set_option maxRecDepth 100000 in
set_option maxHeartbeats 4000000 in
theorem w_X6_byRows_23 {p : Program} {l : Launch} {e : Env} {s : State} {m : MethodId} {args : Array Value} {below : List Frame} {meth : Method} {c : Code} {D : va_G} {ad : Nat → Nat} {cy : Nat → ClassId} (E : EE p s m args c cX6_byRows 5 (wsM yX6_byRows cX6_byRows 5 none) RX6 D cy) (hr : meth.sig.returnType = none) (hlk : meth.locks = false) {h' : HP} (h : HP) (x0 : Nat) (x1 : Int32) (x3 : Int32) : ∀ (n : Nat) (k : (Int32 → Option (HP))) (x2 : Int32) (x4 : Int32), (∀ (x2 : Int32), k x2 = some h' → JJ p l e rmX6_byRows s m args below meth c 0 0 (MQ below (QV D ad cy none h') args s 0 0 (Aw ad)) D ad cy (Aw ad) 5 h [(0, .ref (ad x0)), (1, .int x1), (2, .int x2), (3, .int x3)] 59 []) → L_X6_byRows_23 h x0 x1 x3 n k x2 x4 = some h' → JJ p l e rmX6_byRows s m args below meth c 0 0 (MQ below (QV D ad cy none h') args s 0 0 (Aw ad)) D ad cy (Aw ad) 5 h [(0, .ref (ad x0)), (1, .int x1), (2, .int x2), (3, .int x3), (4, .int x4)] 23 [] := by
  intro n
  induction n with
  | zero => intro k x2 x4 hk hf; cases hf
  | succ n ih =>
    intro k x2 x4 hk hf
    unfold L_X6_byRows_23 at hf
    refine j_iload E 4 rfl dX6_byRows_23 ?_
    refine j_aload_n E 0 rfl dX6_byRows_25 rfl ?_
    obtain ⟨v7, ev7, hf⟩ := bs hf
    refine j_getR (ci := 5) (k0 := 2) (T := TX6) (N := 14) E (mI inUX6) rfl (by decide) (mU uw_3_106) ev7 dX6_byRows_26 ?_
    refine j_iload_n E 1 rfl dX6_byRows_29 rfl ?_
    obtain ⟨v8, ev8, hf⟩ := bs hf
    refine j_aI E ev8 dX6_byRows_30 ?_
    refine j_icmp_ge (tgt := 59) E dX6_byRows_31 (by decide) (fun z9 => ?_) (fun z9 => ?_)
    · have hf := ifp hf z9
      refine j_perm (lv' := [(0, .ref (ad x0)), (1, .int x1), (2, .int x2), (3, .int x3)]) [0, 1, 2, 3] rfl ?_
      exact hk x2 hf
    · have hf := ifn hf z9
      refine j_iload_n E 2 rfl dX6_byRows_34 rfl ?_
      refine j_aload_n E 0 rfl dX6_byRows_35 rfl ?_
      refine j_iload_n E 1 rfl dX6_byRows_36 rfl ?_
      refine j_iload_n E 3 rfl dX6_byRows_37 rfl ?_
      refine j_iload E 4 rfl dX6_byRows_38 ?_
      obtain ⟨k10, hf⟩ := ck_spec hf
      obtain ⟨v11, e12, hf⟩ := bs hf
      refine j_callV (ci := 5) (b := x0) (As := [.int x1, .int x3, .int x4]) (rest := [.int x2]) (v := (some (.int v11))) E (c_X6_has l D ad cy h x0 x1 x3 x4 e12) (mcw E.1.2.2.2.2 uw_3_210 uw_3_207 uw_3_209 us_2_6 uw_1_6 rfl rfl hd_X6_has ⟨by decide, by decide⟩) rfl k10 rfl rfl (Nat.le_of_ble_eq_true rfl) dX6_byRows_40 ⟨Nat.zero_le _, Nat.zero_le _⟩ ?_
      refine j_stk (st' := [.int v11, .int x2]) rfl ?_
      refine j_if_eq (tgt := 50) E dX6_byRows_43 (by decide) (fun z13 => ?_) (fun z13 => ?_)
      · have hf := ifp hf z13
        refine j_iconst (v := 0) E dX6_byRows_50 (by decide) ?_
        refine j_iadd E dX6_byRows_51 ?_
        refine j_istore_n (lv' := [(2, .int (x2 + 0)), (0, .ref (ad x0)), (1, .int x1), (3, .int x3), (4, .int x4)]) E dX6_byRows_52 rfl (by decide) rfl ?_
        refine j_iinc (v := (x4 + 1)) (k0 := 4) (lv' := [(4, .int (x4 + 1)), (2, .int (x2 + 0)), (0, .ref (ad x0)), (1, .int x1), (3, .int x3)]) E dX6_byRows_53 rfl (congrArg (fun z => x4 + z) (by decide)) (by decide) rfl ?_
        refine j_goto (tgt := 23) E dX6_byRows_56 (by decide) ?_
        refine j_perm (lv' := [(0, .ref (ad x0)), (1, .int x1), (2, .int (x2 + 0)), (3, .int x3), (4, .int (x4 + 1))]) [2, 3, 1, 4, 0] rfl ?_
        exact ih k (x2 + 0) (x4 + 1) hk hf
      · have hf := ifn hf z13
        refine j_iconst (v := 1) E dX6_byRows_46 (by decide) ?_
        refine j_goto (tgt := 51) E dX6_byRows_47 (by decide) ?_
        refine j_iadd E dX6_byRows_51 ?_
        refine j_istore_n (lv' := [(2, .int (x2 + 1)), (0, .ref (ad x0)), (1, .int x1), (3, .int x3), (4, .int x4)]) E dX6_byRows_52 rfl (by decide) rfl ?_
        refine j_iinc (v := (x4 + 1)) (k0 := 4) (lv' := [(4, .int (x4 + 1)), (2, .int (x2 + 1)), (0, .ref (ad x0)), (1, .int x1), (3, .int x3)]) E dX6_byRows_53 rfl (congrArg (fun z => x4 + z) (by decide)) (by decide) rfl ?_
        refine j_goto (tgt := 23) E dX6_byRows_56 (by decide) ?_
        refine j_perm (lv' := [(0, .ref (ad x0)), (1, .int x1), (2, .int (x2 + 1)), (3, .int x3), (4, .int (x4 + 1))]) [2, 3, 1, 4, 0] rfl ?_
        exact ih k (x2 + 1) (x4 + 1) hk hf
set_option maxRecDepth 100000 in
set_option maxHeartbeats 4000000 in
theorem w_X6_byRows_4 {p : Program} {l : Launch} {e : Env} {s : State} {m : MethodId} {args : Array Value} {below : List Frame} {meth : Method} {c : Code} {D : va_G} {ad : Nat → Nat} {cy : Nat → ClassId} (E : EE p s m args c cX6_byRows 5 (wsM yX6_byRows cX6_byRows 5 none) RX6 D cy) (hr : meth.sig.returnType = none) (hlk : meth.locks = false) {h' : HP} (x0 : Nat) (x1 : Int32) : ∀ (n : Nat) (k : (HP → Int32 → Option (HP))) (h : HP) (x2 : Int32) (x3 : Int32), (∀ (h : HP) (x2 : Int32), k h x2 = some h' → JJ p l e rmX6_byRows s m args below meth c 0 0 (MQ below (QV D ad cy none h') args s 0 0 (Aw ad)) D ad cy (Aw ad) 5 h [(0, .ref (ad x0)), (1, .int x1), (2, .int x2)] 65 []) → L_X6_byRows_4 x0 x1 n k h x2 x3 = some h' → JJ p l e rmX6_byRows s m args below meth c 0 0 (MQ below (QV D ad cy none h') args s 0 0 (Aw ad)) D ad cy (Aw ad) 5 h [(0, .ref (ad x0)), (1, .int x1), (2, .int x2), (3, .int x3)] 4 [] := by
  intro n
  induction n with
  | zero => intro k h x2 x3 hk hf; cases hf
  | succ n ih =>
    intro k h x2 x3 hk hf
    unfold L_X6_byRows_4 at hf
    refine j_iload_n E 3 rfl dX6_byRows_4 rfl ?_
    refine j_aload_n E 0 rfl dX6_byRows_5 rfl ?_
    obtain ⟨v1, ev1, hf⟩ := bs hf
    refine j_getR (ci := 5) (k0 := 1) (T := TX6) (N := 14) E (mI inUX6) rfl (by decide) (mU uw_3_105) ev1 dX6_byRows_6 ?_
    refine j_iload_n E 1 rfl dX6_byRows_9 rfl ?_
    obtain ⟨v2, ev2, hf⟩ := bs hf
    refine j_aI E ev2 dX6_byRows_10 ?_
    refine j_icmp_ge (tgt := 65) E dX6_byRows_11 (by decide) (fun z3 => ?_) (fun z3 => ?_)
    · have hf := ifp hf z3
      refine j_perm (lv' := [(0, .ref (ad x0)), (1, .int x1), (2, .int x2)]) [0, 1, 2] rfl ?_
      exact hk h x2 hf
    · have hf := ifn hf z3
      refine j_aload_n E 0 rfl dX6_byRows_14 rfl ?_
      refine j_iload_n E 2 rfl dX6_byRows_15 rfl ?_
      refine j_i2l E dX6_byRows_16 ?_
      obtain ⟨k4, hf⟩ := ck_spec hf
      obtain ⟨h5, e6, hf⟩ := bs hf
      refine j_callV (ci := 5) (b := x0) (As := [.long (Int32.toInt64 x2)]) (rest := []) (v := none) E (c_X6_lay l D ad cy h x0 (Int32.toInt64 x2) e6) (mcw E.1.2.2.2.2 uw_4_44 uw_4_41 uw_4_43 us_2_10 uw_1_6 rfl rfl hd_X6_lay ⟨by decide, by decide⟩) rfl k4 rfl rfl (Nat.le_of_ble_eq_true rfl) dX6_byRows_17 ⟨Nat.zero_le _, Nat.zero_le _⟩ ?_
      refine j_stk (st' := []) rfl ?_
      refine j_iconst (v := 0) E dX6_byRows_20 (by decide) ?_
      refine j_istore (lv' := [(4, .int 0), (0, .ref (ad x0)), (1, .int x1), (2, .int x2), (3, .int x3)]) E dX6_byRows_21 (by decide) rfl ?_
      refine j_perm (lv' := [(0, .ref (ad x0)), (1, .int x1), (2, .int x2), (3, .int x3), (4, .int 0)]) [1, 2, 3, 4, 0] rfl ?_
      refine w_X6_byRows_23 E hr hlk h5 x0 x1 x3 FU _ x2 0 (fun x14 hf => ?_) hf
      refine j_iinc (v := (x3 + 1)) (k0 := 3) (lv' := [(3, .int (x3 + 1)), (0, .ref (ad x0)), (1, .int x1), (2, .int x14)]) E dX6_byRows_59 rfl (congrArg (fun z => x3 + z) (by decide)) (by decide) rfl ?_
      refine j_goto (tgt := 4) E dX6_byRows_62 (by decide) ?_
      refine j_perm (lv' := [(0, .ref (ad x0)), (1, .int x1), (2, .int x14), (3, .int (x3 + 1))]) [1, 2, 3, 0] rfl ?_
      exact ih k h5 x14 (x3 + 1) hk hf
set_option maxRecDepth 100000 in
set_option maxHeartbeats 4000000 in
theorem w_X6_byRows_81 {p : Program} {l : Launch} {e : Env} {s : State} {m : MethodId} {args : Array Value} {below : List Frame} {meth : Method} {c : Code} {D : va_G} {ad : Nat → Nat} {cy : Nat → ClassId} (E : EE p s m args c cX6_byRows 5 (wsM yX6_byRows cX6_byRows 5 none) RX6 D cy) (hr : meth.sig.returnType = none) (hlk : meth.locks = false) {h' : HP} (x0 : Nat) (x1 : Int32) (x3 : Int32) : ∀ (n : Nat) (k : (HP → Option (HP))) (h : HP) (x4 : Int32), (∀ (h : HP), k h = some h' → JJ p l e rmX6_byRows s m args below meth c 0 0 (MQ below (QV D ad cy none h') args s 0 0 (Aw ad)) D ad cy (Aw ad) 5 h [(0, .ref (ad x0)), (1, .int x1), (3, .int x3)] 141 []) → L_X6_byRows_81 x0 x1 x3 n k h x4 = some h' → JJ p l e rmX6_byRows s m args below meth c 0 0 (MQ below (QV D ad cy none h') args s 0 0 (Aw ad)) D ad cy (Aw ad) 5 h [(0, .ref (ad x0)), (1, .int x1), (3, .int x3), (4, .int x4)] 81 [] := by
  intro n
  induction n with
  | zero => intro k h x4 hk hf; cases hf
  | succ n ih =>
    intro k h x4 hk hf
    unfold L_X6_byRows_81 at hf
    refine j_iload E 3 rfl dX6_byRows_81 ?_
    refine j_sipush (v := 256) E dX6_byRows_83 (by decide) ?_
    refine j_icmp_ge (tgt := 141) E dX6_byRows_86 (by decide) (fun z21 => ?_) (fun z21 => ?_)
    · have hf := ifp hf z21
      refine j_perm (lv' := [(0, .ref (ad x0)), (1, .int x1), (3, .int x3)]) [0, 1, 2] rfl ?_
      exact hk h hf
    · have hf := ifn hf z21
      refine j_aload_n E 0 rfl dX6_byRows_89 rfl ?_
      obtain ⟨v22, ev22, hf⟩ := bs hf
      refine j_getR (ci := 5) (k0 := 3) (T := TX6) (N := 14) E (mI inUX6) rfl (by decide) (mU uw_3_107) ev22 dX6_byRows_90 ?_
      refine j_sipush (v := 256) E dX6_byRows_93 (by decide) ?_
      refine j_iload_n E 1 rfl dX6_byRows_96 rfl ?_
      refine j_imul E dX6_byRows_97 ?_
      refine j_iload E 3 rfl dX6_byRows_98 ?_
      refine j_iadd E dX6_byRows_100 ?_
      obtain ⟨v23, ev23, hf⟩ := bs hf
      refine j_aZ E ev23 dX6_byRows_101 ?_
      refine j_if_eq (tgt := 135) E dX6_byRows_102 (by decide) (fun z24 => ?_) (fun z24 => ?_)
      · have hf := ifp hf z24
        refine j_iinc (v := (x4 + 1)) (k0 := 3) (lv' := [(4, .int (x4 + 1)), (0, .ref (ad x0)), (1, .int x1), (3, .int x3)]) E dX6_byRows_135 rfl (congrArg (fun z => x4 + z) (by decide)) (by decide) rfl ?_
        refine j_goto (tgt := 81) E dX6_byRows_138 (by decide) ?_
        refine j_perm (lv' := [(0, .ref (ad x0)), (1, .int x1), (3, .int x3), (4, .int (x4 + 1))]) [1, 2, 3, 0] rfl ?_
        exact ih k h (x4 + 1) hk hf
      · have hf := ifn hf z24
        refine j_aload_n E 0 rfl dX6_byRows_105 rfl ?_
        refine j_iload_n E 2 rfl dX6_byRows_106 rfl ?_
        refine j_if_ne (tgt := 119) E dX6_byRows_107 (by decide) (fun z25 => ?_) (fun z25 => ?_)
        · have hf := ifn hf z25
          refine j_aload_n E 0 rfl dX6_byRows_119 rfl ?_
          obtain ⟨v29, ev29, hf⟩ := bs hf
          refine j_getR (ci := 5) (k0 := 4) (T := TX6) (N := 14) E (mI inUX6) rfl (by decide) (mU uw_3_108) ev29 dX6_byRows_120 ?_
          refine j_sipush (v := 256) E dX6_byRows_123 (by decide) ?_
          refine j_iload_n E 1 rfl dX6_byRows_126 rfl ?_
          refine j_imul E dX6_byRows_127 ?_
          refine j_iload E 3 rfl dX6_byRows_128 ?_
          refine j_iadd E dX6_byRows_130 ?_
          obtain ⟨v30, ev30, hf⟩ := bs hf
          refine j_aJ E ev30 dX6_byRows_131 ?_
          obtain ⟨k31, hf⟩ := ck_spec hf
          obtain ⟨h32, e33, hf⟩ := bs hf
          refine j_callV (ci := 5) (b := x0) (As := [.long v30]) (rest := []) (v := none) E (c_X6_lay l D ad cy h x0 v30 e33) (mcw E.1.2.2.2.2 uw_4_44 uw_4_41 uw_4_43 us_2_10 uw_1_6 rfl rfl hd_X6_lay ⟨by decide, by decide⟩) rfl k31 rfl rfl (Nat.le_of_ble_eq_true rfl) dX6_byRows_132 ⟨Nat.zero_le _, Nat.zero_le _⟩ ?_
          refine j_stk (st' := []) rfl ?_
          refine j_iinc (v := (x4 + 1)) (k0 := 3) (lv' := [(4, .int (x4 + 1)), (0, .ref (ad x0)), (1, .int x1), (3, .int x3)]) E dX6_byRows_135 rfl (congrArg (fun z => x4 + z) (by decide)) (by decide) rfl ?_
          refine j_goto (tgt := 81) E dX6_byRows_138 (by decide) ?_
          refine j_perm (lv' := [(0, .ref (ad x0)), (1, .int x1), (3, .int x3), (4, .int (x4 + 1))]) [1, 2, 3, 0] rfl ?_
          exact ih k h32 (x4 + 1) hk hf
        · have hf := ifp hf z25
          refine j_iload E 3 rfl dX6_byRows_110 ?_
          refine j_bipush (v := 16) E dX6_byRows_112 (by decide) ?_
          refine j_irem E (by decide) dX6_byRows_114 ?_
          refine j_i2l E dX6_byRows_115 ?_
          refine j_goto (tgt := 132) E dX6_byRows_116 (by decide) ?_
          obtain ⟨k26, hf⟩ := ck_spec hf
          obtain ⟨h27, e28, hf⟩ := bs hf
          refine j_callV (ci := 5) (b := x0) (As := [.long (Int32.toInt64 (x4 - x4 / 16 * 16))]) (rest := []) (v := none) E (c_X6_lay l D ad cy h x0 (Int32.toInt64 (x4 - x4 / 16 * 16)) e28) (mcw E.1.2.2.2.2 uw_4_44 uw_4_41 uw_4_43 us_2_10 uw_1_6 rfl rfl hd_X6_lay ⟨by decide, by decide⟩) rfl k26 rfl rfl (Nat.le_of_ble_eq_true rfl) dX6_byRows_132 ⟨Nat.zero_le _, Nat.zero_le _⟩ ?_
          refine j_stk (st' := []) rfl ?_
          refine j_iinc (v := (x4 + 1)) (k0 := 3) (lv' := [(4, .int (x4 + 1)), (0, .ref (ad x0)), (1, .int x1), (3, .int x3)]) E dX6_byRows_135 rfl (congrArg (fun z => x4 + z) (by decide)) (by decide) rfl ?_
          refine j_goto (tgt := 81) E dX6_byRows_138 (by decide) ?_
          refine j_perm (lv' := [(0, .ref (ad x0)), (1, .int x1), (3, .int x3), (4, .int (x4 + 1))]) [1, 2, 3, 0] rfl ?_
          exact ih k h27 (x4 + 1) hk hf
set_option maxRecDepth 100000 in
set_option maxHeartbeats 4000000 in
theorem w_X6_byRows_73 {p : Program} {l : Launch} {e : Env} {s : State} {m : MethodId} {args : Array Value} {below : List Frame} {meth : Method} {c : Code} {D : va_G} {ad : Nat → Nat} {cy : Nat → ClassId} (E : EE p s m args c cX6_byRows 5 (wsM yX6_byRows cX6_byRows 5 none) RX6 D cy) (hr : meth.sig.returnType = none) (hlk : meth.locks = false) {h' : HP} (x0 : Nat) (x1 : Int32) : ∀ (n : Nat) (k : (HP → Option (HP))) (h : HP) (x3 : Int32), (∀ (h : HP), k h = some h' → JJ p l e rmX6_byRows s m args below meth c 0 0 (MQ below (QV D ad cy none h') args s 0 0 (Aw ad)) D ad cy (Aw ad) 5 h [] 147 []) → L_X6_byRows_73 x0 x1 n k h x3 = some h' → JJ p l e rmX6_byRows s m args below meth c 0 0 (MQ below (QV D ad cy none h') args s 0 0 (Aw ad)) D ad cy (Aw ad) 5 h [(0, .ref (ad x0)), (1, .int x1), (3, .int x3)] 73 [] := by
  intro n
  induction n with
  | zero => intro k h x3 hk hf; cases hf
  | succ n ih =>
    intro k h x3 hk hf
    unfold L_X6_byRows_73 at hf
    refine j_iload_n E 2 rfl dX6_byRows_73 rfl ?_
    refine j_iconst (v := 2) E dX6_byRows_74 (by decide) ?_
    refine j_icmp_ge (tgt := 147) E dX6_byRows_75 (by decide) (fun z20 => ?_) (fun z20 => ?_)
    · have hf := ifp hf z20
      refine j_perm (lv' := []) [] rfl ?_
      exact hk h hf
    · have hf := ifn hf z20
      refine j_iconst (v := 0) E dX6_byRows_78 (by decide) ?_
      refine j_istore (lv' := [(4, .int 0), (0, .ref (ad x0)), (1, .int x1), (3, .int x3)]) E dX6_byRows_79 (by decide) rfl ?_
      refine j_perm (lv' := [(0, .ref (ad x0)), (1, .int x1), (3, .int x3), (4, .int 0)]) [1, 2, 3, 0] rfl ?_
      refine w_X6_byRows_81 E hr hlk x0 x1 x3 FU _ h 0 (fun h34 hf => ?_) hf
      refine j_iinc (v := (x3 + 1)) (k0 := 2) (lv' := [(3, .int (x3 + 1)), (0, .ref (ad x0)), (1, .int x1)]) E dX6_byRows_141 rfl (congrArg (fun z => x3 + z) (by decide)) (by decide) rfl ?_
      refine j_goto (tgt := 73) E dX6_byRows_144 (by decide) ?_
      refine j_perm (lv' := [(0, .ref (ad x0)), (1, .int x1), (3, .int (x3 + 1))]) [1, 2, 0] rfl ?_
      exact ih k h34 (x3 + 1) hk hf
set_option maxRecDepth 100000 in
set_option maxHeartbeats 4000000 in
theorem c_X6_byRows (l : Launch) (D : va_G) (ad : Nat → Nat) (cy : Nat → ClassId) (h : HP) (x0 : Nat) (x1 : Int32) {h' : HP} (hf : f_X6_byRows h x0 x1 = some h') : Met l yX6_byRows (wsM yX6_byRows cX6_byRows 5 none) rmX6_byRows (va_Pc [.ref (ad x0), .int x1] (PW D ad cy h)) (QV D ad cy none h') 0 0 (Aw ad) := by
  refine met_of (own := RX6) (lv := [(0, .ref (ad x0)), (1, .int x1)]) (by decide) rfl (Nat.le_of_ble_eq_true rfl) rfl (fun p e s m args below meth c E hr hlk => ?_)
  unfold f_X6_byRows at hf
  refine j_iconst (v := 0) E dX6_byRows_0 (by decide) ?_
  refine j_istore_n (lv' := [(2, .int 0), (0, .ref (ad x0)), (1, .int x1)]) E dX6_byRows_1 rfl (by decide) rfl ?_
  refine j_iconst (v := 0) E dX6_byRows_2 (by decide) ?_
  refine j_istore_n (lv' := [(3, .int 0), (2, .int 0), (0, .ref (ad x0)), (1, .int x1)]) E dX6_byRows_3 rfl (by decide) rfl ?_
  refine j_perm (lv' := [(0, .ref (ad x0)), (1, .int x1), (2, .int 0), (3, .int 0)]) [2, 3, 1, 0] rfl ?_
  refine w_X6_byRows_4 E hr hlk x0 x1 FU _ h 0 0 (fun h15 x16 hf => ?_) hf
  refine j_aload_n E 0 rfl dX6_byRows_65 rfl ?_
  refine j_iload_n E 2 rfl dX6_byRows_66 rfl ?_
  refine j_i2l E dX6_byRows_67 ?_
  obtain ⟨k17, hf⟩ := ck_spec hf
  obtain ⟨h18, e19, hf⟩ := bs hf
  refine j_callV (ci := 5) (b := x0) (As := [.long (Int32.toInt64 x16)]) (rest := []) (v := none) E (c_X6_lay l D ad cy h15 x0 (Int32.toInt64 x16) e19) (mcw E.1.2.2.2.2 uw_4_44 uw_4_41 uw_4_43 us_2_10 uw_1_6 rfl rfl hd_X6_lay ⟨by decide, by decide⟩) rfl k17 rfl rfl (Nat.le_of_ble_eq_true rfl) dX6_byRows_68 ⟨Nat.zero_le _, Nat.zero_le _⟩ ?_
  refine j_stk (st' := []) rfl ?_
  refine j_iconst (v := 0) E dX6_byRows_71 (by decide) ?_
  refine j_istore_n (lv' := [(3, .int 0), (0, .ref (ad x0)), (1, .int x1), (2, .int x16)]) E dX6_byRows_72 rfl (by decide) rfl ?_
  refine j_perm (lv' := [(0, .ref (ad x0)), (1, .int x1), (3, .int 0)]) [1, 2, 0] rfl ?_
  refine w_X6_byRows_73 E hr hlk x0 x1 FU _ h18 0 (fun h35 hf => ?_) hf
  cases hf
  exact j_vret E hr hlk dX6_byRows_147
