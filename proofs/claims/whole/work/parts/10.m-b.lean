noncomputable def f_X0_headCell (h : HP) (x0 : Nat) (x1 : Int32) : Option (Int32) :=
  (gI 1 h x0 0).bind fun v1 =>
  if v1 < x1 then (
    (gI 1 h x0 0).bind fun v3 =>
    ck 1 h x0 <|
    (f_X2_placeNumber h x0 ((x1 - v3) - 1)).bind fun v5 =>
    some (v5 - v5 / 16 * 16)
  ) else (
    ck 1 h x0 <|
    (f_X2_keptAhead h x0 x1).bind fun v8 =>
    some v8
  )
abbrev rmX0_headCell : Room := { frames := 3, cells := 0, slots := 0, locals := 68 }
theorem hd_X0_headCell : yX0_headCell.cls = RX0 ∧ yX0_headCell.cls ≠ "java/lang/invoke/MethodHandle" ∧ yX0_headCell.cls ≠ "java/lang/invoke/VarHandle" ∧ (parseMethodDescriptor yX0_headCell.desc).map (fun d => d.parameters.length) = some 2 := by decide +kernel
set_option maxRecDepth 100000 in
set_option maxHeartbeats 4000000 in
theorem c_X0_headCell (l : Launch) (D : va_G) (ad : Nat → Nat) (cy : Nat → ClassId) (h : HP) (x0 : Nat) (x1 : Int32) {r : Int32} (hf : f_X0_headCell h x0 x1 = some r) : Met l yX0_headCell (wsM yX0_headCell cX0_headCell 2 (some .int)) rmX0_headCell (va_Pc [.ref (ad x0), .int x1] (PW D ad cy h)) (QV D ad cy (some (.int r)) h) 0 0 (Aw ad) := by
  refine met_of (own := RX0) (lv := [(0, .ref (ad x0)), (1, .int x1)]) (by decide) rfl (Nat.le_of_ble_eq_true rfl) rfl (fun p e s m args below meth c E hr hlk => ?_)
  unfold f_X0_headCell at hf
  refine j_iload_n E 1 rfl dX0_headCell_0 rfl ?_
  refine j_aload_n E 0 rfl dX0_headCell_1 rfl ?_
  obtain ⟨v1, ev1, hf⟩ := bs hf
  refine j_getI (ci := 1) (k0 := 0) (T := TX2) (N := 4) E (mI inUX2) rfl (by decide) (mU uw_1_75) ev1 dX0_headCell_2 ?_
  refine j_icmp_gt (tgt := 14) E dX0_headCell_5 (by decide) (fun z2 => ?_) (fun z2 => ?_)
  · have hf := ifp hf z2
    refine j_aload_n E 0 rfl dX0_headCell_14 rfl ?_
    refine j_iload_n E 1 rfl dX0_headCell_15 rfl ?_
    refine j_aload_n E 0 rfl dX0_headCell_16 rfl ?_
    obtain ⟨v3, ev3, hf⟩ := bs hf
    refine j_getI (ci := 1) (k0 := 0) (T := TX2) (N := 4) E (mI inUX2) rfl (by decide) (mU uw_1_75) ev3 dX0_headCell_17 ?_
    refine j_isub E dX0_headCell_20 ?_
    refine j_iconst (v := 1) E dX0_headCell_21 (by decide) ?_
    refine j_isub E dX0_headCell_22 ?_
    obtain ⟨k4, hf⟩ := ck_spec hf
    obtain ⟨v5, e6, hf⟩ := bs hf
    refine j_callV (ci := 1) (b := x0) (As := [.int ((x1 - v3) - 1)]) (rest := []) (v := (some (.int v5))) E (c_X2_placeNumber l D ad cy h x0 ((x1 - v3) - 1) e6) (mcw E.1.2.2.2.2 uw_2_35 uw_2_199 uw_2_33 uw_2_34 uw_1_4 rfl rfl hd_X2_placeNumber ⟨by decide, by decide⟩) rfl k4 rfl rfl (Nat.le_of_ble_eq_true rfl) dX0_headCell_23 ⟨Nat.zero_le _, Nat.zero_le _⟩ ?_
    refine j_stk (st' := [.int v5]) rfl ?_
    refine j_bipush (v := 16) E dX0_headCell_26 (by decide) ?_
    refine j_irem E (by decide) dX0_headCell_28 ?_
    cases hf
    exact j_iret E hr hlk dX0_headCell_29
  · have hf := ifn hf z2
    refine j_aload_n E 0 rfl dX0_headCell_8 rfl ?_
    refine j_iload_n E 1 rfl dX0_headCell_9 rfl ?_
    obtain ⟨k7, hf⟩ := ck_spec hf
    obtain ⟨v8, e9, hf⟩ := bs hf
    refine j_callV (ci := 1) (b := x0) (As := [.int x1]) (rest := []) (v := (some (.int v8))) E (c_X2_keptAhead l D ad cy h x0 x1 e9) (mcw E.1.2.2.2.2 uw_1_151 uw_2_207 uw_1_149 uw_1_150 uw_1_4 rfl rfl hd_X2_keptAhead ⟨by decide, by decide⟩) rfl k7 rfl rfl (Nat.le_of_ble_eq_true rfl) dX0_headCell_10 ⟨Nat.zero_le _, Nat.zero_le _⟩ ?_
    refine j_stk (st' := [.int v8]) rfl ?_
    cases hf
    exact j_iret E hr hlk dX0_headCell_13
noncomputable def f_X2_value (h : HP) (x0 : Nat) (x1 : Int32) (x2 : Int32) : Option (Int64) :=
  (f_X5_isLine x1).bind fun v1 =>
  if v1 = 0 then (
    some 0
  ) else (
    (f_X5_isLine x2).bind fun v4 =>
    if v4 = 0 then (
      some 0
    ) else (
      (gR 1 h x0 3).bind fun v7 =>
      (aJ h v7 ((x1 * 16) + x2)).bind fun v8 =>
      some v8
    )
  )
abbrev rmX2_value : Room := { frames := 1, cells := 0, slots := 0, locals := 20 }
theorem hd_X2_value : yX2_value.cls = RX2 ∧ yX2_value.cls ≠ "java/lang/invoke/MethodHandle" ∧ yX2_value.cls ≠ "java/lang/invoke/VarHandle" ∧ (parseMethodDescriptor yX2_value.desc).map (fun d => d.parameters.length) = some 2 := by decide +kernel
set_option maxRecDepth 100000 in
set_option maxHeartbeats 4000000 in
theorem c_X2_value (l : Launch) (D : va_G) (ad : Nat → Nat) (cy : Nat → ClassId) (h : HP) (x0 : Nat) (x1 : Int32) (x2 : Int32) {r : Int64} (hf : f_X2_value h x0 x1 x2 = some r) : Met l yX2_value (wsM yX2_value cX2_value 3 (some .long)) rmX2_value (va_Pc [.ref (ad x0), .int x1, .int x2] (PW D ad cy h)) (QV D ad cy (some (.long r)) h) 0 0 (Aw ad) := by
  refine met_of (own := RX2) (lv := [(0, .ref (ad x0)), (1, .int x1), (2, .int x2)]) (by decide) rfl (Nat.le_of_ble_eq_true rfl) rfl (fun p e s m args below meth c E hr hlk => ?_)
  unfold f_X2_value at hf
  refine j_iload_n E 1 rfl dX2_value_0 rfl ?_
  obtain ⟨v1, e2, hf⟩ := bs hf
  refine j_callSN (host := RX5) (As := [.int x1]) (rest := []) (v := (some (.int v1))) E (c_X5_isLine l D ad cy h x1 e2) (mcn E.1.2.2.2.2 E.2.2 5 rfl uw_1_164 uw_1_163 uw_1_1 rfl rfl hd_X5_isLine ⟨by decide, by decide⟩) rfl rfl (Nat.le_of_ble_eq_true rfl) dX2_value_1 ⟨Nat.zero_le _, Nat.zero_le _⟩ ?_
  refine j_stk (st' := [.int v1]) rfl ?_
  refine j_if_eq (tgt := 28) E dX2_value_4 (by decide) (fun z3 => ?_) (fun z3 => ?_)
  · have hf := ifp hf z3
    refine j_lconst (v := 0) E dX2_value_28 (by decide) ?_
    cases hf
    exact j_lret E hr hlk dX2_value_29
  · have hf := ifn hf z3
    refine j_iload_n E 2 rfl dX2_value_7 rfl ?_
    obtain ⟨v4, e5, hf⟩ := bs hf
    refine j_callSN (host := RX5) (As := [.int x2]) (rest := []) (v := (some (.int v4))) E (c_X5_isLine l D ad cy h x2 e5) (mcn E.1.2.2.2.2 E.2.2 5 rfl uw_1_164 uw_1_163 uw_1_1 rfl rfl hd_X5_isLine ⟨by decide, by decide⟩) rfl rfl (Nat.le_of_ble_eq_true rfl) dX2_value_8 ⟨Nat.zero_le _, Nat.zero_le _⟩ ?_
    refine j_stk (st' := [.int v4]) rfl ?_
    refine j_if_eq (tgt := 28) E dX2_value_11 (by decide) (fun z6 => ?_) (fun z6 => ?_)
    · have hf := ifp hf z6
      refine j_lconst (v := 0) E dX2_value_28 (by decide) ?_
      cases hf
      exact j_lret E hr hlk dX2_value_29
    · have hf := ifn hf z6
      refine j_aload_n E 0 rfl dX2_value_14 rfl ?_
      obtain ⟨v7, ev7, hf⟩ := bs hf
      refine j_getR (ci := 1) (k0 := 3) (T := TX2) (N := 4) E (mI inUX2) rfl (by decide) (mU uw_1_81) ev7 dX2_value_15 ?_
      refine j_iload_n E 1 rfl dX2_value_18 rfl ?_
      refine j_bipush (v := 16) E dX2_value_19 (by decide) ?_
      refine j_imul E dX2_value_21 ?_
      refine j_iload_n E 2 rfl dX2_value_22 rfl ?_
      refine j_iadd E dX2_value_23 ?_
      obtain ⟨v8, ev8, hf⟩ := bs hf
      refine j_aJ E ev8 dX2_value_24 ?_
      refine j_goto (tgt := 29) E dX2_value_25 (by decide) ?_
      cases hf
      exact j_lret E hr hlk dX2_value_29
noncomputable def f_X0_blocksCell (h : HP) (x0 : Nat) (x1 : Nat) (x2 : Int32) (x3 : Int32) : Option (Int64) :=
  (f_X0_headLength h x1).bind fun v1 =>
  if v1 ≤ x3 then (
    if x2 < 1 then (
      some 0
    ) else (
      if 1 ≤ (x2 * x2) then (
        nz (x2 * x2) <|
        ck 1 h x1 <|
        (f_X2_placeNumber h x1 ((x3 - v1) / (x2 * x2))).bind fun v8 =>
        nz (x2 * x2) <|
        nz x2 <|
        nz x2 <|
        ck 1 h x0 <|
        (f_X2_value h x0 (((v8 / 16) * x2) + (((x3 - v1) - (x3 - v1) / (x2 * x2) * (x2 * x2)) / x2)) (((v8 - v8 / 16 * 16) * x2) + (((x3 - v1) - (x3 - v1) / (x2 * x2) * (x2 * x2)) - ((x3 - v1) - (x3 - v1) / (x2 * x2) * (x2 * x2)) / x2 * x2))).bind fun v14 =>
        some v14
      ) else (
        some 0
      )
    )
  ) else (
    (f_X0_headCell h x1 x3).bind fun v16 =>
    some (Int32.toInt64 v16)
  )
abbrev rmX0_blocksCell : Room := { frames := 4, cells := 0, slots := 0, locals := 89 }
theorem hd_X0_blocksCell : yX0_blocksCell.cls = RX0 ∧ yX0_blocksCell.cls ≠ "java/lang/invoke/MethodHandle" ∧ yX0_blocksCell.cls ≠ "java/lang/invoke/VarHandle" ∧ (parseMethodDescriptor yX0_blocksCell.desc).map (fun d => d.parameters.length) = some 4 := by decide +kernel
set_option maxRecDepth 100000 in
set_option maxHeartbeats 4000000 in
theorem c_X0_blocksCell (l : Launch) (D : va_G) (ad : Nat → Nat) (cy : Nat → ClassId) (h : HP) (x0 : Nat) (x1 : Nat) (x2 : Int32) (x3 : Int32) {r : Int64} (hf : f_X0_blocksCell h x0 x1 x2 x3 = some r) : Met l yX0_blocksCell (wsM yX0_blocksCell cX0_blocksCell 8 (some .long)) rmX0_blocksCell (va_Pc [.ref (ad x0), .ref (ad x1), .int x2, .int x3] (PW D ad cy h)) (QV D ad cy (some (.long r)) h) 0 0 (Aw ad) := by
  refine met_of (own := RX0) (lv := [(0, .ref (ad x0)), (1, .ref (ad x1)), (2, .int x2), (3, .int x3)]) (by decide) rfl (Nat.le_of_ble_eq_true rfl) rfl (fun p e s m args below meth c E hr hlk => ?_)
  unfold f_X0_blocksCell at hf
  refine j_aload_n E 1 rfl dX0_blocksCell_0 rfl ?_
  obtain ⟨v1, e2, hf⟩ := bs hf
  refine j_callS (As := [.ref (ad x1)]) (rest := []) (v := (some (.int v1))) E (c_X0_headLength l D ad cy h x1 e2) (mcs E.1.2.2.2.2 uw_2_176 uw_2_174 uw_2_175 uw_1_9 rfl rfl hd_X0_headLength ⟨by decide, by decide⟩) rfl rfl (Nat.le_of_ble_eq_true rfl) dX0_blocksCell_1 ⟨Nat.zero_le _, Nat.zero_le _⟩ ?_
  refine j_stk (st' := [.int v1]) rfl ?_
  refine j_istore (lv' := [(4, .int v1), (0, .ref (ad x0)), (1, .ref (ad x1)), (2, .int x2), (3, .int x3)]) E dX0_blocksCell_4 (by decide) rfl ?_
  refine j_iload_n E 4 rfl dX0_blocksCell_6 rfl ?_
  refine j_iload E 0 rfl dX0_blocksCell_7 ?_
  refine j_icmp_ge (tgt := 19) E dX0_blocksCell_9 (by decide) (fun z3 => ?_) (fun z3 => ?_)
  · have hf := ifp hf z3
    refine j_iload_n E 3 rfl dX0_blocksCell_19 rfl ?_
    refine j_iload_n E 3 rfl dX0_blocksCell_20 rfl ?_
    refine j_imul E dX0_blocksCell_21 ?_
    refine j_istore (lv' := [(5, .int (x2 * x2)), (4, .int v1), (0, .ref (ad x0)), (1, .ref (ad x1)), (2, .int x2), (3, .int x3)]) E dX0_blocksCell_22 (by decide) rfl ?_
    refine j_iload_n E 4 rfl dX0_blocksCell_24 rfl ?_
    refine j_iconst (v := 1) E dX0_blocksCell_25 (by decide) ?_
    refine j_icmp_lt (tgt := 35) E dX0_blocksCell_26 (by decide) (fun z4 => ?_) (fun z4 => ?_)
    · have hf := ifp hf z4
      refine j_lconst (v := 0) E dX0_blocksCell_35 (by decide) ?_
      cases hf
      exact j_lret E hr hlk dX0_blocksCell_36
    · have hf := ifn hf z4
      refine j_iload E 0 rfl dX0_blocksCell_29 ?_
      refine j_iconst (v := 1) E dX0_blocksCell_31 (by decide) ?_
      refine j_icmp_ge (tgt := 37) E dX0_blocksCell_32 (by decide) (fun z5 => ?_) (fun z5 => ?_)
      · have hf := ifp hf z5
        refine j_aload_n E 3 rfl dX0_blocksCell_37 rfl ?_
        refine j_iload_n E 5 rfl dX0_blocksCell_38 rfl ?_
        refine j_iload E 1 rfl dX0_blocksCell_39 ?_
        refine j_isub E dX0_blocksCell_41 ?_
        refine j_iload E 0 rfl dX0_blocksCell_42 ?_
        obtain ⟨n6, hf⟩ := nz_spec hf
        refine j_idiv E n6 dX0_blocksCell_44 ?_
        obtain ⟨k7, hf⟩ := ck_spec hf
        obtain ⟨v8, e9, hf⟩ := bs hf
        refine j_callV (ci := 1) (b := x1) (As := [.int ((x3 - v1) / (x2 * x2))]) (rest := []) (v := (some (.int v8))) E (c_X2_placeNumber l D ad cy h x1 ((x3 - v1) / (x2 * x2)) e9) (mcw E.1.2.2.2.2 uw_2_35 uw_2_199 uw_2_33 uw_2_34 uw_1_4 rfl rfl hd_X2_placeNumber ⟨by decide, by decide⟩) rfl k7 rfl rfl (Nat.le_of_ble_eq_true rfl) dX0_blocksCell_45 ⟨Nat.zero_le _, Nat.zero_le _⟩ ?_
        refine j_stk (st' := [.int v8]) rfl ?_
        refine j_istore (lv' := [(6, .int v8), (5, .int (x2 * x2)), (4, .int v1), (0, .ref (ad x0)), (1, .ref (ad x1)), (2, .int x2), (3, .int x3)]) E dX0_blocksCell_48 (by decide) rfl ?_
        refine j_iload_n E 6 rfl dX0_blocksCell_50 rfl ?_
        refine j_iload E 2 rfl dX0_blocksCell_51 ?_
        refine j_isub E dX0_blocksCell_53 ?_
        refine j_iload E 1 rfl dX0_blocksCell_54 ?_
        obtain ⟨n10, hf⟩ := nz_spec hf
        refine j_irem E n10 dX0_blocksCell_56 ?_
        refine j_istore (lv' := [(7, .int ((x3 - v1) - (x3 - v1) / (x2 * x2) * (x2 * x2))), (6, .int v8), (5, .int (x2 * x2)), (4, .int v1), (0, .ref (ad x0)), (1, .ref (ad x1)), (2, .int x2), (3, .int x3)]) E dX0_blocksCell_57 (by decide) rfl ?_
        refine j_aload_n E 4 rfl dX0_blocksCell_59 rfl ?_
        refine j_iload E 1 rfl dX0_blocksCell_60 ?_
        refine j_bipush (v := 16) E dX0_blocksCell_62 (by decide) ?_
        refine j_idiv E (by decide) dX0_blocksCell_64 ?_
        refine j_iload_n E 6 rfl dX0_blocksCell_65 rfl ?_
        refine j_imul E dX0_blocksCell_66 ?_
        refine j_iload E 0 rfl dX0_blocksCell_67 ?_
        refine j_iload_n E 6 rfl dX0_blocksCell_69 rfl ?_
        obtain ⟨n11, hf⟩ := nz_spec hf
        refine j_idiv E n11 dX0_blocksCell_70 ?_
        refine j_iadd E dX0_blocksCell_71 ?_
        refine j_iload E 1 rfl dX0_blocksCell_72 ?_
        refine j_bipush (v := 16) E dX0_blocksCell_74 (by decide) ?_
        refine j_irem E (by decide) dX0_blocksCell_76 ?_
        refine j_iload_n E 6 rfl dX0_blocksCell_77 rfl ?_
        refine j_imul E dX0_blocksCell_78 ?_
        refine j_iload E 0 rfl dX0_blocksCell_79 ?_
        refine j_iload_n E 6 rfl dX0_blocksCell_81 rfl ?_
        obtain ⟨n12, hf⟩ := nz_spec hf
        refine j_irem E n12 dX0_blocksCell_82 ?_
        refine j_iadd E dX0_blocksCell_83 ?_
        obtain ⟨k13, hf⟩ := ck_spec hf
        obtain ⟨v14, e15, hf⟩ := bs hf
        refine j_callV (ci := 1) (b := x0) (As := [.int (((v8 / 16) * x2) + (((x3 - v1) - (x3 - v1) / (x2 * x2) * (x2 * x2)) / x2)), .int (((v8 - v8 / 16 * 16) * x2) + (((x3 - v1) - (x3 - v1) / (x2 * x2) * (x2 * x2)) - ((x3 - v1) - (x3 - v1) / (x2 * x2) * (x2 * x2)) / x2 * x2))]) (rest := []) (v := (some (.long v14))) E (c_X2_value l D ad cy h x0 (((v8 / 16) * x2) + (((x3 - v1) - (x3 - v1) / (x2 * x2) * (x2 * x2)) / x2)) (((v8 - v8 / 16 * 16) * x2) + (((x3 - v1) - (x3 - v1) / (x2 * x2) * (x2 * x2)) - ((x3 - v1) - (x3 - v1) / (x2 * x2) * (x2 * x2)) / x2 * x2)) e15) (mcw E.1.2.2.2.2 uw_1_224 uw_2_200 uw_1_222 uw_1_223 uw_1_4 rfl rfl hd_X2_value ⟨by decide, by decide⟩) rfl k13 rfl rfl (Nat.le_of_ble_eq_true rfl) dX0_blocksCell_84 ⟨Nat.zero_le _, Nat.zero_le _⟩ ?_
        refine j_stk (st' := [.long v14]) rfl ?_
        cases hf
        exact j_lret E hr hlk dX0_blocksCell_87
      · have hf := ifn hf z5
        refine j_lconst (v := 0) E dX0_blocksCell_35 (by decide) ?_
        cases hf
        exact j_lret E hr hlk dX0_blocksCell_36
  · have hf := ifn hf z3
    refine j_aload_n E 2 rfl dX0_blocksCell_12 rfl ?_
    refine j_iload_n E 4 rfl dX0_blocksCell_13 rfl ?_
    obtain ⟨v16, e17, hf⟩ := bs hf
    refine j_callS (As := [.ref (ad x1), .int x3]) (rest := []) (v := (some (.int v16))) E (c_X0_headCell l D ad cy h x1 x3 e17) (mcs E.1.2.2.2.2 uw_2_206 uw_2_204 uw_2_205 uw_1_9 rfl rfl hd_X0_headCell ⟨by decide, by decide⟩) rfl rfl (Nat.le_of_ble_eq_true rfl) dX0_blocksCell_14 ⟨Nat.zero_le _, Nat.zero_le _⟩ ?_
    refine j_stk (st' := [.int v16]) rfl ?_
    refine j_i2l E dX0_blocksCell_17 ?_
    cases hf
    exact j_lret E hr hlk dX0_blocksCell_18
noncomputable def f_X0_byRowsCell (h : HP) (x0 : Nat) (x1 : Int32) : Option (Int64) :=
  (f_X0_headLength h x0).bind fun v1 =>
  if v1 ≤ x1 then (
    ck 1 h x0 <|
    (f_X2_placeNumber h x0 (x1 - v1)).bind fun v5 =>
    ck 1 h x0 <|
    (f_X2_value h x0 (v5 / 16) (v5 - v5 / 16 * 16)).bind fun v8 =>
    some v8
  ) else (
    (f_X0_headCell h x0 x1).bind fun v10 =>
    some (Int32.toInt64 v10)
  )
abbrev rmX0_byRowsCell : Room := { frames := 4, cells := 0, slots := 0, locals := 89 }
theorem hd_X0_byRowsCell : yX0_byRowsCell.cls = RX0 ∧ yX0_byRowsCell.cls ≠ "java/lang/invoke/MethodHandle" ∧ yX0_byRowsCell.cls ≠ "java/lang/invoke/VarHandle" ∧ (parseMethodDescriptor yX0_byRowsCell.desc).map (fun d => d.parameters.length) = some 2 := by decide +kernel
set_option maxRecDepth 100000 in
set_option maxHeartbeats 4000000 in
theorem c_X0_byRowsCell (l : Launch) (D : va_G) (ad : Nat → Nat) (cy : Nat → ClassId) (h : HP) (x0 : Nat) (x1 : Int32) {r : Int64} (hf : f_X0_byRowsCell h x0 x1 = some r) : Met l yX0_byRowsCell (wsM yX0_byRowsCell cX0_byRowsCell 4 (some .long)) rmX0_byRowsCell (va_Pc [.ref (ad x0), .int x1] (PW D ad cy h)) (QV D ad cy (some (.long r)) h) 0 0 (Aw ad) := by
  refine met_of (own := RX0) (lv := [(0, .ref (ad x0)), (1, .int x1)]) (by decide) rfl (Nat.le_of_ble_eq_true rfl) rfl (fun p e s m args below meth c E hr hlk => ?_)
  unfold f_X0_byRowsCell at hf
  refine j_aload_n E 0 rfl dX0_byRowsCell_0 rfl ?_
  obtain ⟨v1, e2, hf⟩ := bs hf
  refine j_callS (As := [.ref (ad x0)]) (rest := []) (v := (some (.int v1))) E (c_X0_headLength l D ad cy h x0 e2) (mcs E.1.2.2.2.2 uw_2_176 uw_2_174 uw_2_175 uw_1_9 rfl rfl hd_X0_headLength ⟨by decide, by decide⟩) rfl rfl (Nat.le_of_ble_eq_true rfl) dX0_byRowsCell_1 ⟨Nat.zero_le _, Nat.zero_le _⟩ ?_
  refine j_stk (st' := [.int v1]) rfl ?_
  refine j_istore_n (lv' := [(2, .int v1), (0, .ref (ad x0)), (1, .int x1)]) E dX0_byRowsCell_4 rfl (by decide) rfl ?_
  refine j_iload_n E 2 rfl dX0_byRowsCell_5 rfl ?_
  refine j_iload_n E 0 rfl dX0_byRowsCell_6 rfl ?_
  refine j_icmp_ge (tgt := 17) E dX0_byRowsCell_7 (by decide) (fun z3 => ?_) (fun z3 => ?_)
  · have hf := ifp hf z3
    refine j_aload_n E 1 rfl dX0_byRowsCell_17 rfl ?_
    refine j_iload_n E 2 rfl dX0_byRowsCell_18 rfl ?_
    refine j_iload_n E 0 rfl dX0_byRowsCell_19 rfl ?_
    refine j_isub E dX0_byRowsCell_20 ?_
    obtain ⟨k4, hf⟩ := ck_spec hf
    obtain ⟨v5, e6, hf⟩ := bs hf
    refine j_callV (ci := 1) (b := x0) (As := [.int (x1 - v1)]) (rest := []) (v := (some (.int v5))) E (c_X2_placeNumber l D ad cy h x0 (x1 - v1) e6) (mcw E.1.2.2.2.2 uw_2_35 uw_2_199 uw_2_33 uw_2_34 uw_1_4 rfl rfl hd_X2_placeNumber ⟨by decide, by decide⟩) rfl k4 rfl rfl (Nat.le_of_ble_eq_true rfl) dX0_byRowsCell_21 ⟨Nat.zero_le _, Nat.zero_le _⟩ ?_
    refine j_stk (st' := [.int v5]) rfl ?_
    refine j_istore_n (lv' := [(3, .int v5), (2, .int v1), (0, .ref (ad x0)), (1, .int x1)]) E dX0_byRowsCell_24 rfl (by decide) rfl ?_
    refine j_aload_n E 2 rfl dX0_byRowsCell_25 rfl ?_
    refine j_iload_n E 0 rfl dX0_byRowsCell_26 rfl ?_
    refine j_bipush (v := 16) E dX0_byRowsCell_27 (by decide) ?_
    refine j_idiv E (by decide) dX0_byRowsCell_29 ?_
    refine j_iload_n E 0 rfl dX0_byRowsCell_30 rfl ?_
    refine j_bipush (v := 16) E dX0_byRowsCell_31 (by decide) ?_
    refine j_irem E (by decide) dX0_byRowsCell_33 ?_
    obtain ⟨k7, hf⟩ := ck_spec hf
    obtain ⟨v8, e9, hf⟩ := bs hf
    refine j_callV (ci := 1) (b := x0) (As := [.int (v5 / 16), .int (v5 - v5 / 16 * 16)]) (rest := []) (v := (some (.long v8))) E (c_X2_value l D ad cy h x0 (v5 / 16) (v5 - v5 / 16 * 16) e9) (mcw E.1.2.2.2.2 uw_1_224 uw_2_200 uw_1_222 uw_1_223 uw_1_4 rfl rfl hd_X2_value ⟨by decide, by decide⟩) rfl k7 rfl rfl (Nat.le_of_ble_eq_true rfl) dX0_byRowsCell_34 ⟨Nat.zero_le _, Nat.zero_le _⟩ ?_
    refine j_stk (st' := [.long v8]) rfl ?_
    cases hf
    exact j_lret E hr hlk dX0_byRowsCell_37
  · have hf := ifn hf z3
    refine j_aload_n E 1 rfl dX0_byRowsCell_10 rfl ?_
    refine j_iload_n E 2 rfl dX0_byRowsCell_11 rfl ?_
    obtain ⟨v10, e11, hf⟩ := bs hf
    refine j_callS (As := [.ref (ad x0), .int x1]) (rest := []) (v := (some (.int v10))) E (c_X0_headCell l D ad cy h x0 x1 e11) (mcs E.1.2.2.2.2 uw_2_206 uw_2_204 uw_2_205 uw_1_9 rfl rfl hd_X0_headCell ⟨by decide, by decide⟩) rfl rfl (Nat.le_of_ble_eq_true rfl) dX0_byRowsCell_12 ⟨Nat.zero_le _, Nat.zero_le _⟩ ?_
    refine j_stk (st' := [.int v10]) rfl ?_
    refine j_i2l E dX0_byRowsCell_15 ?_
    cases hf
    exact j_lret E hr hlk dX0_byRowsCell_16
noncomputable def f_X0_fullCell (h : HP) (x0 : Nat) (x1 : Int32) : Option (Int64) :=
  (gI 1 h x0 1).bind fun v1 =>
  if 1 ≤ v1 then (
    nz v1 <|
    nz v1 <|
    ck 1 h x0 <|
    (f_X2_value h x0 (x1 / v1) (x1 - x1 / v1 * v1)).bind fun v6 =>
    some v6
  ) else (
    some 0
  )
abbrev rmX0_fullCell : Room := { frames := 2, cells := 0, slots := 0, locals := 42 }
theorem hd_X0_fullCell : yX0_fullCell.cls = RX0 ∧ yX0_fullCell.cls ≠ "java/lang/invoke/MethodHandle" ∧ yX0_fullCell.cls ≠ "java/lang/invoke/VarHandle" ∧ (parseMethodDescriptor yX0_fullCell.desc).map (fun d => d.parameters.length) = some 2 := by decide +kernel
set_option maxRecDepth 100000 in
set_option maxHeartbeats 4000000 in
theorem c_X0_fullCell (l : Launch) (D : va_G) (ad : Nat → Nat) (cy : Nat → ClassId) (h : HP) (x0 : Nat) (x1 : Int32) {r : Int64} (hf : f_X0_fullCell h x0 x1 = some r) : Met l yX0_fullCell (wsM yX0_fullCell cX0_fullCell 3 (some .long)) rmX0_fullCell (va_Pc [.ref (ad x0), .int x1] (PW D ad cy h)) (QV D ad cy (some (.long r)) h) 0 0 (Aw ad) := by
  refine met_of (own := RX0) (lv := [(0, .ref (ad x0)), (1, .int x1)]) (by decide) rfl (Nat.le_of_ble_eq_true rfl) rfl (fun p e s m args below meth c E hr hlk => ?_)
  unfold f_X0_fullCell at hf
  refine j_aload_n E 0 rfl dX0_fullCell_0 rfl ?_
  obtain ⟨v1, ev1, hf⟩ := bs hf
  refine j_getI (ci := 1) (k0 := 1) (T := TX2) (N := 4) E (mI inUX2) rfl (by decide) (mU uw_1_78) ev1 dX0_fullCell_1 ?_
  refine j_istore_n (lv' := [(2, .int v1), (0, .ref (ad x0)), (1, .int x1)]) E dX0_fullCell_4 rfl (by decide) rfl ?_
  refine j_iload_n E 0 rfl dX0_fullCell_5 rfl ?_
  refine j_iconst (v := 1) E dX0_fullCell_6 (by decide) ?_
  refine j_icmp_ge (tgt := 14) E dX0_fullCell_7 (by decide) (fun z2 => ?_) (fun z2 => ?_)
  · have hf := ifp hf z2
    refine j_aload_n E 1 rfl dX0_fullCell_14 rfl ?_
    refine j_iload_n E 2 rfl dX0_fullCell_15 rfl ?_
    refine j_iload_n E 0 rfl dX0_fullCell_16 rfl ?_
    obtain ⟨n3, hf⟩ := nz_spec hf
    refine j_idiv E n3 dX0_fullCell_17 ?_
    refine j_iload_n E 2 rfl dX0_fullCell_18 rfl ?_
    refine j_iload_n E 0 rfl dX0_fullCell_19 rfl ?_
    obtain ⟨n4, hf⟩ := nz_spec hf
    refine j_irem E n4 dX0_fullCell_20 ?_
    obtain ⟨k5, hf⟩ := ck_spec hf
    obtain ⟨v6, e7, hf⟩ := bs hf
    refine j_callV (ci := 1) (b := x0) (As := [.int (x1 / v1), .int (x1 - x1 / v1 * v1)]) (rest := []) (v := (some (.long v6))) E (c_X2_value l D ad cy h x0 (x1 / v1) (x1 - x1 / v1 * v1) e7) (mcw E.1.2.2.2.2 uw_1_224 uw_2_200 uw_1_222 uw_1_223 uw_1_4 rfl rfl hd_X2_value ⟨by decide, by decide⟩) rfl k5 rfl rfl (Nat.le_of_ble_eq_true rfl) dX0_fullCell_21 ⟨Nat.zero_le _, Nat.zero_le _⟩ ?_
    refine j_stk (st' := [.long v6]) rfl ?_
    cases hf
    exact j_lret E hr hlk dX0_fullCell_24
  · have hf := ifn hf z2
    refine j_lconst (v := 0) E dX0_fullCell_10 (by decide) ?_
    refine j_goto (tgt := 24) E dX0_fullCell_11 (by decide) ?_
    cases hf
    exact j_lret E hr hlk dX0_fullCell_24
noncomputable def L_X0_slantsCell_5 (h : HP) (x0 : Nat) : Nat → (Option (Int64)) → Int32 → Int32 → Option (Int64)
  | 0, _, _, _ => none
  | n + 1, k, x2, x3 =>
      if 16 ≤ x3 then (
        k
      ) else (
        ck 1 h x0 <|
        (f_X2_keepsOnSlant h x0 x3).bind fun v3 =>
        if v3 = 0 then (
          L_X0_slantsCell_5 h x0 n k x2 (x3 + 1)
        ) else (
          if x2 = 0 then (
            some (Int32.toInt64 x3)
          ) else (
            (gI 1 h x0 0).bind fun v7 =>
            if v7 < x2 then (
              (gI 1 h x0 0).bind fun v9 =>
              L_X0_slantsCell_5 h x0 n k (x2 - (v9 + 1)) (x3 + 1)
            ) else (
              ck 1 h x0 <|
              (f_X2_value h x0 (x2 - 1) ((x2 - 1) + x3)).bind fun v11 =>
              some v11
            )
          )
        )
      )
noncomputable def f_X0_slantsCell (h : HP) (x0 : Nat) (x1 : Int32) : Option (Int64) :=
  L_X0_slantsCell_5 h x0 FU (
    some 0) x1 (-15)
abbrev rmX0_slantsCell : Room := { frames := 3, cells := 0, slots := 0, locals := 65 }
theorem hd_X0_slantsCell : yX0_slantsCell.cls = RX0 ∧ yX0_slantsCell.cls ≠ "java/lang/invoke/MethodHandle" ∧ yX0_slantsCell.cls ≠ "java/lang/invoke/VarHandle" ∧ (parseMethodDescriptor yX0_slantsCell.desc).map (fun d => d.parameters.length) = some 2 := by decide +kernel
set_option maxRecDepth 100000 in
set_option maxHeartbeats 4000000 in
theorem w_X0_slantsCell_5 {p : Program} {l : Launch} {e : Env} {s : State} {m : MethodId} {args : Array Value} {below : List Frame} {meth : Method} {c : Code} {D : va_G} {ad : Nat → Nat} {cy : Nat → ClassId} (E : EE p s m args c cX0_slantsCell 4 (wsM yX0_slantsCell cX0_slantsCell 4 (some .long)) RX0 D cy) (hr : meth.sig.returnType = (some .long)) (hlk : meth.locks = false) {r : Int64} (h : HP) (x0 : Nat) : ∀ (n : Nat) (k : (Option (Int64))) (x2 : Int32) (x3 : Int32), (k = some r → JJ p l e rmX0_slantsCell s m args below meth c 0 0 (MQ below (QV D ad cy (some (.long r)) h) args s 0 0 (Aw ad)) D ad cy (Aw ad) 4 h [] 62 []) → L_X0_slantsCell_5 h x0 n k x2 x3 = some r → JJ p l e rmX0_slantsCell s m args below meth c 0 0 (MQ below (QV D ad cy (some (.long r)) h) args s 0 0 (Aw ad)) D ad cy (Aw ad) 4 h [(0, .ref (ad x0)), (2, .int x2), (3, .int x3)] 5 [] := by
  intro n
  induction n with
  | zero => intro k x2 x3 hk hf; cases hf
  | succ n ih =>
    intro k x2 x3 hk hf
    unfold L_X0_slantsCell_5 at hf
    refine j_iload_n E 2 rfl dX0_slantsCell_5 rfl ?_
    refine j_bipush (v := 16) E dX0_slantsCell_6 (by decide) ?_
    refine j_icmp_ge (tgt := 62) E dX0_slantsCell_8 (by decide) (fun z1 => ?_) (fun z1 => ?_)
    · have hf := ifp hf z1
      refine j_perm (lv' := []) [] rfl ?_
      exact hk hf
    · have hf := ifn hf z1
      refine j_aload_n E 0 rfl dX0_slantsCell_11 rfl ?_
      refine j_iload_n E 2 rfl dX0_slantsCell_12 rfl ?_
      obtain ⟨k2, hf⟩ := ck_spec hf
      obtain ⟨v3, e4, hf⟩ := bs hf
      refine j_callV (ci := 1) (b := x0) (As := [.int x3]) (rest := []) (v := (some (.int v3))) E (c_X2_keepsOnSlant l D ad cy h x0 x3 e4) (mcw E.1.2.2.2.2 uw_2_183 uw_2_180 uw_2_181 uw_2_182 uw_1_4 rfl rfl hd_X2_keepsOnSlant ⟨by decide, by decide⟩) rfl k2 rfl rfl (Nat.le_of_ble_eq_true rfl) dX0_slantsCell_13 ⟨Nat.zero_le _, Nat.zero_le _⟩ ?_
      refine j_stk (st' := [.int v3]) rfl ?_
      refine j_if_eq (tgt := 56) E dX0_slantsCell_16 (by decide) (fun z5 => ?_) (fun z5 => ?_)
      · have hf := ifp hf z5
        refine j_iinc (v := (x3 + 1)) (k0 := 2) (lv' := [(3, .int (x3 + 1)), (0, .ref (ad x0)), (2, .int x2)]) E dX0_slantsCell_56 rfl (congrArg (fun z => x3 + z) (by decide)) (by decide) rfl ?_
        refine j_goto (tgt := 5) E dX0_slantsCell_59 (by decide) ?_
        refine j_perm (lv' := [(0, .ref (ad x0)), (2, .int x2), (3, .int (x3 + 1))]) [1, 2, 0] rfl ?_
        exact ih k x2 (x3 + 1) hk hf
      · have hf := ifn hf z5
        refine j_iload_n E 1 rfl dX0_slantsCell_19 rfl ?_
        refine j_if_ne (tgt := 26) E dX0_slantsCell_20 (by decide) (fun z6 => ?_) (fun z6 => ?_)
        · have hf := ifn hf z6
          refine j_iload_n E 1 rfl dX0_slantsCell_26 rfl ?_
          refine j_aload_n E 0 rfl dX0_slantsCell_27 rfl ?_
          obtain ⟨v7, ev7, hf⟩ := bs hf
          refine j_getI (ci := 1) (k0 := 0) (T := TX2) (N := 4) E (mI inUX2) rfl (by decide) (mU uw_1_75) ev7 dX0_slantsCell_28 ?_
          refine j_icmp_gt (tgt := 47) E dX0_slantsCell_31 (by decide) (fun z8 => ?_) (fun z8 => ?_)
          · have hf := ifp hf z8
            refine j_iload_n E 1 rfl dX0_slantsCell_47 rfl ?_
            refine j_aload_n E 0 rfl dX0_slantsCell_48 rfl ?_
            obtain ⟨v9, ev9, hf⟩ := bs hf
            refine j_getI (ci := 1) (k0 := 0) (T := TX2) (N := 4) E (mI inUX2) rfl (by decide) (mU uw_1_75) ev9 dX0_slantsCell_49 ?_
            refine j_iconst (v := 1) E dX0_slantsCell_52 (by decide) ?_
            refine j_iadd E dX0_slantsCell_53 ?_
            refine j_isub E dX0_slantsCell_54 ?_
            refine j_istore_n (lv' := [(2, .int (x2 - (v9 + 1))), (0, .ref (ad x0)), (3, .int x3)]) E dX0_slantsCell_55 rfl (by decide) rfl ?_
            refine j_iinc (v := (x3 + 1)) (k0 := 2) (lv' := [(3, .int (x3 + 1)), (2, .int (x2 - (v9 + 1))), (0, .ref (ad x0))]) E dX0_slantsCell_56 rfl (congrArg (fun z => x3 + z) (by decide)) (by decide) rfl ?_
            refine j_goto (tgt := 5) E dX0_slantsCell_59 (by decide) ?_
            refine j_perm (lv' := [(0, .ref (ad x0)), (2, .int (x2 - (v9 + 1))), (3, .int (x3 + 1))]) [2, 1, 0] rfl ?_
            exact ih k (x2 - (v9 + 1)) (x3 + 1) hk hf
          · have hf := ifn hf z8
            refine j_aload_n E 0 rfl dX0_slantsCell_34 rfl ?_
            refine j_iload_n E 1 rfl dX0_slantsCell_35 rfl ?_
            refine j_iconst (v := 1) E dX0_slantsCell_36 (by decide) ?_
            refine j_isub E dX0_slantsCell_37 ?_
            refine j_iload_n E 1 rfl dX0_slantsCell_38 rfl ?_
            refine j_iconst (v := 1) E dX0_slantsCell_39 (by decide) ?_
            refine j_isub E dX0_slantsCell_40 ?_
            refine j_iload_n E 2 rfl dX0_slantsCell_41 rfl ?_
            refine j_iadd E dX0_slantsCell_42 ?_
            obtain ⟨k10, hf⟩ := ck_spec hf
            obtain ⟨v11, e12, hf⟩ := bs hf
            refine j_callV (ci := 1) (b := x0) (As := [.int (x2 - 1), .int ((x2 - 1) + x3)]) (rest := []) (v := (some (.long v11))) E (c_X2_value l D ad cy h x0 (x2 - 1) ((x2 - 1) + x3) e12) (mcw E.1.2.2.2.2 uw_1_224 uw_2_200 uw_1_222 uw_1_223 uw_1_4 rfl rfl hd_X2_value ⟨by decide, by decide⟩) rfl k10 rfl rfl (Nat.le_of_ble_eq_true rfl) dX0_slantsCell_43 ⟨Nat.zero_le _, Nat.zero_le _⟩ ?_
            refine j_stk (st' := [.long v11]) rfl ?_
            cases hf
            exact j_lret E hr hlk dX0_slantsCell_46
        · have hf := ifp hf z6
          refine j_iload_n E 2 rfl dX0_slantsCell_23 rfl ?_
          refine j_i2l E dX0_slantsCell_24 ?_
          cases hf
          exact j_lret E hr hlk dX0_slantsCell_25
set_option maxRecDepth 100000 in
set_option maxHeartbeats 4000000 in
theorem c_X0_slantsCell (l : Launch) (D : va_G) (ad : Nat → Nat) (cy : Nat → ClassId) (h : HP) (x0 : Nat) (x1 : Int32) {r : Int64} (hf : f_X0_slantsCell h x0 x1 = some r) : Met l yX0_slantsCell (wsM yX0_slantsCell cX0_slantsCell 4 (some .long)) rmX0_slantsCell (va_Pc [.ref (ad x0), .int x1] (PW D ad cy h)) (QV D ad cy (some (.long r)) h) 0 0 (Aw ad) := by
  refine met_of (own := RX0) (lv := [(0, .ref (ad x0)), (1, .int x1)]) (by decide) rfl (Nat.le_of_ble_eq_true rfl) rfl (fun p e s m args below meth c E hr hlk => ?_)
  unfold f_X0_slantsCell at hf
  refine j_iload_n E 1 rfl dX0_slantsCell_0 rfl ?_
  refine j_istore_n (lv' := [(2, .int x1), (0, .ref (ad x0)), (1, .int x1)]) E dX0_slantsCell_1 rfl (by decide) rfl ?_
  refine j_bipush (v := (-15)) E dX0_slantsCell_2 (by decide) ?_
  refine j_istore_n (lv' := [(3, .int (-15)), (2, .int x1), (0, .ref (ad x0)), (1, .int x1)]) E dX0_slantsCell_4 rfl (by decide) rfl ?_
  refine j_perm (lv' := [(0, .ref (ad x0)), (2, .int x1), (3, .int (-15))]) [2, 1, 0] rfl ?_
  refine w_X0_slantsCell_5 E hr hlk h x0 FU _ x1 (-15) (fun hf => ?_) hf
  refine j_lconst (v := 0) E dX0_slantsCell_62 (by decide) ?_
  cases hf
  exact j_lret E hr hlk dX0_slantsCell_63
noncomputable def f_X0_triplesCell (h : HP) (x0 : Nat) (x1 : Int32) : Option (Int64) :=
  ck 1 h x0 <|
  (f_X2_placeNumber h x0 (x1 / 3)).bind fun v2 =>
  if (x1 - x1 / 3 * 3) = 0 then (
    some (Int32.toInt64 (v2 / 16))
  ) else
  if (x1 - x1 / 3 * 3) = 1 then (
    some (Int32.toInt64 (v2 - v2 / 16 * 16))
  ) else
  (
    ck 1 h x0 <|
    (f_X2_value h x0 (v2 / 16) (v2 - v2 / 16 * 16)).bind fun v7 =>
    some v7
  )
abbrev rmX0_triplesCell : Room := { frames := 3, cells := 0, slots := 0, locals := 68 }
theorem hd_X0_triplesCell : yX0_triplesCell.cls = RX0 ∧ yX0_triplesCell.cls ≠ "java/lang/invoke/MethodHandle" ∧ yX0_triplesCell.cls ≠ "java/lang/invoke/VarHandle" ∧ (parseMethodDescriptor yX0_triplesCell.desc).map (fun d => d.parameters.length) = some 2 := by decide +kernel
set_option maxRecDepth 100000 in
set_option maxHeartbeats 4000000 in
theorem c_X0_triplesCell (l : Launch) (D : va_G) (ad : Nat → Nat) (cy : Nat → ClassId) (h : HP) (x0 : Nat) (x1 : Int32) {r : Int64} (hf : f_X0_triplesCell h x0 x1 = some r) : Met l yX0_triplesCell (wsM yX0_triplesCell cX0_triplesCell 3 (some .long)) rmX0_triplesCell (va_Pc [.ref (ad x0), .int x1] (PW D ad cy h)) (QV D ad cy (some (.long r)) h) 0 0 (Aw ad) := by
  refine met_of (own := RX0) (lv := [(0, .ref (ad x0)), (1, .int x1)]) (by decide) rfl (Nat.le_of_ble_eq_true rfl) rfl (fun p e s m args below meth c E hr hlk => ?_)
  unfold f_X0_triplesCell at hf
  refine j_aload_n E 0 rfl dX0_triplesCell_0 rfl ?_
  refine j_iload_n E 1 rfl dX0_triplesCell_1 rfl ?_
  refine j_iconst (v := 3) E dX0_triplesCell_2 (by decide) ?_
  refine j_idiv E (by decide) dX0_triplesCell_3 ?_
  obtain ⟨k1, hf⟩ := ck_spec hf
  obtain ⟨v2, e3, hf⟩ := bs hf
  refine j_callV (ci := 1) (b := x0) (As := [.int (x1 / 3)]) (rest := []) (v := (some (.int v2))) E (c_X2_placeNumber l D ad cy h x0 (x1 / 3) e3) (mcw E.1.2.2.2.2 uw_2_35 uw_2_199 uw_2_33 uw_2_34 uw_1_4 rfl rfl hd_X2_placeNumber ⟨by decide, by decide⟩) rfl k1 rfl rfl (Nat.le_of_ble_eq_true rfl) dX0_triplesCell_4 ⟨Nat.zero_le _, Nat.zero_le _⟩ ?_
  refine j_stk (st' := [.int v2]) rfl ?_
  refine j_istore_n (lv' := [(2, .int v2), (0, .ref (ad x0)), (1, .int x1)]) E dX0_triplesCell_7 rfl (by decide) rfl ?_
  refine j_iload_n E 2 rfl dX0_triplesCell_8 rfl ?_
  refine j_iconst (v := 3) E dX0_triplesCell_9 (by decide) ?_
  refine j_irem E (by decide) dX0_triplesCell_10 ?_
  by_cases z4 : (x1 - x1 / 3 * 3) = 0
  · have hf := ifp hf z4
    refine j_look (off := 25) (tgt := 36) E dX0_triplesCell_11 (by decide) (by rw [z4]; decide) (by decide) ?_
    refine j_iload_n E 0 rfl dX0_triplesCell_36 rfl ?_
    refine j_bipush (v := 16) E dX0_triplesCell_37 (by decide) ?_
    refine j_idiv E (by decide) dX0_triplesCell_39 ?_
    refine j_i2l E dX0_triplesCell_40 ?_
    cases hf
    exact j_lret E hr hlk dX0_triplesCell_41
  · have hf := ifn hf z4
    by_cases z5 : (x1 - x1 / 3 * 3) = 1
    · have hf := ifp hf z5
      refine j_look (off := 31) (tgt := 42) E dX0_triplesCell_11 (by decide) (by rw [z5]; decide) (by decide) ?_
      refine j_iload_n E 0 rfl dX0_triplesCell_42 rfl ?_
      refine j_bipush (v := 16) E dX0_triplesCell_43 (by decide) ?_
      refine j_irem E (by decide) dX0_triplesCell_45 ?_
      refine j_i2l E dX0_triplesCell_46 ?_
      cases hf
      exact j_lret E hr hlk dX0_triplesCell_47
    · have hf := ifn hf z5
      refine j_look (off := 37) (tgt := 48) E dX0_triplesCell_11 (by decide) (by show Op.lookupswitch.offset [(0, 25), (1, 31)] 37 _ = 37; rw [lv_osw z4 (by decide), lv_osw z5 (by decide)]; rfl) (by decide) ?_
      refine j_aload_n E 1 rfl dX0_triplesCell_48 rfl ?_
      refine j_iload_n E 0 rfl dX0_triplesCell_49 rfl ?_
      refine j_bipush (v := 16) E dX0_triplesCell_50 (by decide) ?_
      refine j_idiv E (by decide) dX0_triplesCell_52 ?_
      refine j_iload_n E 0 rfl dX0_triplesCell_53 rfl ?_
      refine j_bipush (v := 16) E dX0_triplesCell_54 (by decide) ?_
      refine j_irem E (by decide) dX0_triplesCell_56 ?_
      obtain ⟨k6, hf⟩ := ck_spec hf
      obtain ⟨v7, e8, hf⟩ := bs hf
      refine j_callV (ci := 1) (b := x0) (As := [.int (v2 / 16), .int (v2 - v2 / 16 * 16)]) (rest := []) (v := (some (.long v7))) E (c_X2_value l D ad cy h x0 (v2 / 16) (v2 - v2 / 16 * 16) e8) (mcw E.1.2.2.2.2 uw_1_224 uw_2_200 uw_1_222 uw_1_223 uw_1_4 rfl rfl hd_X2_value ⟨by decide, by decide⟩) rfl k6 rfl rfl (Nat.le_of_ble_eq_true rfl) dX0_triplesCell_57 ⟨Nat.zero_le _, Nat.zero_le _⟩ ?_
      refine j_stk (st' := [.long v7]) rfl ?_
      cases hf
      exact j_lret E hr hlk dX0_triplesCell_60
noncomputable def L_X2_becomeTurned_22 (x0 : Nat) (x1 : Nat) (x2 : Int32) : Nat → (HP → Option (HP)) → HP → Int32 → Option (HP)
  | 0, _, _, _ => none
  | n + 1, k, h, x3 =>
      if 16 ≤ x3 then (
        k h
      ) else (
        ck 1 h x1 <|
        (f_X2_keeps h x1 x2 x3).bind fun v9 =>
        if v9 = 0 then (
          L_X2_becomeTurned_22 x0 x1 x2 n k h (x3 + 1)
        ) else (
          ck 1 h x1 <|
          (f_X2_value h x1 x2 x3).bind fun v13 =>
          ck 1 h x0 <|
          (f_X2_put h x0 x3 x2 v13).bind fun h16 =>
          L_X2_becomeTurned_22 x0 x1 x2 n k h16 (x3 + 1)
        )
      )
noncomputable def L_X2_becomeTurned_14 (x0 : Nat) (x1 : Nat) : Nat → (HP → Option (HP)) → HP → Int32 → Option (HP)
  | 0, _, _, _ => none
  | n + 1, k, h, x2 =>
      if 16 ≤ x2 then (
        k h
      ) else (
        L_X2_becomeTurned_22 x0 x1 x2 FU (fun h18 =>
          L_X2_becomeTurned_14 x0 x1 n k h18 (x2 + 1)) h 0
      )
noncomputable def f_X2_becomeTurned (h : HP) (x0 : Nat) (x1 : Nat) : Option (HP) :=
  (gI 1 h x1 1).bind fun v1 =>
  (gI 1 h x1 0).bind fun v2 =>
  ck 1 h x0 <|
  (f_X2_begin h x0 v1 v2).bind fun h4 =>
  L_X2_becomeTurned_14 x0 x1 FU (fun h19 =>
    some h19) h4 0
abbrev rmX2_becomeTurned : Room := { frames := 2, cells := 0, slots := 0, locals := 44 }
theorem hd_X2_becomeTurned : yX2_becomeTurned.cls = RX2 ∧ yX2_becomeTurned.cls ≠ "java/lang/invoke/MethodHandle" ∧ yX2_becomeTurned.cls ≠ "java/lang/invoke/VarHandle" ∧ (parseMethodDescriptor yX2_becomeTurned.desc).map (fun d => d.parameters.length) = some 1 := by decide +kernel
set_option maxRecDepth 100000 in
set_option maxHeartbeats 4000000 in
theorem w_X2_becomeTurned_22 {p : Program} {l : Launch} {e : Env} {s : State} {m : MethodId} {args : Array Value} {below : List Frame} {meth : Method} {c : Code} {D : va_G} {ad : Nat → Nat} {cy : Nat → ClassId} (E : EE p s m args c cX2_becomeTurned 4 (wsM yX2_becomeTurned cX2_becomeTurned 4 none) RX2 D cy) (hr : meth.sig.returnType = none) (hlk : meth.locks = false) {h' : HP} (x0 : Nat) (x1 : Nat) (x2 : Int32) : ∀ (n : Nat) (k : (HP → Option (HP))) (h : HP) (x3 : Int32), (∀ (h : HP), k h = some h' → JJ p l e rmX2_becomeTurned s m args below meth c 0 0 (MQ below (QV D ad cy none h') args s 0 0 (Aw ad)) D ad cy (Aw ad) 4 h [(0, .ref (ad x0)), (1, .ref (ad x1)), (2, .int x2)] 55 []) → L_X2_becomeTurned_22 x0 x1 x2 n k h x3 = some h' → JJ p l e rmX2_becomeTurned s m args below meth c 0 0 (MQ below (QV D ad cy none h') args s 0 0 (Aw ad)) D ad cy (Aw ad) 4 h [(0, .ref (ad x0)), (1, .ref (ad x1)), (2, .int x2), (3, .int x3)] 22 [] := by
  intro n
  induction n with
  | zero => intro k h x3 hk hf; cases hf
  | succ n ih =>
    intro k h x3 hk hf
    unfold L_X2_becomeTurned_22 at hf
    refine j_iload_n E 3 rfl dX2_becomeTurned_22 rfl ?_
    refine j_bipush (v := 16) E dX2_becomeTurned_23 (by decide) ?_
    refine j_icmp_ge (tgt := 55) E dX2_becomeTurned_25 (by decide) (fun z7 => ?_) (fun z7 => ?_)
    · have hf := ifp hf z7
      refine j_perm (lv' := [(0, .ref (ad x0)), (1, .ref (ad x1)), (2, .int x2)]) [0, 1, 2] rfl ?_
      exact hk h hf
    · have hf := ifn hf z7
      refine j_aload_n E 1 rfl dX2_becomeTurned_28 rfl ?_
      refine j_iload_n E 2 rfl dX2_becomeTurned_29 rfl ?_
      refine j_iload_n E 3 rfl dX2_becomeTurned_30 rfl ?_
      obtain ⟨k8, hf⟩ := ck_spec hf
      obtain ⟨v9, e10, hf⟩ := bs hf
      refine j_callV (ci := 1) (b := x1) (As := [.int x2, .int x3]) (rest := []) (v := (some (.int v9))) E (c_X2_keeps l D ad cy h x1 x2 x3 e10) (mcw E.1.2.2.2.2 uw_2_5 uw_2_2 uw_2_3 uw_2_4 uw_1_4 rfl rfl hd_X2_keeps ⟨by decide, by decide⟩) rfl k8 rfl rfl (Nat.le_of_ble_eq_true rfl) dX2_becomeTurned_31 ⟨Nat.zero_le _, Nat.zero_le _⟩ ?_
      refine j_stk (st' := [.int v9]) rfl ?_
      refine j_if_eq (tgt := 49) E dX2_becomeTurned_34 (by decide) (fun z11 => ?_) (fun z11 => ?_)
      · have hf := ifp hf z11
        refine j_iinc (v := (x3 + 1)) (k0 := 3) (lv' := [(3, .int (x3 + 1)), (0, .ref (ad x0)), (1, .ref (ad x1)), (2, .int x2)]) E dX2_becomeTurned_49 rfl (congrArg (fun z => x3 + z) (by decide)) (by decide) rfl ?_
        refine j_goto (tgt := 22) E dX2_becomeTurned_52 (by decide) ?_
        refine j_perm (lv' := [(0, .ref (ad x0)), (1, .ref (ad x1)), (2, .int x2), (3, .int (x3 + 1))]) [1, 2, 3, 0] rfl ?_
        exact ih k h (x3 + 1) hk hf
      · have hf := ifn hf z11
        refine j_aload_n E 0 rfl dX2_becomeTurned_37 rfl ?_
        refine j_iload_n E 3 rfl dX2_becomeTurned_38 rfl ?_
        refine j_iload_n E 2 rfl dX2_becomeTurned_39 rfl ?_
        refine j_aload_n E 1 rfl dX2_becomeTurned_40 rfl ?_
        refine j_iload_n E 2 rfl dX2_becomeTurned_41 rfl ?_
        refine j_iload_n E 3 rfl dX2_becomeTurned_42 rfl ?_
        obtain ⟨k12, hf⟩ := ck_spec hf
        obtain ⟨v13, e14, hf⟩ := bs hf
        refine j_callV (ci := 1) (b := x1) (As := [.int x2, .int x3]) (rest := [.int x2, .int x3, .ref (ad x0)]) (v := (some (.long v13))) E (c_X2_value l D ad cy h x1 x2 x3 e14) (mcw E.1.2.2.2.2 uw_1_224 uw_1_221 uw_1_222 uw_1_223 uw_1_4 rfl rfl hd_X2_value ⟨by decide, by decide⟩) rfl k12 rfl rfl (Nat.le_of_ble_eq_true rfl) dX2_becomeTurned_43 ⟨Nat.zero_le _, Nat.zero_le _⟩ ?_
        refine j_stk (st' := [.long v13, .int x2, .int x3, .ref (ad x0)]) rfl ?_
        obtain ⟨k15, hf⟩ := ck_spec hf
        obtain ⟨h16, e17, hf⟩ := bs hf
        refine j_callV (ci := 1) (b := x0) (As := [.int x3, .int x2, .long v13]) (rest := []) (v := none) E (c_X2_put l D ad cy h x0 x3 x2 v13 e17) (mcw E.1.2.2.2.2 uw_1_229 uw_1_226 uw_1_227 uw_1_228 uw_1_4 rfl rfl hd_X2_put ⟨by decide, by decide⟩) rfl k15 rfl rfl (Nat.le_of_ble_eq_true rfl) dX2_becomeTurned_46 ⟨Nat.zero_le _, Nat.zero_le _⟩ ?_
        refine j_stk (st' := []) rfl ?_
        refine j_iinc (v := (x3 + 1)) (k0 := 3) (lv' := [(3, .int (x3 + 1)), (0, .ref (ad x0)), (1, .ref (ad x1)), (2, .int x2)]) E dX2_becomeTurned_49 rfl (congrArg (fun z => x3 + z) (by decide)) (by decide) rfl ?_
        refine j_goto (tgt := 22) E dX2_becomeTurned_52 (by decide) ?_
        refine j_perm (lv' := [(0, .ref (ad x0)), (1, .ref (ad x1)), (2, .int x2), (3, .int (x3 + 1))]) [1, 2, 3, 0] rfl ?_
        exact ih k h16 (x3 + 1) hk hf
set_option maxRecDepth 100000 in
set_option maxHeartbeats 4000000 in
theorem w_X2_becomeTurned_14 {p : Program} {l : Launch} {e : Env} {s : State} {m : MethodId} {args : Array Value} {below : List Frame} {meth : Method} {c : Code} {D : va_G} {ad : Nat → Nat} {cy : Nat → ClassId} (E : EE p s m args c cX2_becomeTurned 4 (wsM yX2_becomeTurned cX2_becomeTurned 4 none) RX2 D cy) (hr : meth.sig.returnType = none) (hlk : meth.locks = false) {h' : HP} (x0 : Nat) (x1 : Nat) : ∀ (n : Nat) (k : (HP → Option (HP))) (h : HP) (x2 : Int32), (∀ (h : HP), k h = some h' → JJ p l e rmX2_becomeTurned s m args below meth c 0 0 (MQ below (QV D ad cy none h') args s 0 0 (Aw ad)) D ad cy (Aw ad) 4 h [] 61 []) → L_X2_becomeTurned_14 x0 x1 n k h x2 = some h' → JJ p l e rmX2_becomeTurned s m args below meth c 0 0 (MQ below (QV D ad cy none h') args s 0 0 (Aw ad)) D ad cy (Aw ad) 4 h [(0, .ref (ad x0)), (1, .ref (ad x1)), (2, .int x2)] 14 [] := by
  intro n
  induction n with
  | zero => intro k h x2 hk hf; cases hf
  | succ n ih =>
    intro k h x2 hk hf
    unfold L_X2_becomeTurned_14 at hf
    refine j_iload_n E 2 rfl dX2_becomeTurned_14 rfl ?_
    refine j_bipush (v := 16) E dX2_becomeTurned_15 (by decide) ?_
    refine j_icmp_ge (tgt := 61) E dX2_becomeTurned_17 (by decide) (fun z6 => ?_) (fun z6 => ?_)
    · have hf := ifp hf z6
      refine j_perm (lv' := []) [] rfl ?_
      exact hk h hf
    · have hf := ifn hf z6
      refine j_iconst (v := 0) E dX2_becomeTurned_20 (by decide) ?_
      refine j_istore_n (lv' := [(3, .int 0), (0, .ref (ad x0)), (1, .ref (ad x1)), (2, .int x2)]) E dX2_becomeTurned_21 rfl (by decide) rfl ?_
      refine j_perm (lv' := [(0, .ref (ad x0)), (1, .ref (ad x1)), (2, .int x2), (3, .int 0)]) [1, 2, 3, 0] rfl ?_
      refine w_X2_becomeTurned_22 E hr hlk x0 x1 x2 FU _ h 0 (fun h18 hf => ?_) hf
      refine j_iinc (v := (x2 + 1)) (k0 := 2) (lv' := [(2, .int (x2 + 1)), (0, .ref (ad x0)), (1, .ref (ad x1))]) E dX2_becomeTurned_55 rfl (congrArg (fun z => x2 + z) (by decide)) (by decide) rfl ?_
      refine j_goto (tgt := 14) E dX2_becomeTurned_58 (by decide) ?_
      refine j_perm (lv' := [(0, .ref (ad x0)), (1, .ref (ad x1)), (2, .int (x2 + 1))]) [1, 2, 0] rfl ?_
      exact ih k h18 (x2 + 1) hk hf
set_option maxRecDepth 100000 in
set_option maxHeartbeats 4000000 in
theorem c_X2_becomeTurned (l : Launch) (D : va_G) (ad : Nat → Nat) (cy : Nat → ClassId) (h : HP) (x0 : Nat) (x1 : Nat) {h' : HP} (hf : f_X2_becomeTurned h x0 x1 = some h') : Met l yX2_becomeTurned (wsM yX2_becomeTurned cX2_becomeTurned 4 none) rmX2_becomeTurned (va_Pc [.ref (ad x0), .ref (ad x1)] (PW D ad cy h)) (QV D ad cy none h') 0 0 (Aw ad) := by
  refine met_of (own := RX2) (lv := [(0, .ref (ad x0)), (1, .ref (ad x1))]) (by decide) rfl (Nat.le_of_ble_eq_true rfl) rfl (fun p e s m args below meth c E hr hlk => ?_)
  unfold f_X2_becomeTurned at hf
  refine j_aload_n E 0 rfl dX2_becomeTurned_0 rfl ?_
  refine j_aload_n E 1 rfl dX2_becomeTurned_1 rfl ?_
  obtain ⟨v1, ev1, hf⟩ := bs hf
  refine j_getI (ci := 1) (k0 := 1) (T := TX2) (N := 4) E (mI inUX2) rfl (by decide) (mU uw_1_77) ev1 dX2_becomeTurned_2 ?_
  refine j_aload_n E 1 rfl dX2_becomeTurned_5 rfl ?_
  obtain ⟨v2, ev2, hf⟩ := bs hf
  refine j_getI (ci := 1) (k0 := 0) (T := TX2) (N := 4) E (mI inUX2) rfl (by decide) (mU uw_1_73) ev2 dX2_becomeTurned_6 ?_
  obtain ⟨k3, hf⟩ := ck_spec hf
  obtain ⟨h4, e5, hf⟩ := bs hf
  refine j_callV (ci := 1) (b := x0) (As := [.int v1, .int v2]) (rest := []) (v := none) E (c_X2_begin l D ad cy h x0 v1 v2 e5) (mcw E.1.2.2.2.2 uw_1_139 uw_2_78 uw_1_137 uw_1_138 uw_1_4 rfl rfl hd_X2_begin ⟨by decide, by decide⟩) rfl k3 rfl rfl (Nat.le_of_ble_eq_true rfl) dX2_becomeTurned_9 ⟨Nat.zero_le _, Nat.zero_le _⟩ ?_
  refine j_stk (st' := []) rfl ?_
  refine j_iconst (v := 0) E dX2_becomeTurned_12 (by decide) ?_
  refine j_istore_n (lv' := [(2, .int 0), (0, .ref (ad x0)), (1, .ref (ad x1))]) E dX2_becomeTurned_13 rfl (by decide) rfl ?_
  refine j_perm (lv' := [(0, .ref (ad x0)), (1, .ref (ad x1)), (2, .int 0)]) [1, 2, 0] rfl ?_
  refine w_X2_becomeTurned_14 E hr hlk x0 x1 FU _ h4 0 (fun h19 hf => ?_) hf
  cases hf
  exact j_vret E hr hlk dX2_becomeTurned_61
noncomputable def f_X0_cellValue (h : HP) (x0 : Nat) (x1 : Int32) (x2 : Int32) (x3 : Int32) (x4 : Nat) : Option (HP × Int64) :=
  if x1 = 0 then (
    (f_X0_triplesCell h x0 x3).bind fun v2 =>
    some (h, v2)
  ) else
  if x1 = 1 then (
    (f_X0_byRowsCell h x0 x3).bind fun v5 =>
    some (h, v5)
  ) else
  if x1 = 2 then (
    ck 1 h x4 <|
    (f_X2_becomeTurned h x4 x0).bind fun h9 =>
    (f_X0_byRowsCell h9 x4 x3).bind fun v11 =>
    some (h9, v11)
  ) else
  if x1 = 3 then (
    ck 1 h x4 <|
    (f_X2_becomeBlocks h x4 x0 x2).bind fun h15 =>
    (f_X0_blocksCell h15 x0 x4 x2 x3).bind fun v17 =>
    some (h15, v17)
  ) else
  if x1 = 4 then (
    (f_X0_fullCell h x0 x3).bind fun v20 =>
    some (h, v20)
  ) else
  if x1 = 5 then (
    (f_X0_slantsCell h x0 x3).bind fun v23 =>
    some (h, v23)
  ) else
  (
    some (h, 0)
  )
abbrev rmX0_cellValue : Room := { frames := 5, cells := 0, slots := 0, locals := 116 }
theorem hd_X0_cellValue : yX0_cellValue.cls = RX0 ∧ yX0_cellValue.cls ≠ "java/lang/invoke/MethodHandle" ∧ yX0_cellValue.cls ≠ "java/lang/invoke/VarHandle" ∧ (parseMethodDescriptor yX0_cellValue.desc).map (fun d => d.parameters.length) = some 5 := by decide +kernel
set_option maxRecDepth 100000 in
set_option maxHeartbeats 4000000 in
theorem c_X0_cellValue (l : Launch) (D : va_G) (ad : Nat → Nat) (cy : Nat → ClassId) (h : HP) (x0 : Nat) (x1 : Int32) (x2 : Int32) (x3 : Int32) (x4 : Nat) {h' : HP} {r : Int64} (hf : f_X0_cellValue h x0 x1 x2 x3 x4 = some (h', r)) : Met l yX0_cellValue (wsM yX0_cellValue cX0_cellValue 5 (some .long)) rmX0_cellValue (va_Pc [.ref (ad x0), .int x1, .int x2, .int x3, .ref (ad x4)] (PW D ad cy h)) (QV D ad cy (some (.long r)) h') 0 0 (Aw ad) := by
  refine met_of (own := RX0) (lv := [(0, .ref (ad x0)), (1, .int x1), (2, .int x2), (3, .int x3), (4, .ref (ad x4))]) (by decide) rfl (Nat.le_of_ble_eq_true rfl) rfl (fun p e s m args below meth c E hr hlk => ?_)
  unfold f_X0_cellValue at hf
  refine j_iload_n E 1 rfl dX0_cellValue_0 rfl ?_
  by_cases z1 : x1 = 0
  · have hf := ifp hf z1
    refine j_tabIn (off := 39) (tgt := 40) E dX0_cellValue_1 (by rw [z1]; decide) (by rw [z1]; decide) (by rw [z1]; decide) (by decide) ?_
    refine j_aload_n E 0 rfl dX0_cellValue_40 rfl ?_
    refine j_iload_n E 3 rfl dX0_cellValue_41 rfl ?_
    obtain ⟨v2, e3, hf⟩ := bs hf
    refine j_callS (As := [.ref (ad x0), .int x3]) (rest := []) (v := (some (.long v2))) E (c_X0_triplesCell l D ad cy h x0 x3 e3) (mcs E.1.2.2.2.2 uw_2_198 uw_2_196 uw_2_197 uw_1_9 rfl rfl hd_X0_triplesCell ⟨by decide, by decide⟩) rfl rfl (Nat.le_of_ble_eq_true rfl) dX0_cellValue_42 ⟨Nat.zero_le _, Nat.zero_le _⟩ ?_
    refine j_stk (st' := [.long v2]) rfl ?_
    cases hf
    exact j_lret E hr hlk dX0_cellValue_45
  · have hf := ifn hf z1
    by_cases z4 : x1 = 1
    · have hf := ifp hf z4
      refine j_tabIn (off := 45) (tgt := 46) E dX0_cellValue_1 (by rw [z4]; decide) (by rw [z4]; decide) (by rw [z4]; decide) (by decide) ?_
      refine j_aload_n E 0 rfl dX0_cellValue_46 rfl ?_
      refine j_iload_n E 3 rfl dX0_cellValue_47 rfl ?_
      obtain ⟨v5, e6, hf⟩ := bs hf
      refine j_callS (As := [.ref (ad x0), .int x3]) (rest := []) (v := (some (.long v5))) E (c_X0_byRowsCell l D ad cy h x0 x3 e6) (mcs E.1.2.2.2.2 uw_2_203 uw_2_201 uw_2_202 uw_1_9 rfl rfl hd_X0_byRowsCell ⟨by decide, by decide⟩) rfl rfl (Nat.le_of_ble_eq_true rfl) dX0_cellValue_48 ⟨Nat.zero_le _, Nat.zero_le _⟩ ?_
      refine j_stk (st' := [.long v5]) rfl ?_
      cases hf
      exact j_lret E hr hlk dX0_cellValue_51
    · have hf := ifn hf z4
      by_cases z7 : x1 = 2
      · have hf := ifp hf z7
        refine j_tabIn (off := 51) (tgt := 52) E dX0_cellValue_1 (by rw [z7]; decide) (by rw [z7]; decide) (by rw [z7]; decide) (by decide) ?_
        refine j_aload E 4 rfl dX0_cellValue_52 ?_
        refine j_aload_n E 0 rfl dX0_cellValue_54 rfl ?_
        obtain ⟨k8, hf⟩ := ck_spec hf
        obtain ⟨h9, e10, hf⟩ := bs hf
        refine j_callV (ci := 1) (b := x4) (As := [.ref (ad x0)]) (rest := []) (v := none) E (c_X2_becomeTurned l D ad cy h x4 x0 e10) (mcw E.1.2.2.2.2 uw_2_106 uw_2_208 uw_2_104 uw_2_105 uw_1_4 rfl rfl hd_X2_becomeTurned ⟨by decide, by decide⟩) rfl k8 rfl rfl (Nat.le_of_ble_eq_true rfl) dX0_cellValue_55 ⟨Nat.zero_le _, Nat.zero_le _⟩ ?_
        refine j_stk (st' := []) rfl ?_
        refine j_aload E 4 rfl dX0_cellValue_58 ?_
        refine j_iload_n E 3 rfl dX0_cellValue_60 rfl ?_
        obtain ⟨v11, e12, hf⟩ := bs hf
        refine j_callS (As := [.ref (ad x4), .int x3]) (rest := []) (v := (some (.long v11))) E (c_X0_byRowsCell l D ad cy h9 x4 x3 e12) (mcs E.1.2.2.2.2 uw_2_203 uw_2_201 uw_2_202 uw_1_9 rfl rfl hd_X0_byRowsCell ⟨by decide, by decide⟩) rfl rfl (Nat.le_of_ble_eq_true rfl) dX0_cellValue_61 ⟨Nat.zero_le _, Nat.zero_le _⟩ ?_
        refine j_stk (st' := [.long v11]) rfl ?_
        cases hf
        exact j_lret E hr hlk dX0_cellValue_64
      · have hf := ifn hf z7
        by_cases z13 : x1 = 3
        · have hf := ifp hf z13
          refine j_tabIn (off := 64) (tgt := 65) E dX0_cellValue_1 (by rw [z13]; decide) (by rw [z13]; decide) (by rw [z13]; decide) (by decide) ?_
          refine j_aload E 4 rfl dX0_cellValue_65 ?_
          refine j_aload_n E 0 rfl dX0_cellValue_67 rfl ?_
          refine j_iload_n E 2 rfl dX0_cellValue_68 rfl ?_
          obtain ⟨k14, hf⟩ := ck_spec hf
          obtain ⟨h15, e16, hf⟩ := bs hf
          refine j_callV (ci := 1) (b := x4) (As := [.ref (ad x0), .int x2]) (rest := []) (v := none) E (c_X2_becomeBlocks l D ad cy h x4 x0 x2 e16) (mcw E.1.2.2.2.2 uw_2_173 uw_2_170 uw_2_171 uw_2_172 uw_1_4 rfl rfl hd_X2_becomeBlocks ⟨by decide, by decide⟩) rfl k14 rfl rfl (Nat.le_of_ble_eq_true rfl) dX0_cellValue_69 ⟨Nat.zero_le _, Nat.zero_le _⟩ ?_
          refine j_stk (st' := []) rfl ?_
          refine j_aload_n E 0 rfl dX0_cellValue_72 rfl ?_
          refine j_aload E 4 rfl dX0_cellValue_73 ?_
          refine j_iload_n E 2 rfl dX0_cellValue_75 rfl ?_
          refine j_iload_n E 3 rfl dX0_cellValue_76 rfl ?_
          obtain ⟨v17, e18, hf⟩ := bs hf
          refine j_callS (As := [.ref (ad x0), .ref (ad x4), .int x2, .int x3]) (rest := []) (v := (some (.long v17))) E (c_X0_blocksCell l D ad cy h15 x0 x4 x2 x3 e18) (mcs E.1.2.2.2.2 uw_2_211 uw_2_209 uw_2_210 uw_1_9 rfl rfl hd_X0_blocksCell ⟨by decide, by decide⟩) rfl rfl (Nat.le_of_ble_eq_true rfl) dX0_cellValue_77 ⟨Nat.zero_le _, Nat.zero_le _⟩ ?_
          refine j_stk (st' := [.long v17]) rfl ?_
          cases hf
          exact j_lret E hr hlk dX0_cellValue_80
        · have hf := ifn hf z13
          by_cases z19 : x1 = 4
          · have hf := ifp hf z19
            refine j_tabIn (off := 80) (tgt := 81) E dX0_cellValue_1 (by rw [z19]; decide) (by rw [z19]; decide) (by rw [z19]; decide) (by decide) ?_
            refine j_aload_n E 0 rfl dX0_cellValue_81 rfl ?_
            refine j_iload_n E 3 rfl dX0_cellValue_82 rfl ?_
            obtain ⟨v20, e21, hf⟩ := bs hf
            refine j_callS (As := [.ref (ad x0), .int x3]) (rest := []) (v := (some (.long v20))) E (c_X0_fullCell l D ad cy h x0 x3 e21) (mcs E.1.2.2.2.2 uw_2_214 uw_2_212 uw_2_213 uw_1_9 rfl rfl hd_X0_fullCell ⟨by decide, by decide⟩) rfl rfl (Nat.le_of_ble_eq_true rfl) dX0_cellValue_83 ⟨Nat.zero_le _, Nat.zero_le _⟩ ?_
            refine j_stk (st' := [.long v20]) rfl ?_
            cases hf
            exact j_lret E hr hlk dX0_cellValue_86
          · have hf := ifn hf z19
            by_cases z22 : x1 = 5
            · have hf := ifp hf z22
              refine j_tabIn (off := 86) (tgt := 87) E dX0_cellValue_1 (by rw [z22]; decide) (by rw [z22]; decide) (by rw [z22]; decide) (by decide) ?_
              refine j_aload_n E 0 rfl dX0_cellValue_87 rfl ?_
              refine j_iload_n E 3 rfl dX0_cellValue_88 rfl ?_
              obtain ⟨v23, e24, hf⟩ := bs hf
              refine j_callS (As := [.ref (ad x0), .int x3]) (rest := []) (v := (some (.long v23))) E (c_X0_slantsCell l D ad cy h x0 x3 e24) (mcs E.1.2.2.2.2 uw_2_217 uw_2_215 uw_2_216 uw_1_9 rfl rfl hd_X0_slantsCell ⟨by decide, by decide⟩) rfl rfl (Nat.le_of_ble_eq_true rfl) dX0_cellValue_89 ⟨Nat.zero_le _, Nat.zero_le _⟩ ?_
              refine j_stk (st' := [.long v23]) rfl ?_
              cases hf
              exact j_lret E hr hlk dX0_cellValue_92
            · have hf := ifn hf z22
              refine j_tabOut (tgt := 93) E dX0_cellValue_1 (sw_out x1 5 5 rfl (by decide) (fun k hk => match k, hk with | 0, _ => z1 | 1, _ => z4 | 2, _ => z7 | 3, _ => z13 | 4, _ => z19 | 5, _ => z22 | k + 6, hk => absurd hk (by omega))) (by decide) ?_
              refine j_lconst (v := 0) E dX0_cellValue_93 (by decide) ?_
              cases hf
              exact j_lret E hr hlk dX0_cellValue_94
noncomputable def L_X1_sourcesOf_4 (h : HP) (x0 : Nat) (x1 : Int32) : Nat → (Int32 → Option (Int32)) → Int32 → Int32 → Option (Int32)
  | 0, _, _, _ => none
  | n + 1, k, x2, x3 =>
      if 16 ≤ x3 then (
        k x2
      ) else (
        (gR 0 h x0 1).bind fun v2 =>
        (aI h v2 x3).bind fun v3 =>
        (f_X5_hasBit v3 x1).bind fun v4 =>
        if v4 = 0 then (
          L_X1_sourcesOf_4 h x0 x1 n k x2 (x3 + 1)
        ) else (
          L_X1_sourcesOf_4 h x0 x1 n k (x2 ||| (1 <<< (x3 &&& 31))) (x3 + 1)
        )
      )
noncomputable def f_X1_sourcesOf (h : HP) (x0 : Nat) (x1 : Int32) : Option (Int32) :=
  L_X1_sourcesOf_4 h x0 x1 FU (fun x7 =>
    some x7) 0 0
abbrev rmX1_sourcesOf : Room := { frames := 1, cells := 0, slots := 0, locals := 21 }
theorem hd_X1_sourcesOf : yX1_sourcesOf.cls = RX1 ∧ yX1_sourcesOf.cls ≠ "java/lang/invoke/MethodHandle" ∧ yX1_sourcesOf.cls ≠ "java/lang/invoke/VarHandle" ∧ (parseMethodDescriptor yX1_sourcesOf.desc).map (fun d => d.parameters.length) = some 1 := by decide +kernel
set_option maxRecDepth 100000 in
set_option maxHeartbeats 4000000 in
theorem w_X1_sourcesOf_4 {p : Program} {l : Launch} {e : Env} {s : State} {m : MethodId} {args : Array Value} {below : List Frame} {meth : Method} {c : Code} {D : va_G} {ad : Nat → Nat} {cy : Nat → ClassId} (E : EE p s m args c cX1_sourcesOf 4 (wsM yX1_sourcesOf cX1_sourcesOf 4 (some .int)) RX1 D cy) (hr : meth.sig.returnType = (some .int)) (hlk : meth.locks = false) {r : Int32} (h : HP) (x0 : Nat) (x1 : Int32) : ∀ (n : Nat) (k : (Int32 → Option (Int32))) (x2 : Int32) (x3 : Int32), (∀ (x2 : Int32), k x2 = some r → JJ p l e rmX1_sourcesOf s m args below meth c 0 0 (MQ below (QV D ad cy (some (.int r)) h) args s 0 0 (Aw ad)) D ad cy (Aw ad) 4 h [(2, .int x2)] 35 []) → L_X1_sourcesOf_4 h x0 x1 n k x2 x3 = some r → JJ p l e rmX1_sourcesOf s m args below meth c 0 0 (MQ below (QV D ad cy (some (.int r)) h) args s 0 0 (Aw ad)) D ad cy (Aw ad) 4 h [(0, .ref (ad x0)), (1, .int x1), (2, .int x2), (3, .int x3)] 4 [] := by
  intro n
  induction n with
  | zero => intro k x2 x3 hk hf; cases hf
  | succ n ih =>
    intro k x2 x3 hk hf
    unfold L_X1_sourcesOf_4 at hf
    refine j_iload_n E 3 rfl dX1_sourcesOf_4 rfl ?_
    refine j_bipush (v := 16) E dX1_sourcesOf_5 (by decide) ?_
    refine j_icmp_ge (tgt := 35) E dX1_sourcesOf_7 (by decide) (fun z1 => ?_) (fun z1 => ?_)
    · have hf := ifp hf z1
      refine j_perm (lv' := [(2, .int x2)]) [2] rfl ?_
      exact hk x2 hf
    · have hf := ifn hf z1
      refine j_aload_n E 0 rfl dX1_sourcesOf_10 rfl ?_
      obtain ⟨v2, ev2, hf⟩ := bs hf
      refine j_getR (ci := 0) (k0 := 1) (T := TX1) (N := 6) E (mI inUX1) rfl (by decide) (mU uw_1_50) ev2 dX1_sourcesOf_11 ?_
      refine j_iload_n E 3 rfl dX1_sourcesOf_14 rfl ?_
      obtain ⟨v3, ev3, hf⟩ := bs hf
      refine j_aI E ev3 dX1_sourcesOf_15 ?_
      refine j_iload_n E 1 rfl dX1_sourcesOf_16 rfl ?_
      obtain ⟨v4, e5, hf⟩ := bs hf
      refine j_callSN (host := RX5) (As := [.int v3, .int x1]) (rest := []) (v := (some (.int v4))) E (c_X5_hasBit l D ad cy h v3 x1 e5) (mcn E.1.2.2.2.2 E.2.2 8 rfl uw_2_8 uw_2_7 uw_1_1 rfl rfl hd_X5_hasBit ⟨by decide, by decide⟩) rfl rfl (Nat.le_of_ble_eq_true rfl) dX1_sourcesOf_17 ⟨Nat.zero_le _, Nat.zero_le _⟩ ?_
      refine j_stk (st' := [.int v4]) rfl ?_
      refine j_if_eq (tgt := 29) E dX1_sourcesOf_20 (by decide) (fun z6 => ?_) (fun z6 => ?_)
      · have hf := ifp hf z6
        refine j_iinc (v := (x3 + 1)) (k0 := 3) (lv' := [(3, .int (x3 + 1)), (0, .ref (ad x0)), (1, .int x1), (2, .int x2)]) E dX1_sourcesOf_29 rfl (congrArg (fun z => x3 + z) (by decide)) (by decide) rfl ?_
        refine j_goto (tgt := 4) E dX1_sourcesOf_32 (by decide) ?_
        refine j_perm (lv' := [(0, .ref (ad x0)), (1, .int x1), (2, .int x2), (3, .int (x3 + 1))]) [1, 2, 3, 0] rfl ?_
        exact ih k x2 (x3 + 1) hk hf
      · have hf := ifn hf z6
        refine j_iload_n E 2 rfl dX1_sourcesOf_23 rfl ?_
        refine j_iconst (v := 1) E dX1_sourcesOf_24 (by decide) ?_
        refine j_iload_n E 3 rfl dX1_sourcesOf_25 rfl ?_
        refine j_ishl E dX1_sourcesOf_26 ?_
        refine j_ior E dX1_sourcesOf_27 ?_
        refine j_istore_n (lv' := [(2, .int (x2 ||| (1 <<< (x3 &&& 31)))), (0, .ref (ad x0)), (1, .int x1), (3, .int x3)]) E dX1_sourcesOf_28 rfl (by decide) rfl ?_
        refine j_iinc (v := (x3 + 1)) (k0 := 3) (lv' := [(3, .int (x3 + 1)), (2, .int (x2 ||| (1 <<< (x3 &&& 31)))), (0, .ref (ad x0)), (1, .int x1)]) E dX1_sourcesOf_29 rfl (congrArg (fun z => x3 + z) (by decide)) (by decide) rfl ?_
        refine j_goto (tgt := 4) E dX1_sourcesOf_32 (by decide) ?_
        refine j_perm (lv' := [(0, .ref (ad x0)), (1, .int x1), (2, .int (x2 ||| (1 <<< (x3 &&& 31)))), (3, .int (x3 + 1))]) [2, 3, 1, 0] rfl ?_
        exact ih k (x2 ||| (1 <<< (x3 &&& 31))) (x3 + 1) hk hf
set_option maxRecDepth 100000 in
set_option maxHeartbeats 4000000 in
theorem c_X1_sourcesOf (l : Launch) (D : va_G) (ad : Nat → Nat) (cy : Nat → ClassId) (h : HP) (x0 : Nat) (x1 : Int32) {r : Int32} (hf : f_X1_sourcesOf h x0 x1 = some r) : Met l yX1_sourcesOf (wsM yX1_sourcesOf cX1_sourcesOf 4 (some .int)) rmX1_sourcesOf (va_Pc [.ref (ad x0), .int x1] (PW D ad cy h)) (QV D ad cy (some (.int r)) h) 0 0 (Aw ad) := by
  refine met_of (own := RX1) (lv := [(0, .ref (ad x0)), (1, .int x1)]) (by decide) rfl (Nat.le_of_ble_eq_true rfl) rfl (fun p e s m args below meth c E hr hlk => ?_)
  unfold f_X1_sourcesOf at hf
  refine j_iconst (v := 0) E dX1_sourcesOf_0 (by decide) ?_
  refine j_istore_n (lv' := [(2, .int 0), (0, .ref (ad x0)), (1, .int x1)]) E dX1_sourcesOf_1 rfl (by decide) rfl ?_
  refine j_iconst (v := 0) E dX1_sourcesOf_2 (by decide) ?_
  refine j_istore_n (lv' := [(3, .int 0), (2, .int 0), (0, .ref (ad x0)), (1, .int x1)]) E dX1_sourcesOf_3 rfl (by decide) rfl ?_
  refine j_perm (lv' := [(0, .ref (ad x0)), (1, .int x1), (2, .int 0), (3, .int 0)]) [2, 3, 1, 0] rfl ?_
  refine w_X1_sourcesOf_4 E hr hlk h x0 x1 FU _ 0 0 (fun x7 hf => ?_) hf
  refine j_iload_n E 0 rfl dX1_sourcesOf_35 rfl ?_
  cases hf
  exact j_iret E hr hlk dX1_sourcesOf_36
noncomputable def f_X2_columnsOf (h : HP) (x0 : Nat) (x1 : Int32) : Option (Int32) :=
  (f_X5_isLine x1).bind fun v1 =>
  if v1 = 0 then (
    some 0
  ) else (
    (gR 1 h x0 2).bind fun v4 =>
    (aI h v4 x1).bind fun v5 =>
    some v5
  )
abbrev rmX2_columnsOf : Room := { frames := 1, cells := 0, slots := 0, locals := 20 }
theorem hd_X2_columnsOf : yX2_columnsOf.cls = RX2 ∧ yX2_columnsOf.cls ≠ "java/lang/invoke/MethodHandle" ∧ yX2_columnsOf.cls ≠ "java/lang/invoke/VarHandle" ∧ (parseMethodDescriptor yX2_columnsOf.desc).map (fun d => d.parameters.length) = some 1 := by decide +kernel
set_option maxRecDepth 100000 in
set_option maxHeartbeats 4000000 in
theorem c_X2_columnsOf (l : Launch) (D : va_G) (ad : Nat → Nat) (cy : Nat → ClassId) (h : HP) (x0 : Nat) (x1 : Int32) {r : Int32} (hf : f_X2_columnsOf h x0 x1 = some r) : Met l yX2_columnsOf (wsM yX2_columnsOf cX2_columnsOf 2 (some .int)) rmX2_columnsOf (va_Pc [.ref (ad x0), .int x1] (PW D ad cy h)) (QV D ad cy (some (.int r)) h) 0 0 (Aw ad) := by
  refine met_of (own := RX2) (lv := [(0, .ref (ad x0)), (1, .int x1)]) (by decide) rfl (Nat.le_of_ble_eq_true rfl) rfl (fun p e s m args below meth c E hr hlk => ?_)
  unfold f_X2_columnsOf at hf
  refine j_iload_n E 1 rfl dX2_columnsOf_0 rfl ?_
  obtain ⟨v1, e2, hf⟩ := bs hf
  refine j_callSN (host := RX5) (As := [.int x1]) (rest := []) (v := (some (.int v1))) E (c_X5_isLine l D ad cy h x1 e2) (mcn E.1.2.2.2.2 E.2.2 5 rfl uw_1_164 uw_1_163 uw_1_1 rfl rfl hd_X5_isLine ⟨by decide, by decide⟩) rfl rfl (Nat.le_of_ble_eq_true rfl) dX2_columnsOf_1 ⟨Nat.zero_le _, Nat.zero_le _⟩ ?_
  refine j_stk (st' := [.int v1]) rfl ?_
  refine j_if_eq (tgt := 16) E dX2_columnsOf_4 (by decide) (fun z3 => ?_) (fun z3 => ?_)
  · have hf := ifp hf z3
    refine j_iconst (v := 0) E dX2_columnsOf_16 (by decide) ?_
    cases hf
    exact j_iret E hr hlk dX2_columnsOf_17
  · have hf := ifn hf z3
    refine j_aload_n E 0 rfl dX2_columnsOf_7 rfl ?_
    obtain ⟨v4, ev4, hf⟩ := bs hf
    refine j_getR (ci := 1) (k0 := 2) (T := TX2) (N := 4) E (mI inUX2) rfl (by decide) (mU uw_1_80) ev4 dX2_columnsOf_8 ?_
    refine j_iload_n E 1 rfl dX2_columnsOf_11 rfl ?_
    obtain ⟨v5, ev5, hf⟩ := bs hf
    refine j_aI E ev5 dX2_columnsOf_12 ?_
    refine j_goto (tgt := 17) E dX2_columnsOf_13 (by decide) ?_
    cases hf
    exact j_iret E hr hlk dX2_columnsOf_17
noncomputable def L_X1_read_10 (x0 : Nat) (x1 : Nat) : Nat → (HP → Option (HP)) → HP → Int32 → Option (HP)
  | 0, _, _, _ => none
  | n + 1, k, h, x2 =>
      if 16 ≤ x2 then (
        k h
      ) else (
        (gR 0 h x0 1).bind fun v4 =>
        ck 1 h x1 <|
        (f_X2_columnsOf h x1 x2).bind fun v6 =>
        (sI h v4 x2 v6).bind fun h8 =>
        L_X1_read_10 x0 x1 n k h8 (x2 + 1)
      )
noncomputable def L_X1_read_35 (x0 : Nat) : Nat → (HP → Option (HP)) → HP → Int32 → Option (HP)
  | 0, _, _, _ => none
  | n + 1, k, h, x2 =>
      if 16 ≤ x2 then (
        k h
      ) else (
        (gR 0 h x0 2).bind fun v11 =>
        (gR 0 h x0 1).bind fun v12 =>
        (aI h v12 x2).bind fun v13 =>
        ck 0 h x0 <|
        (f_X1_sourcesOf h x0 x2).bind fun v15 =>
        (sI h v11 x2 ((v13 ||| v15) &&& ((1 <<< (x2 &&& 31)) ^^^ (-1)))).bind fun h17 =>
        L_X1_read_35 x0 n k h17 (x2 + 1)
      )
noncomputable def f_X1_read (h : HP) (x0 : Nat) (x1 : Nat) : Option (HP) :=
  (gI 1 h x1 0).bind fun v1 =>
  (pI 0 h x0 0 v1).bind fun h2 =>
  L_X1_read_10 x0 x1 FU (fun h9 =>
    L_X1_read_35 x0 FU (fun h18 =>
      some h18) h9 0) h2 0
abbrev rmX1_read : Room := { frames := 2, cells := 0, slots := 0, locals := 44 }
theorem hd_X1_read : yX1_read.cls = RX1 ∧ yX1_read.cls ≠ "java/lang/invoke/MethodHandle" ∧ yX1_read.cls ≠ "java/lang/invoke/VarHandle" ∧ (parseMethodDescriptor yX1_read.desc).map (fun d => d.parameters.length) = some 1 := by decide +kernel
set_option maxRecDepth 100000 in
set_option maxHeartbeats 4000000 in
theorem w_X1_read_10 {p : Program} {l : Launch} {e : Env} {s : State} {m : MethodId} {args : Array Value} {below : List Frame} {meth : Method} {c : Code} {D : va_G} {ad : Nat → Nat} {cy : Nat → ClassId} (E : EE p s m args c cX1_read 3 (wsM yX1_read cX1_read 3 none) RX1 D cy) (hr : meth.sig.returnType = none) (hlk : meth.locks = false) {h' : HP} (x0 : Nat) (x1 : Nat) : ∀ (n : Nat) (k : (HP → Option (HP))) (h : HP) (x2 : Int32), (∀ (h : HP), k h = some h' → JJ p l e rmX1_read s m args below meth c 0 0 (MQ below (QV D ad cy none h') args s 0 0 (Aw ad)) D ad cy (Aw ad) 3 h [(0, .ref (ad x0))] 33 []) → L_X1_read_10 x0 x1 n k h x2 = some h' → JJ p l e rmX1_read s m args below meth c 0 0 (MQ below (QV D ad cy none h') args s 0 0 (Aw ad)) D ad cy (Aw ad) 3 h [(0, .ref (ad x0)), (1, .ref (ad x1)), (2, .int x2)] 10 [] := by
  intro n
  induction n with
  | zero => intro k h x2 hk hf; cases hf
  | succ n ih =>
    intro k h x2 hk hf
    unfold L_X1_read_10 at hf
    refine j_iload_n E 2 rfl dX1_read_10 rfl ?_
    refine j_bipush (v := 16) E dX1_read_11 (by decide) ?_
    refine j_icmp_ge (tgt := 33) E dX1_read_13 (by decide) (fun z3 => ?_) (fun z3 => ?_)
    · have hf := ifp hf z3
      refine j_perm (lv' := [(0, .ref (ad x0))]) [0] rfl ?_
      exact hk h hf
    · have hf := ifn hf z3
      refine j_aload_n E 0 rfl dX1_read_16 rfl ?_
      obtain ⟨v4, ev4, hf⟩ := bs hf
      refine j_getR (ci := 0) (k0 := 1) (T := TX1) (N := 6) E (mI inUX1) rfl (by decide) (mU uw_1_50) ev4 dX1_read_17 ?_
      refine j_iload_n E 2 rfl dX1_read_20 rfl ?_
      refine j_aload_n E 1 rfl dX1_read_21 rfl ?_
      refine j_iload_n E 2 rfl dX1_read_22 rfl ?_
      obtain ⟨k5, hf⟩ := ck_spec hf
      obtain ⟨v6, e7, hf⟩ := bs hf
      refine j_callV (ci := 1) (b := x1) (As := [.int x2]) (rest := [.int x2, .ref (ad v4)]) (v := (some (.int v6))) E (c_X2_columnsOf l D ad cy h x1 x2 e7) (mcw E.1.2.2.2.2 uw_2_27 uw_3_5 uw_2_25 uw_2_26 uw_1_4 rfl rfl hd_X2_columnsOf ⟨by decide, by decide⟩) rfl k5 rfl rfl (Nat.le_of_ble_eq_true rfl) dX1_read_23 ⟨Nat.zero_le _, Nat.zero_le _⟩ ?_
      refine j_stk (st' := [.int v6, .int x2, .ref (ad v4)]) rfl ?_
      obtain ⟨h8, eh8, hf⟩ := bs hf
      refine j_sI E eh8 dX1_read_26 ?_
      refine j_iinc (v := (x2 + 1)) (k0 := 2) (lv' := [(2, .int (x2 + 1)), (0, .ref (ad x0)), (1, .ref (ad x1))]) E dX1_read_27 rfl (congrArg (fun z => x2 + z) (by decide)) (by decide) rfl ?_
      refine j_goto (tgt := 10) E dX1_read_30 (by decide) ?_
      refine j_perm (lv' := [(0, .ref (ad x0)), (1, .ref (ad x1)), (2, .int (x2 + 1))]) [1, 2, 0] rfl ?_
      exact ih k h8 (x2 + 1) hk hf
set_option maxRecDepth 100000 in
set_option maxHeartbeats 4000000 in
theorem w_X1_read_35 {p : Program} {l : Launch} {e : Env} {s : State} {m : MethodId} {args : Array Value} {below : List Frame} {meth : Method} {c : Code} {D : va_G} {ad : Nat → Nat} {cy : Nat → ClassId} (E : EE p s m args c cX1_read 3 (wsM yX1_read cX1_read 3 none) RX1 D cy) (hr : meth.sig.returnType = none) (hlk : meth.locks = false) {h' : HP} (x0 : Nat) : ∀ (n : Nat) (k : (HP → Option (HP))) (h : HP) (x2 : Int32), (∀ (h : HP), k h = some h' → JJ p l e rmX1_read s m args below meth c 0 0 (MQ below (QV D ad cy none h') args s 0 0 (Aw ad)) D ad cy (Aw ad) 3 h [] 71 []) → L_X1_read_35 x0 n k h x2 = some h' → JJ p l e rmX1_read s m args below meth c 0 0 (MQ below (QV D ad cy none h') args s 0 0 (Aw ad)) D ad cy (Aw ad) 3 h [(0, .ref (ad x0)), (2, .int x2)] 35 [] := by
  intro n
  induction n with
  | zero => intro k h x2 hk hf; cases hf
  | succ n ih =>
    intro k h x2 hk hf
    unfold L_X1_read_35 at hf
    refine j_iload_n E 1 rfl dX1_read_35 rfl ?_
    refine j_bipush (v := 16) E dX1_read_36 (by decide) ?_
    refine j_icmp_ge (tgt := 71) E dX1_read_38 (by decide) (fun z10 => ?_) (fun z10 => ?_)
    · have hf := ifp hf z10
      refine j_perm (lv' := []) [] rfl ?_
      exact hk h hf
    · have hf := ifn hf z10
      refine j_aload_n E 0 rfl dX1_read_41 rfl ?_
      obtain ⟨v11, ev11, hf⟩ := bs hf
      refine j_getR (ci := 0) (k0 := 2) (T := TX1) (N := 6) E (mI inUX1) rfl (by decide) (mU uw_1_51) ev11 dX1_read_42 ?_
      refine j_iload_n E 1 rfl dX1_read_45 rfl ?_
      refine j_aload_n E 0 rfl dX1_read_46 rfl ?_
      obtain ⟨v12, ev12, hf⟩ := bs hf
      refine j_getR (ci := 0) (k0 := 1) (T := TX1) (N := 6) E (mI inUX1) rfl (by decide) (mU uw_1_50) ev12 dX1_read_47 ?_
      refine j_iload_n E 1 rfl dX1_read_50 rfl ?_
      obtain ⟨v13, ev13, hf⟩ := bs hf
      refine j_aI E ev13 dX1_read_51 ?_
      refine j_aload_n E 0 rfl dX1_read_52 rfl ?_
      refine j_iload_n E 1 rfl dX1_read_53 rfl ?_
      obtain ⟨k14, hf⟩ := ck_spec hf
      obtain ⟨v15, e16, hf⟩ := bs hf
      refine j_callV (ci := 0) (b := x0) (As := [.int x2]) (rest := [.int v13, .int x2, .ref (ad v11)]) (v := (some (.int v15))) E (c_X1_sourcesOf l D ad cy h x0 x2 e16) (mcw E.1.2.2.2.2 uw_3_9 uw_3_6 uw_3_8 us_1_7 uw_1_3 rfl rfl hd_X1_sourcesOf ⟨by decide, by decide⟩) rfl k14 rfl rfl (Nat.le_of_ble_eq_true rfl) dX1_read_54 ⟨Nat.zero_le _, Nat.zero_le _⟩ ?_
      refine j_stk (st' := [.int v15, .int v13, .int x2, .ref (ad v11)]) rfl ?_
      refine j_ior E dX1_read_57 ?_
      refine j_iconst (v := 1) E dX1_read_58 (by decide) ?_
      refine j_iload_n E 1 rfl dX1_read_59 rfl ?_
      refine j_ishl E dX1_read_60 ?_
      refine j_iconst (v := (-1)) E dX1_read_61 (by decide) ?_
      refine j_ixor E dX1_read_62 ?_
      refine j_iand E dX1_read_63 ?_
      obtain ⟨h17, eh17, hf⟩ := bs hf
      refine j_sI E eh17 dX1_read_64 ?_
      refine j_iinc (v := (x2 + 1)) (k0 := 1) (lv' := [(2, .int (x2 + 1)), (0, .ref (ad x0))]) E dX1_read_65 rfl (congrArg (fun z => x2 + z) (by decide)) (by decide) rfl ?_
      refine j_goto (tgt := 35) E dX1_read_68 (by decide) ?_
      refine j_perm (lv' := [(0, .ref (ad x0)), (2, .int (x2 + 1))]) [1, 0] rfl ?_
      exact ih k h17 (x2 + 1) hk hf
set_option maxRecDepth 100000 in
set_option maxHeartbeats 4000000 in
theorem c_X1_read (l : Launch) (D : va_G) (ad : Nat → Nat) (cy : Nat → ClassId) (h : HP) (x0 : Nat) (x1 : Nat) {h' : HP} (hf : f_X1_read h x0 x1 = some h') : Met l yX1_read (wsM yX1_read cX1_read 3 none) rmX1_read (va_Pc [.ref (ad x0), .ref (ad x1)] (PW D ad cy h)) (QV D ad cy none h') 0 0 (Aw ad) := by
  refine met_of (own := RX1) (lv := [(0, .ref (ad x0)), (1, .ref (ad x1))]) (by decide) rfl (Nat.le_of_ble_eq_true rfl) rfl (fun p e s m args below meth c E hr hlk => ?_)
  unfold f_X1_read at hf
  refine j_aload_n E 0 rfl dX1_read_0 rfl ?_
  refine j_aload_n E 1 rfl dX1_read_1 rfl ?_
  obtain ⟨v1, ev1, hf⟩ := bs hf
  refine j_getI (ci := 1) (k0 := 0) (T := TX2) (N := 4) E (mI inUX2) rfl (by decide) (mU uw_1_74) ev1 dX1_read_2 ?_
  obtain ⟨h2, eh2, hf⟩ := bs hf
  refine j_putI (ci := 0) (k0 := 0) (T := TX1) (N := 6) E (mI inUX1) rfl (by decide) (mU uw_1_49) tyX1 tyX1_ok nmX1 rfl (by decide +kernel) eh2 dX1_read_5 ?_
  refine j_iconst (v := 0) E dX1_read_8 (by decide) ?_
  refine j_istore_n (lv' := [(2, .int 0), (0, .ref (ad x0)), (1, .ref (ad x1))]) E dX1_read_9 rfl (by decide) rfl ?_
  refine j_perm (lv' := [(0, .ref (ad x0)), (1, .ref (ad x1)), (2, .int 0)]) [1, 2, 0] rfl ?_
  refine w_X1_read_10 E hr hlk x0 x1 FU _ h2 0 (fun h9 hf => ?_) hf
  refine j_iconst (v := 0) E dX1_read_33 (by decide) ?_
  refine j_istore_n (lv' := [(2, .int 0), (0, .ref (ad x0))]) E dX1_read_34 rfl (by decide) rfl ?_
  refine j_perm (lv' := [(0, .ref (ad x0)), (2, .int 0)]) [1, 0] rfl ?_
  refine w_X1_read_35 E hr hlk x0 FU _ h9 0 (fun h18 hf => ?_) hf
  cases hf
  exact j_vret E hr hlk dX1_read_71
noncomputable def f_X5_isSize (x0 : Int32) : Option (Int32) :=
  if x0 < 1 then (
    some 0
  ) else (
    if 16 < x0 then (
      some 0
    ) else (
      some 1
    )
  )
abbrev rmX5_isSize : Room := { frames := 0, cells := 0, slots := 0, locals := 0 }
theorem hd_X5_isSize : yX5_isSize.cls = RX5 ∧ yX5_isSize.cls ≠ "java/lang/invoke/MethodHandle" ∧ yX5_isSize.cls ≠ "java/lang/invoke/VarHandle" ∧ (parseMethodDescriptor yX5_isSize.desc).map (fun d => d.parameters.length) = some 1 := by decide +kernel
set_option maxRecDepth 100000 in
set_option maxHeartbeats 4000000 in
theorem c_X5_isSize (l : Launch) (D : va_G) (ad : Nat → Nat) (cy : Nat → ClassId) (h : HP) (x0 : Int32) {r : Int32} (hf : f_X5_isSize x0 = some r) : Met l yX5_isSize (wsM yX5_isSize cX5_isSize 1 (some .boolean)) rmX5_isSize (va_Pc [.int x0] (PW D ad cy h)) (QV D ad cy (some (.int r)) h) 0 0 (Aw ad) := by
  refine met_of (own := RX5) (lv := [(0, .int x0)]) (by decide) rfl (Nat.le_of_ble_eq_true rfl) rfl (fun p e s m args below meth c E hr hlk => ?_)
  unfold f_X5_isSize at hf
  refine j_iload_n E 0 rfl dX5_isSize_0 rfl ?_
  refine j_iconst (v := 1) E dX5_isSize_1 (by decide) ?_
  refine j_icmp_lt (tgt := 15) E dX5_isSize_2 (by decide) (fun z1 => ?_) (fun z1 => ?_)
  · have hf := ifp hf z1
    refine j_iconst (v := 0) E dX5_isSize_15 (by decide) ?_
    cases hf
    exact j_zret E hr hlk rfl dX5_isSize_16
  · have hf := ifn hf z1
    refine j_iload_n E 0 rfl dX5_isSize_5 rfl ?_
    refine j_bipush (v := 16) E dX5_isSize_6 (by decide) ?_
    refine j_icmp_gt (tgt := 15) E dX5_isSize_8 (by decide) (fun z2 => ?_) (fun z2 => ?_)
    · have hf := ifp hf z2
      refine j_iconst (v := 0) E dX5_isSize_15 (by decide) ?_
      cases hf
      exact j_zret E hr hlk rfl dX5_isSize_16
    · have hf := ifn hf z2
      refine j_iconst (v := 1) E dX5_isSize_11 (by decide) ?_
      refine j_goto (tgt := 16) E dX5_isSize_12 (by decide) ?_
      cases hf
      exact j_zret E hr hlk rfl dX5_isSize_16
noncomputable def f_X1_allNodes (h : HP) (x0 : Nat) : Option (Int32) :=
  (gI 0 h x0 0).bind fun v1 =>
  (f_X5_isSize v1).bind fun v2 =>
  if v2 = 0 then (
    some 0
  ) else (
    (gI 0 h x0 0).bind fun v5 =>
    some ((1 <<< (v5 &&& 31)) - 1)
  )
abbrev rmX1_allNodes : Room := { frames := 1, cells := 0, slots := 0, locals := 20 }
theorem hd_X1_allNodes : yX1_allNodes.cls = RX1 ∧ yX1_allNodes.cls ≠ "java/lang/invoke/MethodHandle" ∧ yX1_allNodes.cls ≠ "java/lang/invoke/VarHandle" ∧ (parseMethodDescriptor yX1_allNodes.desc).map (fun d => d.parameters.length) = some 0 := by decide +kernel
set_option maxRecDepth 100000 in
set_option maxHeartbeats 4000000 in
theorem c_X1_allNodes (l : Launch) (D : va_G) (ad : Nat → Nat) (cy : Nat → ClassId) (h : HP) (x0 : Nat) {r : Int32} (hf : f_X1_allNodes h x0 = some r) : Met l yX1_allNodes (wsM yX1_allNodes cX1_allNodes 1 (some .int)) rmX1_allNodes (va_Pc [.ref (ad x0)] (PW D ad cy h)) (QV D ad cy (some (.int r)) h) 0 0 (Aw ad) := by
  refine met_of (own := RX1) (lv := [(0, .ref (ad x0))]) (by decide) rfl (Nat.le_of_ble_eq_true rfl) rfl (fun p e s m args below meth c E hr hlk => ?_)
  unfold f_X1_allNodes at hf
  refine j_aload_n E 0 rfl dX1_allNodes_0 rfl ?_
  obtain ⟨v1, ev1, hf⟩ := bs hf
  refine j_getI (ci := 0) (k0 := 0) (T := TX1) (N := 6) E (mI inUX1) rfl (by decide) (mU uw_1_49) ev1 dX1_allNodes_1 ?_
  obtain ⟨v2, e3, hf⟩ := bs hf
  refine j_callSN (host := RX5) (As := [.int v1]) (rest := []) (v := (some (.int v2))) E (c_X5_isSize l D ad cy h v1 e3) (mcn E.1.2.2.2.2 E.2.2 9 rfl uw_1_135 uw_1_134 uw_1_1 rfl rfl hd_X5_isSize ⟨by decide, by decide⟩) rfl rfl (Nat.le_of_ble_eq_true rfl) dX1_allNodes_4 ⟨Nat.zero_le _, Nat.zero_le _⟩ ?_
  refine j_stk (st' := [.int v2]) rfl ?_
  refine j_if_eq (tgt := 21) E dX1_allNodes_7 (by decide) (fun z4 => ?_) (fun z4 => ?_)
  · have hf := ifp hf z4
    refine j_iconst (v := 0) E dX1_allNodes_21 (by decide) ?_
    cases hf
    exact j_iret E hr hlk dX1_allNodes_22
  · have hf := ifn hf z4
    refine j_iconst (v := 1) E dX1_allNodes_10 (by decide) ?_
    refine j_aload_n E 0 rfl dX1_allNodes_11 rfl ?_
    obtain ⟨v5, ev5, hf⟩ := bs hf
    refine j_getI (ci := 0) (k0 := 0) (T := TX1) (N := 6) E (mI inUX1) rfl (by decide) (mU uw_1_49) ev5 dX1_allNodes_12 ?_
    refine j_ishl E dX1_allNodes_15 ?_
    refine j_iconst (v := 1) E dX1_allNodes_16 (by decide) ?_
    refine j_isub E dX1_allNodes_17 ?_
    refine j_goto (tgt := 22) E dX1_allNodes_18 (by decide) ?_
    cases hf
    exact j_iret E hr hlk dX1_allNodes_22
noncomputable def L_X1_walkOn_2 (x0 : Nat) : Nat → (HP → Option (HP)) → HP → Int32 → Option (HP)
  | 0, _, _, _ => none
  | n + 1, k, h, x2 =>
      if 16 ≤ x2 then (
        k h
      ) else (
        (gR 0 h x0 5).bind fun v2 =>
        (sJ h v2 x2 0).bind fun h3 =>
        L_X1_walkOn_2 x0 n k h3 (x2 + 1)
      )
noncomputable def L_X1_walkOn_42 (x0 : Nat) (x1 : Nat) (x2 : Int32) : Nat → (HP → Option (HP)) → HP → Int32 → Option (HP)
  | 0, _, _, _ => none
  | n + 1, k, h, x3 =>
      if 16 ≤ x3 then (
        k h
      ) else (
        (gR 0 h x0 5).bind fun v10 =>
        (aJ h v10 x3).bind fun v11 =>
        (gR 0 h x0 4).bind fun v12 =>
        (aJ h v12 x2).bind fun v13 =>
        ck 1 h x1 <|
        (f_X2_value h x1 x2 x3).bind fun v15 =>
        (sJ h v10 x3 (v11 + (v13 * v15))).bind fun h17 =>
        L_X1_walkOn_42 x0 x1 x2 n k h17 (x3 + 1)
      )
noncomputable def L_X1_walkOn_23 (x0 : Nat) (x1 : Nat) : Nat → (HP → Option (HP)) → HP → Int32 → Option (HP)
  | 0, _, _, _ => none
  | n + 1, k, h, x2 =>
      if 16 ≤ x2 then (
        k h
      ) else (
        (gR 0 h x0 4).bind fun v6 =>
        (aJ h v6 x2).bind fun v7 =>
        if (lg_cmp v7 0) = 0 then (
          L_X1_walkOn_23 x0 x1 n k h (x2 + 1)
        ) else (
          L_X1_walkOn_42 x0 x1 x2 FU (fun h18 =>
            L_X1_walkOn_23 x0 x1 n k h18 (x2 + 1)) h 0
        )
      )
noncomputable def f_X1_walkOn (h : HP) (x0 : Nat) (x1 : Nat) : Option (HP) :=
  L_X1_walkOn_2 x0 FU (fun h4 =>
    L_X1_walkOn_23 x0 x1 FU (fun h19 =>
      (gR 0 h19 x0 4).bind fun v20 =>
      (gR 0 h19 x0 5).bind fun v21 =>
      (pR 0 h19 x0 4 (some v21)).bind fun h22 =>
      (pR 0 h22 x0 5 (some v20)).bind fun h23 =>
      some h23) h4 0) h 0
abbrev rmX1_walkOn : Room := { frames := 2, cells := 0, slots := 0, locals := 42 }
theorem hd_X1_walkOn : yX1_walkOn.cls = RX1 ∧ yX1_walkOn.cls ≠ "java/lang/invoke/MethodHandle" ∧ yX1_walkOn.cls ≠ "java/lang/invoke/VarHandle" ∧ (parseMethodDescriptor yX1_walkOn.desc).map (fun d => d.parameters.length) = some 1 := by decide +kernel
set_option maxRecDepth 100000 in
set_option maxHeartbeats 4000000 in
theorem w_X1_walkOn_2 {p : Program} {l : Launch} {e : Env} {s : State} {m : MethodId} {args : Array Value} {below : List Frame} {meth : Method} {c : Code} {D : va_G} {ad : Nat → Nat} {cy : Nat → ClassId} (E : EE p s m args c cX1_walkOn 4 (wsM yX1_walkOn cX1_walkOn 4 none) RX1 D cy) (hr : meth.sig.returnType = none) (hlk : meth.locks = false) {h' : HP} (x0 : Nat) (x1 : Nat) : ∀ (n : Nat) (k : (HP → Option (HP))) (h : HP) (x2 : Int32), (∀ (h : HP), k h = some h' → JJ p l e rmX1_walkOn s m args below meth c 0 0 (MQ below (QV D ad cy none h') args s 0 0 (Aw ad)) D ad cy (Aw ad) 4 h [(0, .ref (ad x0)), (1, .ref (ad x1))] 21 []) → L_X1_walkOn_2 x0 n k h x2 = some h' → JJ p l e rmX1_walkOn s m args below meth c 0 0 (MQ below (QV D ad cy none h') args s 0 0 (Aw ad)) D ad cy (Aw ad) 4 h [(0, .ref (ad x0)), (1, .ref (ad x1)), (2, .int x2)] 2 [] := by
  intro n
  induction n with
  | zero => intro k h x2 hk hf; cases hf
  | succ n ih =>
    intro k h x2 hk hf
    unfold L_X1_walkOn_2 at hf
    refine j_iload_n E 2 rfl dX1_walkOn_2 rfl ?_
    refine j_bipush (v := 16) E dX1_walkOn_3 (by decide) ?_
    refine j_icmp_ge (tgt := 21) E dX1_walkOn_5 (by decide) (fun z1 => ?_) (fun z1 => ?_)
    · have hf := ifp hf z1
      refine j_perm (lv' := [(0, .ref (ad x0)), (1, .ref (ad x1))]) [0, 1] rfl ?_
      exact hk h hf
    · have hf := ifn hf z1
      refine j_aload_n E 0 rfl dX1_walkOn_8 rfl ?_
      obtain ⟨v2, ev2, hf⟩ := bs hf
      refine j_getR (ci := 0) (k0 := 5) (T := TX1) (N := 6) E (mI inUX1) rfl (by decide) (mU uw_1_54) ev2 dX1_walkOn_9 ?_
      refine j_iload_n E 2 rfl dX1_walkOn_12 rfl ?_
      refine j_lconst (v := 0) E dX1_walkOn_13 (by decide) ?_
      obtain ⟨h3, eh3, hf⟩ := bs hf
      refine j_sJ E eh3 dX1_walkOn_14 ?_
      refine j_iinc (v := (x2 + 1)) (k0 := 2) (lv' := [(2, .int (x2 + 1)), (0, .ref (ad x0)), (1, .ref (ad x1))]) E dX1_walkOn_15 rfl (congrArg (fun z => x2 + z) (by decide)) (by decide) rfl ?_
      refine j_goto (tgt := 2) E dX1_walkOn_18 (by decide) ?_
      refine j_perm (lv' := [(0, .ref (ad x0)), (1, .ref (ad x1)), (2, .int (x2 + 1))]) [1, 2, 0] rfl ?_
      exact ih k h3 (x2 + 1) hk hf
set_option maxRecDepth 100000 in
set_option maxHeartbeats 4000000 in
theorem w_X1_walkOn_42 {p : Program} {l : Launch} {e : Env} {s : State} {m : MethodId} {args : Array Value} {below : List Frame} {meth : Method} {c : Code} {D : va_G} {ad : Nat → Nat} {cy : Nat → ClassId} (E : EE p s m args c cX1_walkOn 4 (wsM yX1_walkOn cX1_walkOn 4 none) RX1 D cy) (hr : meth.sig.returnType = none) (hlk : meth.locks = false) {h' : HP} (x0 : Nat) (x1 : Nat) (x2 : Int32) : ∀ (n : Nat) (k : (HP → Option (HP))) (h : HP) (x3 : Int32), (∀ (h : HP), k h = some h' → JJ p l e rmX1_walkOn s m args below meth c 0 0 (MQ below (QV D ad cy none h') args s 0 0 (Aw ad)) D ad cy (Aw ad) 4 h [(0, .ref (ad x0)), (1, .ref (ad x1)), (2, .int x2)] 76 []) → L_X1_walkOn_42 x0 x1 x2 n k h x3 = some h' → JJ p l e rmX1_walkOn s m args below meth c 0 0 (MQ below (QV D ad cy none h') args s 0 0 (Aw ad)) D ad cy (Aw ad) 4 h [(0, .ref (ad x0)), (1, .ref (ad x1)), (2, .int x2), (3, .int x3)] 42 [] := by
  intro n
  induction n with
  | zero => intro k h x3 hk hf; cases hf
  | succ n ih =>
    intro k h x3 hk hf
    unfold L_X1_walkOn_42 at hf
    refine j_iload_n E 3 rfl dX1_walkOn_42 rfl ?_
    refine j_bipush (v := 16) E dX1_walkOn_43 (by decide) ?_
    refine j_icmp_ge (tgt := 76) E dX1_walkOn_45 (by decide) (fun z9 => ?_) (fun z9 => ?_)
    · have hf := ifp hf z9
      refine j_perm (lv' := [(0, .ref (ad x0)), (1, .ref (ad x1)), (2, .int x2)]) [0, 1, 2] rfl ?_
      exact hk h hf
    · have hf := ifn hf z9
      refine j_aload_n E 0 rfl dX1_walkOn_48 rfl ?_
      obtain ⟨v10, ev10, hf⟩ := bs hf
      refine j_getR (ci := 0) (k0 := 5) (T := TX1) (N := 6) E (mI inUX1) rfl (by decide) (mU uw_1_54) ev10 dX1_walkOn_49 ?_
      refine j_iload_n E 3 rfl dX1_walkOn_52 rfl ?_
      refine j_dup2 E dX1_walkOn_53 rfl rfl ?_
      obtain ⟨v11, ev11, hf⟩ := bs hf
      refine j_aJ E ev11 dX1_walkOn_54 ?_
      refine j_aload_n E 0 rfl dX1_walkOn_55 rfl ?_
      obtain ⟨v12, ev12, hf⟩ := bs hf
      refine j_getR (ci := 0) (k0 := 4) (T := TX1) (N := 6) E (mI inUX1) rfl (by decide) (mU uw_1_53) ev12 dX1_walkOn_56 ?_
      refine j_iload_n E 2 rfl dX1_walkOn_59 rfl ?_
      obtain ⟨v13, ev13, hf⟩ := bs hf
      refine j_aJ E ev13 dX1_walkOn_60 ?_
      refine j_aload_n E 1 rfl dX1_walkOn_61 rfl ?_
      refine j_iload_n E 2 rfl dX1_walkOn_62 rfl ?_
      refine j_iload_n E 3 rfl dX1_walkOn_63 rfl ?_
      obtain ⟨k14, hf⟩ := ck_spec hf
      obtain ⟨v15, e16, hf⟩ := bs hf
      refine j_callV (ci := 1) (b := x1) (As := [.int x2, .int x3]) (rest := [.long v13, .long v11, .int x3, .ref (ad v10)]) (v := (some (.long v15))) E (c_X2_value l D ad cy h x1 x2 x3 e16) (mcw E.1.2.2.2.2 uw_1_224 uw_2_235 uw_1_222 uw_1_223 uw_1_4 rfl rfl hd_X2_value ⟨by decide, by decide⟩) rfl k14 rfl rfl (Nat.le_of_ble_eq_true rfl) dX1_walkOn_64 ⟨Nat.zero_le _, Nat.zero_le _⟩ ?_
      refine j_stk (st' := [.long v15, .long v13, .long v11, .int x3, .ref (ad v10)]) rfl ?_
      refine j_lmul E dX1_walkOn_67 ?_
      refine j_ladd E dX1_walkOn_68 ?_
      obtain ⟨h17, eh17, hf⟩ := bs hf
      refine j_sJ E eh17 dX1_walkOn_69 ?_
      refine j_iinc (v := (x3 + 1)) (k0 := 3) (lv' := [(3, .int (x3 + 1)), (0, .ref (ad x0)), (1, .ref (ad x1)), (2, .int x2)]) E dX1_walkOn_70 rfl (congrArg (fun z => x3 + z) (by decide)) (by decide) rfl ?_
      refine j_goto (tgt := 42) E dX1_walkOn_73 (by decide) ?_
      refine j_perm (lv' := [(0, .ref (ad x0)), (1, .ref (ad x1)), (2, .int x2), (3, .int (x3 + 1))]) [1, 2, 3, 0] rfl ?_
      exact ih k h17 (x3 + 1) hk hf
set_option maxRecDepth 100000 in
set_option maxHeartbeats 4000000 in
theorem w_X1_walkOn_23 {p : Program} {l : Launch} {e : Env} {s : State} {m : MethodId} {args : Array Value} {below : List Frame} {meth : Method} {c : Code} {D : va_G} {ad : Nat → Nat} {cy : Nat → ClassId} (E : EE p s m args c cX1_walkOn 4 (wsM yX1_walkOn cX1_walkOn 4 none) RX1 D cy) (hr : meth.sig.returnType = none) (hlk : meth.locks = false) {h' : HP} (x0 : Nat) (x1 : Nat) : ∀ (n : Nat) (k : (HP → Option (HP))) (h : HP) (x2 : Int32), (∀ (h : HP), k h = some h' → JJ p l e rmX1_walkOn s m args below meth c 0 0 (MQ below (QV D ad cy none h') args s 0 0 (Aw ad)) D ad cy (Aw ad) 4 h [(0, .ref (ad x0))] 82 []) → L_X1_walkOn_23 x0 x1 n k h x2 = some h' → JJ p l e rmX1_walkOn s m args below meth c 0 0 (MQ below (QV D ad cy none h') args s 0 0 (Aw ad)) D ad cy (Aw ad) 4 h [(0, .ref (ad x0)), (1, .ref (ad x1)), (2, .int x2)] 23 [] := by
  intro n
  induction n with
  | zero => intro k h x2 hk hf; cases hf
  | succ n ih =>
    intro k h x2 hk hf
    unfold L_X1_walkOn_23 at hf
    refine j_iload_n E 2 rfl dX1_walkOn_23 rfl ?_
    refine j_bipush (v := 16) E dX1_walkOn_24 (by decide) ?_
    refine j_icmp_ge (tgt := 82) E dX1_walkOn_26 (by decide) (fun z5 => ?_) (fun z5 => ?_)
    · have hf := ifp hf z5
      refine j_perm (lv' := [(0, .ref (ad x0))]) [0] rfl ?_
      exact hk h hf
    · have hf := ifn hf z5
      refine j_aload_n E 0 rfl dX1_walkOn_29 rfl ?_
      obtain ⟨v6, ev6, hf⟩ := bs hf
      refine j_getR (ci := 0) (k0 := 4) (T := TX1) (N := 6) E (mI inUX1) rfl (by decide) (mU uw_1_53) ev6 dX1_walkOn_30 ?_
      refine j_iload_n E 2 rfl dX1_walkOn_33 rfl ?_
      obtain ⟨v7, ev7, hf⟩ := bs hf
      refine j_aJ E ev7 dX1_walkOn_34 ?_
      refine j_lconst (v := 0) E dX1_walkOn_35 (by decide) ?_
      refine j_lcmp E dX1_walkOn_36 ?_
      refine j_if_eq (tgt := 76) E dX1_walkOn_37 (by decide) (fun z8 => ?_) (fun z8 => ?_)
      · have hf := ifp hf z8
        refine j_iinc (v := (x2 + 1)) (k0 := 2) (lv' := [(2, .int (x2 + 1)), (0, .ref (ad x0)), (1, .ref (ad x1))]) E dX1_walkOn_76 rfl (congrArg (fun z => x2 + z) (by decide)) (by decide) rfl ?_
        refine j_goto (tgt := 23) E dX1_walkOn_79 (by decide) ?_
        refine j_perm (lv' := [(0, .ref (ad x0)), (1, .ref (ad x1)), (2, .int (x2 + 1))]) [1, 2, 0] rfl ?_
        exact ih k h (x2 + 1) hk hf
      · have hf := ifn hf z8
        refine j_iconst (v := 0) E dX1_walkOn_40 (by decide) ?_
        refine j_istore_n (lv' := [(3, .int 0), (0, .ref (ad x0)), (1, .ref (ad x1)), (2, .int x2)]) E dX1_walkOn_41 rfl (by decide) rfl ?_
        refine j_perm (lv' := [(0, .ref (ad x0)), (1, .ref (ad x1)), (2, .int x2), (3, .int 0)]) [1, 2, 3, 0] rfl ?_
        refine w_X1_walkOn_42 E hr hlk x0 x1 x2 FU _ h 0 (fun h18 hf => ?_) hf
        refine j_iinc (v := (x2 + 1)) (k0 := 2) (lv' := [(2, .int (x2 + 1)), (0, .ref (ad x0)), (1, .ref (ad x1))]) E dX1_walkOn_76 rfl (congrArg (fun z => x2 + z) (by decide)) (by decide) rfl ?_
        refine j_goto (tgt := 23) E dX1_walkOn_79 (by decide) ?_
        refine j_perm (lv' := [(0, .ref (ad x0)), (1, .ref (ad x1)), (2, .int (x2 + 1))]) [1, 2, 0] rfl ?_
        exact ih k h18 (x2 + 1) hk hf
set_option maxRecDepth 100000 in
set_option maxHeartbeats 4000000 in
theorem c_X1_walkOn (l : Launch) (D : va_G) (ad : Nat → Nat) (cy : Nat → ClassId) (h : HP) (x0 : Nat) (x1 : Nat) {h' : HP} (hf : f_X1_walkOn h x0 x1 = some h') : Met l yX1_walkOn (wsM yX1_walkOn cX1_walkOn 4 none) rmX1_walkOn (va_Pc [.ref (ad x0), .ref (ad x1)] (PW D ad cy h)) (QV D ad cy none h') 0 0 (Aw ad) := by
  refine met_of (own := RX1) (lv := [(0, .ref (ad x0)), (1, .ref (ad x1))]) (by decide) rfl (Nat.le_of_ble_eq_true rfl) rfl (fun p e s m args below meth c E hr hlk => ?_)
  unfold f_X1_walkOn at hf
  refine j_iconst (v := 0) E dX1_walkOn_0 (by decide) ?_
  refine j_istore_n (lv' := [(2, .int 0), (0, .ref (ad x0)), (1, .ref (ad x1))]) E dX1_walkOn_1 rfl (by decide) rfl ?_
  refine j_perm (lv' := [(0, .ref (ad x0)), (1, .ref (ad x1)), (2, .int 0)]) [1, 2, 0] rfl ?_
  refine w_X1_walkOn_2 E hr hlk x0 x1 FU _ h 0 (fun h4 hf => ?_) hf
  refine j_iconst (v := 0) E dX1_walkOn_21 (by decide) ?_
  refine j_istore_n (lv' := [(2, .int 0), (0, .ref (ad x0)), (1, .ref (ad x1))]) E dX1_walkOn_22 rfl (by decide) rfl ?_
  refine j_perm (lv' := [(0, .ref (ad x0)), (1, .ref (ad x1)), (2, .int 0)]) [1, 2, 0] rfl ?_
  refine w_X1_walkOn_23 E hr hlk x0 x1 FU _ h4 0 (fun h19 hf => ?_) hf
  refine j_aload_n E 0 rfl dX1_walkOn_82 rfl ?_
  obtain ⟨v20, ev20, hf⟩ := bs hf
  refine j_getR (ci := 0) (k0 := 4) (T := TX1) (N := 6) E (mI inUX1) rfl (by decide) (mU uw_1_53) ev20 dX1_walkOn_83 ?_
  refine j_astore_n (lv' := [(2, .ref (ad v20)), (0, .ref (ad x0))]) E dX1_walkOn_86 rfl (by decide) rfl ?_
  refine j_aload_n E 1 rfl dX1_walkOn_87 rfl ?_
  refine j_aload_n E 1 rfl dX1_walkOn_88 rfl ?_
  obtain ⟨v21, ev21, hf⟩ := bs hf
  refine j_getR (ci := 0) (k0 := 5) (T := TX1) (N := 6) E (mI inUX1) rfl (by decide) (mU uw_1_54) ev21 dX1_walkOn_89 ?_
  obtain ⟨h22, eh22, hf⟩ := bs hf
  refine j_putR (ci := 0) (k0 := 4) (T := TX1) (N := 6) E (mI inUX1) rfl (by decide) (mU uw_1_53) tyX1 tyX1_ok nmX1 rfl (tyX1_ok 4 (by decide)) (Or.inr ⟨_, rfl⟩) eh22 dX1_walkOn_92 ?_
  refine j_aload_n E 1 rfl dX1_walkOn_95 rfl ?_
  refine j_aload_n E 0 rfl dX1_walkOn_96 rfl ?_
  obtain ⟨h23, eh23, hf⟩ := bs hf
  refine j_putR (ci := 0) (k0 := 5) (T := TX1) (N := 6) E (mI inUX1) rfl (by decide) (mU uw_1_54) tyX1 tyX1_ok nmX1 rfl (tyX1_ok 5 (by decide)) (Or.inr ⟨_, rfl⟩) eh23 dX1_walkOn_97 ?_
  cases hf
  exact j_vret E hr hlk dX1_walkOn_100
