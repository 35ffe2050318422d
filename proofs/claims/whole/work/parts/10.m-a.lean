noncomputable def f_X0_isBlockSide (x0 : Int32) : Option (Int32) :=
  if x0 < 1 then (
    some 0
  ) else (
    if 4 < x0 then (
      some 0
    ) else (
      some 1
    )
  )
abbrev rmX0_isBlockSide : Room := { frames := 0, cells := 0, slots := 0, locals := 0 }
theorem hd_X0_isBlockSide : yX0_isBlockSide.cls = RX0 ∧ yX0_isBlockSide.cls ≠ "java/lang/invoke/MethodHandle" ∧ yX0_isBlockSide.cls ≠ "java/lang/invoke/VarHandle" ∧ (parseMethodDescriptor yX0_isBlockSide.desc).map (fun d => d.parameters.length) = some 1 := by decide +kernel
set_option maxRecDepth 100000 in
set_option maxHeartbeats 4000000 in
theorem c_X0_isBlockSide (l : Launch) (D : va_G) (ad : Nat → Nat) (cy : Nat → ClassId) (h : HP) (x0 : Int32) {r : Int32} (hf : f_X0_isBlockSide x0 = some r) : Met l yX0_isBlockSide (wsM yX0_isBlockSide cX0_isBlockSide 1 (some .boolean)) rmX0_isBlockSide (va_Pc [.int x0] (PW D ad cy h)) (QV D ad cy (some (.int r)) h) 0 0 (Aw ad) := by
  refine met_of (own := RX0) (lv := [(0, .int x0)]) (by decide) rfl (Nat.le_of_ble_eq_true rfl) rfl (fun p e s m args below meth c E hr hlk => ?_)
  unfold f_X0_isBlockSide at hf
  refine j_iload_n E 0 rfl dX0_isBlockSide_0 rfl ?_
  refine j_iconst (v := 1) E dX0_isBlockSide_1 (by decide) ?_
  refine j_icmp_lt (tgt := 14) E dX0_isBlockSide_2 (by decide) (fun z1 => ?_) (fun z1 => ?_)
  · have hf := ifp hf z1
    refine j_iconst (v := 0) E dX0_isBlockSide_14 (by decide) ?_
    cases hf
    exact j_zret E hr hlk rfl dX0_isBlockSide_15
  · have hf := ifn hf z1
    refine j_iload_n E 0 rfl dX0_isBlockSide_5 rfl ?_
    refine j_iconst (v := 4) E dX0_isBlockSide_6 (by decide) ?_
    refine j_icmp_gt (tgt := 14) E dX0_isBlockSide_7 (by decide) (fun z2 => ?_) (fun z2 => ?_)
    · have hf := ifp hf z2
      refine j_iconst (v := 0) E dX0_isBlockSide_14 (by decide) ?_
      cases hf
      exact j_zret E hr hlk rfl dX0_isBlockSide_15
    · have hf := ifn hf z2
      refine j_iconst (v := 1) E dX0_isBlockSide_10 (by decide) ?_
      refine j_goto (tgt := 15) E dX0_isBlockSide_11 (by decide) ?_
      cases hf
      exact j_zret E hr hlk rfl dX0_isBlockSide_15
noncomputable def f_X0_isForm (x0 : Int32) (x1 : Int32) : Option (Int32) :=
  if x0 < 0 then (
    some 0
  ) else (
    if 5 < x0 then (
      some 0
    ) else (
      if x0 = 3 then (
        (f_X0_isBlockSide x1).bind fun v4 =>
        if v4 = 0 then (
          some 0
        ) else (
          some 1
        )
      ) else (
        some 1
      )
    )
  )
abbrev rmX0_isForm : Room := { frames := 1, cells := 0, slots := 0, locals := 20 }
theorem hd_X0_isForm : yX0_isForm.cls = RX0 ∧ yX0_isForm.cls ≠ "java/lang/invoke/MethodHandle" ∧ yX0_isForm.cls ≠ "java/lang/invoke/VarHandle" ∧ (parseMethodDescriptor yX0_isForm.desc).map (fun d => d.parameters.length) = some 2 := by decide +kernel
set_option maxRecDepth 100000 in
set_option maxHeartbeats 4000000 in
theorem c_X0_isForm (l : Launch) (D : va_G) (ad : Nat → Nat) (cy : Nat → ClassId) (h : HP) (x0 : Int32) (x1 : Int32) {r : Int32} (hf : f_X0_isForm x0 x1 = some r) : Met l yX0_isForm (wsM yX0_isForm cX0_isForm 2 (some .boolean)) rmX0_isForm (va_Pc [.int x0, .int x1] (PW D ad cy h)) (QV D ad cy (some (.int r)) h) 0 0 (Aw ad) := by
  refine met_of (own := RX0) (lv := [(0, .int x0), (1, .int x1)]) (by decide) rfl (Nat.le_of_ble_eq_true rfl) rfl (fun p e s m args below meth c E hr hlk => ?_)
  unfold f_X0_isForm at hf
  refine j_iload_n E 0 rfl dX0_isForm_0 rfl ?_
  refine j_if_lt (tgt := 25) E dX0_isForm_1 (by decide) (fun z1 => ?_) (fun z1 => ?_)
  · have hf := ifp hf z1
    refine j_iconst (v := 0) E dX0_isForm_25 (by decide) ?_
    cases hf
    exact j_zret E hr hlk rfl dX0_isForm_26
  · have hf := ifn hf z1
    refine j_iload_n E 0 rfl dX0_isForm_4 rfl ?_
    refine j_iconst (v := 5) E dX0_isForm_5 (by decide) ?_
    refine j_icmp_gt (tgt := 25) E dX0_isForm_6 (by decide) (fun z2 => ?_) (fun z2 => ?_)
    · have hf := ifp hf z2
      refine j_iconst (v := 0) E dX0_isForm_25 (by decide) ?_
      cases hf
      exact j_zret E hr hlk rfl dX0_isForm_26
    · have hf := ifn hf z2
      refine j_iload_n E 0 rfl dX0_isForm_9 rfl ?_
      refine j_iconst (v := 3) E dX0_isForm_10 (by decide) ?_
      refine j_icmp_ne (tgt := 21) E dX0_isForm_11 (by decide) (fun z3 => ?_) (fun z3 => ?_)
      · have hf := ifn hf z3
        refine j_iconst (v := 1) E dX0_isForm_21 (by decide) ?_
        refine j_goto (tgt := 26) E dX0_isForm_22 (by decide) ?_
        cases hf
        exact j_zret E hr hlk rfl dX0_isForm_26
      · have hf := ifp hf z3
        refine j_iload_n E 1 rfl dX0_isForm_14 rfl ?_
        obtain ⟨v4, e5, hf⟩ := bs hf
        refine j_callS (As := [.int x1]) (rest := []) (v := (some (.int v4))) E (c_X0_isBlockSide l D ad cy h x1 e5) (mcs E.1.2.2.2.2 uw_2_165 uw_2_163 uw_2_164 uw_1_9 rfl rfl hd_X0_isBlockSide ⟨by decide, by decide⟩) rfl rfl (Nat.le_of_ble_eq_true rfl) dX0_isForm_15 ⟨Nat.zero_le _, Nat.zero_le _⟩ ?_
        refine j_stk (st' := [.int v4]) rfl ?_
        refine j_if_eq (tgt := 25) E dX0_isForm_18 (by decide) (fun z6 => ?_) (fun z6 => ?_)
        · have hf := ifp hf z6
          refine j_iconst (v := 0) E dX0_isForm_25 (by decide) ?_
          cases hf
          exact j_zret E hr hlk rfl dX0_isForm_26
        · have hf := ifn hf z6
          refine j_iconst (v := 1) E dX0_isForm_21 (by decide) ?_
          refine j_goto (tgt := 26) E dX0_isForm_22 (by decide) ?_
          cases hf
          exact j_zret E hr hlk rfl dX0_isForm_26
noncomputable def f_J6_bitCount_0f7a4 (x0 : Int32) : Option (Int32) :=
  some ((((((((x0 - (((Int32.toUInt32 x0 >>> (Int32.toUInt32 1 &&& Int32.toUInt32 31)).toInt32) &&& 1431655765)) &&& 858993459) + (((Int32.toUInt32 (x0 - (((Int32.toUInt32 x0 >>> (Int32.toUInt32 1 &&& Int32.toUInt32 31)).toInt32) &&& 1431655765)) >>> (Int32.toUInt32 2 &&& Int32.toUInt32 31)).toInt32) &&& 858993459)) + ((Int32.toUInt32 (((x0 - (((Int32.toUInt32 x0 >>> (Int32.toUInt32 1 &&& Int32.toUInt32 31)).toInt32) &&& 1431655765)) &&& 858993459) + (((Int32.toUInt32 (x0 - (((Int32.toUInt32 x0 >>> (Int32.toUInt32 1 &&& Int32.toUInt32 31)).toInt32) &&& 1431655765)) >>> (Int32.toUInt32 2 &&& Int32.toUInt32 31)).toInt32) &&& 858993459)) >>> (Int32.toUInt32 4 &&& Int32.toUInt32 31)).toInt32)) &&& 252645135) + ((Int32.toUInt32 (((((x0 - (((Int32.toUInt32 x0 >>> (Int32.toUInt32 1 &&& Int32.toUInt32 31)).toInt32) &&& 1431655765)) &&& 858993459) + (((Int32.toUInt32 (x0 - (((Int32.toUInt32 x0 >>> (Int32.toUInt32 1 &&& Int32.toUInt32 31)).toInt32) &&& 1431655765)) >>> (Int32.toUInt32 2 &&& Int32.toUInt32 31)).toInt32) &&& 858993459)) + ((Int32.toUInt32 (((x0 - (((Int32.toUInt32 x0 >>> (Int32.toUInt32 1 &&& Int32.toUInt32 31)).toInt32) &&& 1431655765)) &&& 858993459) + (((Int32.toUInt32 (x0 - (((Int32.toUInt32 x0 >>> (Int32.toUInt32 1 &&& Int32.toUInt32 31)).toInt32) &&& 1431655765)) >>> (Int32.toUInt32 2 &&& Int32.toUInt32 31)).toInt32) &&& 858993459)) >>> (Int32.toUInt32 4 &&& Int32.toUInt32 31)).toInt32)) &&& 252645135) >>> (Int32.toUInt32 8 &&& Int32.toUInt32 31)).toInt32)) + ((Int32.toUInt32 ((((((x0 - (((Int32.toUInt32 x0 >>> (Int32.toUInt32 1 &&& Int32.toUInt32 31)).toInt32) &&& 1431655765)) &&& 858993459) + (((Int32.toUInt32 (x0 - (((Int32.toUInt32 x0 >>> (Int32.toUInt32 1 &&& Int32.toUInt32 31)).toInt32) &&& 1431655765)) >>> (Int32.toUInt32 2 &&& Int32.toUInt32 31)).toInt32) &&& 858993459)) + ((Int32.toUInt32 (((x0 - (((Int32.toUInt32 x0 >>> (Int32.toUInt32 1 &&& Int32.toUInt32 31)).toInt32) &&& 1431655765)) &&& 858993459) + (((Int32.toUInt32 (x0 - (((Int32.toUInt32 x0 >>> (Int32.toUInt32 1 &&& Int32.toUInt32 31)).toInt32) &&& 1431655765)) >>> (Int32.toUInt32 2 &&& Int32.toUInt32 31)).toInt32) &&& 858993459)) >>> (Int32.toUInt32 4 &&& Int32.toUInt32 31)).toInt32)) &&& 252645135) + ((Int32.toUInt32 (((((x0 - (((Int32.toUInt32 x0 >>> (Int32.toUInt32 1 &&& Int32.toUInt32 31)).toInt32) &&& 1431655765)) &&& 858993459) + (((Int32.toUInt32 (x0 - (((Int32.toUInt32 x0 >>> (Int32.toUInt32 1 &&& Int32.toUInt32 31)).toInt32) &&& 1431655765)) >>> (Int32.toUInt32 2 &&& Int32.toUInt32 31)).toInt32) &&& 858993459)) + ((Int32.toUInt32 (((x0 - (((Int32.toUInt32 x0 >>> (Int32.toUInt32 1 &&& Int32.toUInt32 31)).toInt32) &&& 1431655765)) &&& 858993459) + (((Int32.toUInt32 (x0 - (((Int32.toUInt32 x0 >>> (Int32.toUInt32 1 &&& Int32.toUInt32 31)).toInt32) &&& 1431655765)) >>> (Int32.toUInt32 2 &&& Int32.toUInt32 31)).toInt32) &&& 858993459)) >>> (Int32.toUInt32 4 &&& Int32.toUInt32 31)).toInt32)) &&& 252645135) >>> (Int32.toUInt32 8 &&& Int32.toUInt32 31)).toInt32)) >>> (Int32.toUInt32 16 &&& Int32.toUInt32 31)).toInt32)) &&& 63)
abbrev rmJ6_bitCount_0f7a4 : Room := { frames := 0, cells := 0, slots := 0, locals := 0 }
theorem hd_J6_bitCount_0f7a4 : yJ6_bitCount_0f7a4.cls = RJ6 ∧ yJ6_bitCount_0f7a4.cls ≠ "java/lang/invoke/MethodHandle" ∧ yJ6_bitCount_0f7a4.cls ≠ "java/lang/invoke/VarHandle" ∧ (parseMethodDescriptor yJ6_bitCount_0f7a4.desc).map (fun d => d.parameters.length) = some 1 := by decide +kernel
set_option maxRecDepth 100000 in
set_option maxHeartbeats 4000000 in
theorem c_J6_bitCount_0f7a4 (l : Launch) (D : va_G) (ad : Nat → Nat) (cy : Nat → ClassId) (h : HP) (x0 : Int32) {r : Int32} (hf : f_J6_bitCount_0f7a4 x0 = some r) : Met l yJ6_bitCount_0f7a4 (wsM yJ6_bitCount_0f7a4 cJ6_bitCount_0f7a4 1 (some .int)) rmJ6_bitCount_0f7a4 (va_Pc [.int x0] (PW D ad cy h)) (QV D ad cy (some (.int r)) h) 0 0 (Aw ad) := by
  refine met_of (own := RJ6) (lv := [(0, .int x0)]) (by decide) rfl (Nat.le_of_ble_eq_true rfl) rfl (fun p e s m args below meth c E hr hlk => ?_)
  unfold f_J6_bitCount_0f7a4 at hf
  refine j_iload_n E 0 rfl dJ6_bitCount_0f7a4_0 rfl ?_
  refine j_iload_n E 0 rfl dJ6_bitCount_0f7a4_1 rfl ?_
  refine j_iconst (v := 1) E dJ6_bitCount_0f7a4_2 (by decide) ?_
  refine j_iushr E dJ6_bitCount_0f7a4_3 ?_
  refine j_ldcw (v := 1431655765) E (mU uw_1_155) dJ6_bitCount_0f7a4_4 ?_
  refine j_iand E dJ6_bitCount_0f7a4_7 ?_
  refine j_isub E dJ6_bitCount_0f7a4_8 ?_
  refine j_istore_n (lv' := [(0, .int (x0 - (((Int32.toUInt32 x0 >>> (Int32.toUInt32 1 &&& Int32.toUInt32 31)).toInt32) &&& 1431655765)))]) E dJ6_bitCount_0f7a4_9 rfl (by decide) rfl ?_
  refine j_iload_n E 0 rfl dJ6_bitCount_0f7a4_10 rfl ?_
  refine j_ldcw (v := 858993459) E (mU uw_1_156) dJ6_bitCount_0f7a4_11 ?_
  refine j_iand E dJ6_bitCount_0f7a4_14 ?_
  refine j_iload_n E 0 rfl dJ6_bitCount_0f7a4_15 rfl ?_
  refine j_iconst (v := 2) E dJ6_bitCount_0f7a4_16 (by decide) ?_
  refine j_iushr E dJ6_bitCount_0f7a4_17 ?_
  refine j_ldcw (v := 858993459) E (mU uw_1_156) dJ6_bitCount_0f7a4_18 ?_
  refine j_iand E dJ6_bitCount_0f7a4_21 ?_
  refine j_iadd E dJ6_bitCount_0f7a4_22 ?_
  refine j_istore_n (lv' := [(0, .int (((x0 - (((Int32.toUInt32 x0 >>> (Int32.toUInt32 1 &&& Int32.toUInt32 31)).toInt32) &&& 1431655765)) &&& 858993459) + (((Int32.toUInt32 (x0 - (((Int32.toUInt32 x0 >>> (Int32.toUInt32 1 &&& Int32.toUInt32 31)).toInt32) &&& 1431655765)) >>> (Int32.toUInt32 2 &&& Int32.toUInt32 31)).toInt32) &&& 858993459)))]) E dJ6_bitCount_0f7a4_23 rfl (by decide) rfl ?_
  refine j_iload_n E 0 rfl dJ6_bitCount_0f7a4_24 rfl ?_
  refine j_iload_n E 0 rfl dJ6_bitCount_0f7a4_25 rfl ?_
  refine j_iconst (v := 4) E dJ6_bitCount_0f7a4_26 (by decide) ?_
  refine j_iushr E dJ6_bitCount_0f7a4_27 ?_
  refine j_iadd E dJ6_bitCount_0f7a4_28 ?_
  refine j_ldcw (v := 252645135) E (mU uw_1_157) dJ6_bitCount_0f7a4_29 ?_
  refine j_iand E dJ6_bitCount_0f7a4_32 ?_
  refine j_istore_n (lv' := [(0, .int (((((x0 - (((Int32.toUInt32 x0 >>> (Int32.toUInt32 1 &&& Int32.toUInt32 31)).toInt32) &&& 1431655765)) &&& 858993459) + (((Int32.toUInt32 (x0 - (((Int32.toUInt32 x0 >>> (Int32.toUInt32 1 &&& Int32.toUInt32 31)).toInt32) &&& 1431655765)) >>> (Int32.toUInt32 2 &&& Int32.toUInt32 31)).toInt32) &&& 858993459)) + ((Int32.toUInt32 (((x0 - (((Int32.toUInt32 x0 >>> (Int32.toUInt32 1 &&& Int32.toUInt32 31)).toInt32) &&& 1431655765)) &&& 858993459) + (((Int32.toUInt32 (x0 - (((Int32.toUInt32 x0 >>> (Int32.toUInt32 1 &&& Int32.toUInt32 31)).toInt32) &&& 1431655765)) >>> (Int32.toUInt32 2 &&& Int32.toUInt32 31)).toInt32) &&& 858993459)) >>> (Int32.toUInt32 4 &&& Int32.toUInt32 31)).toInt32)) &&& 252645135))]) E dJ6_bitCount_0f7a4_33 rfl (by decide) rfl ?_
  refine j_iload_n E 0 rfl dJ6_bitCount_0f7a4_34 rfl ?_
  refine j_iload_n E 0 rfl dJ6_bitCount_0f7a4_35 rfl ?_
  refine j_bipush (v := 8) E dJ6_bitCount_0f7a4_36 (by decide) ?_
  refine j_iushr E dJ6_bitCount_0f7a4_38 ?_
  refine j_iadd E dJ6_bitCount_0f7a4_39 ?_
  refine j_istore_n (lv' := [(0, .int ((((((x0 - (((Int32.toUInt32 x0 >>> (Int32.toUInt32 1 &&& Int32.toUInt32 31)).toInt32) &&& 1431655765)) &&& 858993459) + (((Int32.toUInt32 (x0 - (((Int32.toUInt32 x0 >>> (Int32.toUInt32 1 &&& Int32.toUInt32 31)).toInt32) &&& 1431655765)) >>> (Int32.toUInt32 2 &&& Int32.toUInt32 31)).toInt32) &&& 858993459)) + ((Int32.toUInt32 (((x0 - (((Int32.toUInt32 x0 >>> (Int32.toUInt32 1 &&& Int32.toUInt32 31)).toInt32) &&& 1431655765)) &&& 858993459) + (((Int32.toUInt32 (x0 - (((Int32.toUInt32 x0 >>> (Int32.toUInt32 1 &&& Int32.toUInt32 31)).toInt32) &&& 1431655765)) >>> (Int32.toUInt32 2 &&& Int32.toUInt32 31)).toInt32) &&& 858993459)) >>> (Int32.toUInt32 4 &&& Int32.toUInt32 31)).toInt32)) &&& 252645135) + ((Int32.toUInt32 (((((x0 - (((Int32.toUInt32 x0 >>> (Int32.toUInt32 1 &&& Int32.toUInt32 31)).toInt32) &&& 1431655765)) &&& 858993459) + (((Int32.toUInt32 (x0 - (((Int32.toUInt32 x0 >>> (Int32.toUInt32 1 &&& Int32.toUInt32 31)).toInt32) &&& 1431655765)) >>> (Int32.toUInt32 2 &&& Int32.toUInt32 31)).toInt32) &&& 858993459)) + ((Int32.toUInt32 (((x0 - (((Int32.toUInt32 x0 >>> (Int32.toUInt32 1 &&& Int32.toUInt32 31)).toInt32) &&& 1431655765)) &&& 858993459) + (((Int32.toUInt32 (x0 - (((Int32.toUInt32 x0 >>> (Int32.toUInt32 1 &&& Int32.toUInt32 31)).toInt32) &&& 1431655765)) >>> (Int32.toUInt32 2 &&& Int32.toUInt32 31)).toInt32) &&& 858993459)) >>> (Int32.toUInt32 4 &&& Int32.toUInt32 31)).toInt32)) &&& 252645135) >>> (Int32.toUInt32 8 &&& Int32.toUInt32 31)).toInt32)))]) E dJ6_bitCount_0f7a4_40 rfl (by decide) rfl ?_
  refine j_iload_n E 0 rfl dJ6_bitCount_0f7a4_41 rfl ?_
  refine j_iload_n E 0 rfl dJ6_bitCount_0f7a4_42 rfl ?_
  refine j_bipush (v := 16) E dJ6_bitCount_0f7a4_43 (by decide) ?_
  refine j_iushr E dJ6_bitCount_0f7a4_45 ?_
  refine j_iadd E dJ6_bitCount_0f7a4_46 ?_
  refine j_istore_n (lv' := [(0, .int (((((((x0 - (((Int32.toUInt32 x0 >>> (Int32.toUInt32 1 &&& Int32.toUInt32 31)).toInt32) &&& 1431655765)) &&& 858993459) + (((Int32.toUInt32 (x0 - (((Int32.toUInt32 x0 >>> (Int32.toUInt32 1 &&& Int32.toUInt32 31)).toInt32) &&& 1431655765)) >>> (Int32.toUInt32 2 &&& Int32.toUInt32 31)).toInt32) &&& 858993459)) + ((Int32.toUInt32 (((x0 - (((Int32.toUInt32 x0 >>> (Int32.toUInt32 1 &&& Int32.toUInt32 31)).toInt32) &&& 1431655765)) &&& 858993459) + (((Int32.toUInt32 (x0 - (((Int32.toUInt32 x0 >>> (Int32.toUInt32 1 &&& Int32.toUInt32 31)).toInt32) &&& 1431655765)) >>> (Int32.toUInt32 2 &&& Int32.toUInt32 31)).toInt32) &&& 858993459)) >>> (Int32.toUInt32 4 &&& Int32.toUInt32 31)).toInt32)) &&& 252645135) + ((Int32.toUInt32 (((((x0 - (((Int32.toUInt32 x0 >>> (Int32.toUInt32 1 &&& Int32.toUInt32 31)).toInt32) &&& 1431655765)) &&& 858993459) + (((Int32.toUInt32 (x0 - (((Int32.toUInt32 x0 >>> (Int32.toUInt32 1 &&& Int32.toUInt32 31)).toInt32) &&& 1431655765)) >>> (Int32.toUInt32 2 &&& Int32.toUInt32 31)).toInt32) &&& 858993459)) + ((Int32.toUInt32 (((x0 - (((Int32.toUInt32 x0 >>> (Int32.toUInt32 1 &&& Int32.toUInt32 31)).toInt32) &&& 1431655765)) &&& 858993459) + (((Int32.toUInt32 (x0 - (((Int32.toUInt32 x0 >>> (Int32.toUInt32 1 &&& Int32.toUInt32 31)).toInt32) &&& 1431655765)) >>> (Int32.toUInt32 2 &&& Int32.toUInt32 31)).toInt32) &&& 858993459)) >>> (Int32.toUInt32 4 &&& Int32.toUInt32 31)).toInt32)) &&& 252645135) >>> (Int32.toUInt32 8 &&& Int32.toUInt32 31)).toInt32)) + ((Int32.toUInt32 ((((((x0 - (((Int32.toUInt32 x0 >>> (Int32.toUInt32 1 &&& Int32.toUInt32 31)).toInt32) &&& 1431655765)) &&& 858993459) + (((Int32.toUInt32 (x0 - (((Int32.toUInt32 x0 >>> (Int32.toUInt32 1 &&& Int32.toUInt32 31)).toInt32) &&& 1431655765)) >>> (Int32.toUInt32 2 &&& Int32.toUInt32 31)).toInt32) &&& 858993459)) + ((Int32.toUInt32 (((x0 - (((Int32.toUInt32 x0 >>> (Int32.toUInt32 1 &&& Int32.toUInt32 31)).toInt32) &&& 1431655765)) &&& 858993459) + (((Int32.toUInt32 (x0 - (((Int32.toUInt32 x0 >>> (Int32.toUInt32 1 &&& Int32.toUInt32 31)).toInt32) &&& 1431655765)) >>> (Int32.toUInt32 2 &&& Int32.toUInt32 31)).toInt32) &&& 858993459)) >>> (Int32.toUInt32 4 &&& Int32.toUInt32 31)).toInt32)) &&& 252645135) + ((Int32.toUInt32 (((((x0 - (((Int32.toUInt32 x0 >>> (Int32.toUInt32 1 &&& Int32.toUInt32 31)).toInt32) &&& 1431655765)) &&& 858993459) + (((Int32.toUInt32 (x0 - (((Int32.toUInt32 x0 >>> (Int32.toUInt32 1 &&& Int32.toUInt32 31)).toInt32) &&& 1431655765)) >>> (Int32.toUInt32 2 &&& Int32.toUInt32 31)).toInt32) &&& 858993459)) + ((Int32.toUInt32 (((x0 - (((Int32.toUInt32 x0 >>> (Int32.toUInt32 1 &&& Int32.toUInt32 31)).toInt32) &&& 1431655765)) &&& 858993459) + (((Int32.toUInt32 (x0 - (((Int32.toUInt32 x0 >>> (Int32.toUInt32 1 &&& Int32.toUInt32 31)).toInt32) &&& 1431655765)) >>> (Int32.toUInt32 2 &&& Int32.toUInt32 31)).toInt32) &&& 858993459)) >>> (Int32.toUInt32 4 &&& Int32.toUInt32 31)).toInt32)) &&& 252645135) >>> (Int32.toUInt32 8 &&& Int32.toUInt32 31)).toInt32)) >>> (Int32.toUInt32 16 &&& Int32.toUInt32 31)).toInt32)))]) E dJ6_bitCount_0f7a4_47 rfl (by decide) rfl ?_
  refine j_iload_n E 0 rfl dJ6_bitCount_0f7a4_48 rfl ?_
  refine j_bipush (v := 63) E dJ6_bitCount_0f7a4_49 (by decide) ?_
  refine j_iand E dJ6_bitCount_0f7a4_51 ?_
  cases hf
  exact j_iret E hr hlk dJ6_bitCount_0f7a4_52
noncomputable def L_X2_keptAhead_4 (h : HP) (x0 : Nat) (x1 : Int32) : Nat → (Int32 → Option (Int32)) → Int32 → Int32 → Option (Int32)
  | 0, _, _, _ => none
  | n + 1, k, x2, x3 =>
      if 16 ≤ x3 then (
        k x2
      ) else (
        if x1 ≤ x3 then (
          k x2
        ) else (
          (gR 1 h x0 2).bind fun v3 =>
          (aI h v3 x3).bind fun v4 =>
          (f_J6_bitCount_0f7a4 v4).bind fun v5 =>
          L_X2_keptAhead_4 h x0 x1 n k (x2 + v5) (x3 + 1)
        )
      )
noncomputable def f_X2_keptAhead (h : HP) (x0 : Nat) (x1 : Int32) : Option (Int32) :=
  L_X2_keptAhead_4 h x0 x1 FU (fun x7 =>
    some x7) 0 0
abbrev rmX2_keptAhead : Room := { frames := 1, cells := 0, slots := 0, locals := 20 }
theorem hd_X2_keptAhead : yX2_keptAhead.cls = RX2 ∧ yX2_keptAhead.cls ≠ "java/lang/invoke/MethodHandle" ∧ yX2_keptAhead.cls ≠ "java/lang/invoke/VarHandle" ∧ (parseMethodDescriptor yX2_keptAhead.desc).map (fun d => d.parameters.length) = some 1 := by decide +kernel
set_option maxRecDepth 100000 in
set_option maxHeartbeats 4000000 in
theorem w_X2_keptAhead_4 {p : Program} {l : Launch} {e : Env} {s : State} {m : MethodId} {args : Array Value} {below : List Frame} {meth : Method} {c : Code} {D : va_G} {ad : Nat → Nat} {cy : Nat → ClassId} (E : EE p s m args c cX2_keptAhead 4 (wsM yX2_keptAhead cX2_keptAhead 4 (some .int)) RX2 D cy) (hr : meth.sig.returnType = (some .int)) (hlk : meth.locks = false) {r : Int32} (h : HP) (x0 : Nat) (x1 : Int32) : ∀ (n : Nat) (k : (Int32 → Option (Int32))) (x2 : Int32) (x3 : Int32), (∀ (x2 : Int32), k x2 = some r → JJ p l e rmX2_keptAhead s m args below meth c 0 0 (MQ below (QV D ad cy (some (.int r)) h) args s 0 0 (Aw ad)) D ad cy (Aw ad) 4 h [(2, .int x2)] 33 []) → L_X2_keptAhead_4 h x0 x1 n k x2 x3 = some r → JJ p l e rmX2_keptAhead s m args below meth c 0 0 (MQ below (QV D ad cy (some (.int r)) h) args s 0 0 (Aw ad)) D ad cy (Aw ad) 4 h [(0, .ref (ad x0)), (1, .int x1), (2, .int x2), (3, .int x3)] 4 [] := by
  intro n
  induction n with
  | zero => intro k x2 x3 hk hf; cases hf
  | succ n ih =>
    intro k x2 x3 hk hf
    unfold L_X2_keptAhead_4 at hf
    refine j_iload_n E 3 rfl dX2_keptAhead_4 rfl ?_
    refine j_bipush (v := 16) E dX2_keptAhead_5 (by decide) ?_
    refine j_icmp_ge (tgt := 33) E dX2_keptAhead_7 (by decide) (fun z1 => ?_) (fun z1 => ?_)
    · have hf := ifp hf z1
      refine j_perm (lv' := [(2, .int x2)]) [2] rfl ?_
      exact hk x2 hf
    · have hf := ifn hf z1
      refine j_iload_n E 3 rfl dX2_keptAhead_10 rfl ?_
      refine j_iload_n E 1 rfl dX2_keptAhead_11 rfl ?_
      refine j_icmp_ge (tgt := 33) E dX2_keptAhead_12 (by decide) (fun z2 => ?_) (fun z2 => ?_)
      · have hf := ifp hf z2
        refine j_perm (lv' := [(2, .int x2)]) [2] rfl ?_
        exact hk x2 hf
      · have hf := ifn hf z2
        refine j_iload_n E 2 rfl dX2_keptAhead_15 rfl ?_
        refine j_aload_n E 0 rfl dX2_keptAhead_16 rfl ?_
        obtain ⟨v3, ev3, hf⟩ := bs hf
        refine j_getR (ci := 1) (k0 := 2) (T := TX2) (N := 4) E (mI inUX2) rfl (by decide) (mU uw_1_80) ev3 dX2_keptAhead_17 ?_
        refine j_iload_n E 3 rfl dX2_keptAhead_20 rfl ?_
        obtain ⟨v4, ev4, hf⟩ := bs hf
        refine j_aI E ev4 dX2_keptAhead_21 ?_
        obtain ⟨v5, e6, hf⟩ := bs hf
        refine j_callS (As := [.int v4]) (rest := [.int x2]) (v := (some (.int v5))) E (c_J6_bitCount_0f7a4 l D ad cy h v4 e6) (mcs E.1.2.2.2.2 uw_1_154 uw_1_152 uw_1_153 uw_1_7 rfl rfl hd_J6_bitCount_0f7a4 ⟨by decide, by decide⟩) rfl rfl (Nat.le_of_ble_eq_true rfl) dX2_keptAhead_22 ⟨Nat.zero_le _, Nat.zero_le _⟩ ?_
        refine j_stk (st' := [.int v5, .int x2]) rfl ?_
        refine j_iadd E dX2_keptAhead_25 ?_
        refine j_istore_n (lv' := [(2, .int (x2 + v5)), (0, .ref (ad x0)), (1, .int x1), (3, .int x3)]) E dX2_keptAhead_26 rfl (by decide) rfl ?_
        refine j_iinc (v := (x3 + 1)) (k0 := 3) (lv' := [(3, .int (x3 + 1)), (2, .int (x2 + v5)), (0, .ref (ad x0)), (1, .int x1)]) E dX2_keptAhead_27 rfl (congrArg (fun z => x3 + z) (by decide)) (by decide) rfl ?_
        refine j_goto (tgt := 4) E dX2_keptAhead_30 (by decide) ?_
        refine j_perm (lv' := [(0, .ref (ad x0)), (1, .int x1), (2, .int (x2 + v5)), (3, .int (x3 + 1))]) [2, 3, 1, 0] rfl ?_
        exact ih k (x2 + v5) (x3 + 1) hk hf
set_option maxRecDepth 100000 in
set_option maxHeartbeats 4000000 in
theorem c_X2_keptAhead (l : Launch) (D : va_G) (ad : Nat → Nat) (cy : Nat → ClassId) (h : HP) (x0 : Nat) (x1 : Int32) {r : Int32} (hf : f_X2_keptAhead h x0 x1 = some r) : Met l yX2_keptAhead (wsM yX2_keptAhead cX2_keptAhead 4 (some .int)) rmX2_keptAhead (va_Pc [.ref (ad x0), .int x1] (PW D ad cy h)) (QV D ad cy (some (.int r)) h) 0 0 (Aw ad) := by
  refine met_of (own := RX2) (lv := [(0, .ref (ad x0)), (1, .int x1)]) (by decide) rfl (Nat.le_of_ble_eq_true rfl) rfl (fun p e s m args below meth c E hr hlk => ?_)
  unfold f_X2_keptAhead at hf
  refine j_iconst (v := 0) E dX2_keptAhead_0 (by decide) ?_
  refine j_istore_n (lv' := [(2, .int 0), (0, .ref (ad x0)), (1, .int x1)]) E dX2_keptAhead_1 rfl (by decide) rfl ?_
  refine j_iconst (v := 0) E dX2_keptAhead_2 (by decide) ?_
  refine j_istore_n (lv' := [(3, .int 0), (2, .int 0), (0, .ref (ad x0)), (1, .int x1)]) E dX2_keptAhead_3 rfl (by decide) rfl ?_
  refine j_perm (lv' := [(0, .ref (ad x0)), (1, .int x1), (2, .int 0), (3, .int 0)]) [2, 3, 1, 0] rfl ?_
  refine w_X2_keptAhead_4 E hr hlk h x0 x1 FU _ 0 0 (fun x7 hf => ?_) hf
  refine j_iload_n E 0 rfl dX2_keptAhead_33 rfl ?_
  cases hf
  exact j_iret E hr hlk dX2_keptAhead_34
noncomputable def f_X2_keptCount (h : HP) (x0 : Nat) : Option (Int32) :=
  ck 1 h x0 <|
  (f_X2_keptAhead h x0 16).bind fun v2 =>
  some v2
abbrev rmX2_keptCount : Room := { frames := 2, cells := 0, slots := 0, locals := 43 }
theorem hd_X2_keptCount : yX2_keptCount.cls = RX2 ∧ yX2_keptCount.cls ≠ "java/lang/invoke/MethodHandle" ∧ yX2_keptCount.cls ≠ "java/lang/invoke/VarHandle" ∧ (parseMethodDescriptor yX2_keptCount.desc).map (fun d => d.parameters.length) = some 0 := by decide +kernel
set_option maxRecDepth 100000 in
set_option maxHeartbeats 4000000 in
theorem c_X2_keptCount (l : Launch) (D : va_G) (ad : Nat → Nat) (cy : Nat → ClassId) (h : HP) (x0 : Nat) {r : Int32} (hf : f_X2_keptCount h x0 = some r) : Met l yX2_keptCount (wsM yX2_keptCount cX2_keptCount 1 (some .int)) rmX2_keptCount (va_Pc [.ref (ad x0)] (PW D ad cy h)) (QV D ad cy (some (.int r)) h) 0 0 (Aw ad) := by
  refine met_of (own := RX2) (lv := [(0, .ref (ad x0))]) (by decide) rfl (Nat.le_of_ble_eq_true rfl) rfl (fun p e s m args below meth c E hr hlk => ?_)
  unfold f_X2_keptCount at hf
  refine j_aload_n E 0 rfl dX2_keptCount_0 rfl ?_
  refine j_bipush (v := 16) E dX2_keptCount_1 (by decide) ?_
  obtain ⟨k1, hf⟩ := ck_spec hf
  obtain ⟨v2, e3, hf⟩ := bs hf
  refine j_callV (ci := 1) (b := x0) (As := [.int 16]) (rest := []) (v := (some (.int v2))) E (c_X2_keptAhead l D ad cy h x0 16 e3) (mcw E.1.2.2.2.2 uw_1_151 uw_1_148 uw_1_149 uw_1_150 uw_1_4 rfl rfl hd_X2_keptAhead ⟨by decide, by decide⟩) rfl k1 rfl rfl (Nat.le_of_ble_eq_true rfl) dX2_keptCount_3 ⟨Nat.zero_le _, Nat.zero_le _⟩ ?_
  refine j_stk (st' := [.int v2]) rfl ?_
  cases hf
  exact j_iret E hr hlk dX2_keptCount_6
noncomputable def f_X0_headLength (h : HP) (x0 : Nat) : Option (Int32) :=
  (gI 1 h x0 0).bind fun v1 =>
  ck 1 h x0 <|
  (f_X2_keptCount h x0).bind fun v3 =>
  some ((v1 + 1) + v3)
abbrev rmX0_headLength : Room := { frames := 3, cells := 0, slots := 0, locals := 63 }
theorem hd_X0_headLength : yX0_headLength.cls = RX0 ∧ yX0_headLength.cls ≠ "java/lang/invoke/MethodHandle" ∧ yX0_headLength.cls ≠ "java/lang/invoke/VarHandle" ∧ (parseMethodDescriptor yX0_headLength.desc).map (fun d => d.parameters.length) = some 1 := by decide +kernel
set_option maxRecDepth 100000 in
set_option maxHeartbeats 4000000 in
theorem c_X0_headLength (l : Launch) (D : va_G) (ad : Nat → Nat) (cy : Nat → ClassId) (h : HP) (x0 : Nat) {r : Int32} (hf : f_X0_headLength h x0 = some r) : Met l yX0_headLength (wsM yX0_headLength cX0_headLength 1 (some .int)) rmX0_headLength (va_Pc [.ref (ad x0)] (PW D ad cy h)) (QV D ad cy (some (.int r)) h) 0 0 (Aw ad) := by
  refine met_of (own := RX0) (lv := [(0, .ref (ad x0))]) (by decide) rfl (Nat.le_of_ble_eq_true rfl) rfl (fun p e s m args below meth c E hr hlk => ?_)
  unfold f_X0_headLength at hf
  refine j_aload_n E 0 rfl dX0_headLength_0 rfl ?_
  obtain ⟨v1, ev1, hf⟩ := bs hf
  refine j_getI (ci := 1) (k0 := 0) (T := TX2) (N := 4) E (mI inUX2) rfl (by decide) (mU uw_1_75) ev1 dX0_headLength_1 ?_
  refine j_iconst (v := 1) E dX0_headLength_4 (by decide) ?_
  refine j_iadd E dX0_headLength_5 ?_
  refine j_aload_n E 0 rfl dX0_headLength_6 rfl ?_
  obtain ⟨k2, hf⟩ := ck_spec hf
  obtain ⟨v3, e4, hf⟩ := bs hf
  refine j_callV (ci := 1) (b := x0) (As := []) (rest := [.int (v1 + 1)]) (v := (some (.int v3))) E (c_X2_keptCount l D ad cy h x0 e4) (mcw E.1.2.2.2.2 uw_1_147 uw_2_169 uw_1_145 uw_1_146 uw_1_4 rfl rfl hd_X2_keptCount ⟨by decide, by decide⟩) rfl k2 rfl rfl (Nat.le_of_ble_eq_true rfl) dX0_headLength_7 ⟨Nat.zero_le _, Nat.zero_le _⟩ ?_
  refine j_stk (st' := [.int v3, .int (v1 + 1)]) rfl ?_
  refine j_iadd E dX0_headLength_10 ?_
  cases hf
  exact j_iret E hr hlk dX0_headLength_11
noncomputable def f_X5_hasBit (x0 : Int32) (x1 : Int32) : Option (Int32) :=
  if ((x0 >>> (x1 &&& 31)) &&& 1) = 0 then (
    some 0
  ) else (
    some 1
  )
abbrev rmX5_hasBit : Room := { frames := 0, cells := 0, slots := 0, locals := 0 }
theorem hd_X5_hasBit : yX5_hasBit.cls = RX5 ∧ yX5_hasBit.cls ≠ "java/lang/invoke/MethodHandle" ∧ yX5_hasBit.cls ≠ "java/lang/invoke/VarHandle" ∧ (parseMethodDescriptor yX5_hasBit.desc).map (fun d => d.parameters.length) = some 2 := by decide +kernel
set_option maxRecDepth 100000 in
set_option maxHeartbeats 4000000 in
theorem c_X5_hasBit (l : Launch) (D : va_G) (ad : Nat → Nat) (cy : Nat → ClassId) (h : HP) (x0 : Int32) (x1 : Int32) {r : Int32} (hf : f_X5_hasBit x0 x1 = some r) : Met l yX5_hasBit (wsM yX5_hasBit cX5_hasBit 2 (some .boolean)) rmX5_hasBit (va_Pc [.int x0, .int x1] (PW D ad cy h)) (QV D ad cy (some (.int r)) h) 0 0 (Aw ad) := by
  refine met_of (own := RX5) (lv := [(0, .int x0), (1, .int x1)]) (by decide) rfl (Nat.le_of_ble_eq_true rfl) rfl (fun p e s m args below meth c E hr hlk => ?_)
  unfold f_X5_hasBit at hf
  refine j_iload_n E 0 rfl dX5_hasBit_0 rfl ?_
  refine j_iload_n E 1 rfl dX5_hasBit_1 rfl ?_
  refine j_ishr E dX5_hasBit_2 ?_
  refine j_iconst (v := 1) E dX5_hasBit_3 (by decide) ?_
  refine j_iand E dX5_hasBit_4 ?_
  refine j_if_eq (tgt := 12) E dX5_hasBit_5 (by decide) (fun z1 => ?_) (fun z1 => ?_)
  · have hf := ifp hf z1
    refine j_iconst (v := 0) E dX5_hasBit_12 (by decide) ?_
    cases hf
    exact j_zret E hr hlk rfl dX5_hasBit_13
  · have hf := ifn hf z1
    refine j_iconst (v := 1) E dX5_hasBit_8 (by decide) ?_
    refine j_goto (tgt := 13) E dX5_hasBit_9 (by decide) ?_
    cases hf
    exact j_zret E hr hlk rfl dX5_hasBit_13
noncomputable def f_X5_isLine (x0 : Int32) : Option (Int32) :=
  if x0 < 0 then (
    some 0
  ) else (
    if 16 ≤ x0 then (
      some 0
    ) else (
      some 1
    )
  )
abbrev rmX5_isLine : Room := { frames := 0, cells := 0, slots := 0, locals := 0 }
theorem hd_X5_isLine : yX5_isLine.cls = RX5 ∧ yX5_isLine.cls ≠ "java/lang/invoke/MethodHandle" ∧ yX5_isLine.cls ≠ "java/lang/invoke/VarHandle" ∧ (parseMethodDescriptor yX5_isLine.desc).map (fun d => d.parameters.length) = some 1 := by decide +kernel
set_option maxRecDepth 100000 in
set_option maxHeartbeats 4000000 in
theorem c_X5_isLine (l : Launch) (D : va_G) (ad : Nat → Nat) (cy : Nat → ClassId) (h : HP) (x0 : Int32) {r : Int32} (hf : f_X5_isLine x0 = some r) : Met l yX5_isLine (wsM yX5_isLine cX5_isLine 1 (some .boolean)) rmX5_isLine (va_Pc [.int x0] (PW D ad cy h)) (QV D ad cy (some (.int r)) h) 0 0 (Aw ad) := by
  refine met_of (own := RX5) (lv := [(0, .int x0)]) (by decide) rfl (Nat.le_of_ble_eq_true rfl) rfl (fun p e s m args below meth c E hr hlk => ?_)
  unfold f_X5_isLine at hf
  refine j_iload_n E 0 rfl dX5_isLine_0 rfl ?_
  refine j_if_lt (tgt := 14) E dX5_isLine_1 (by decide) (fun z1 => ?_) (fun z1 => ?_)
  · have hf := ifp hf z1
    refine j_iconst (v := 0) E dX5_isLine_14 (by decide) ?_
    cases hf
    exact j_zret E hr hlk rfl dX5_isLine_15
  · have hf := ifn hf z1
    refine j_iload_n E 0 rfl dX5_isLine_4 rfl ?_
    refine j_bipush (v := 16) E dX5_isLine_5 (by decide) ?_
    refine j_icmp_ge (tgt := 14) E dX5_isLine_7 (by decide) (fun z2 => ?_) (fun z2 => ?_)
    · have hf := ifp hf z2
      refine j_iconst (v := 0) E dX5_isLine_14 (by decide) ?_
      cases hf
      exact j_zret E hr hlk rfl dX5_isLine_15
    · have hf := ifn hf z2
      refine j_iconst (v := 1) E dX5_isLine_10 (by decide) ?_
      refine j_goto (tgt := 15) E dX5_isLine_11 (by decide) ?_
      cases hf
      exact j_zret E hr hlk rfl dX5_isLine_15
noncomputable def f_X2_keeps (h : HP) (x0 : Nat) (x1 : Int32) (x2 : Int32) : Option (Int32) :=
  (f_X5_isLine x1).bind fun v1 =>
  if v1 = 0 then (
    some 0
  ) else (
    (f_X5_isLine x2).bind fun v4 =>
    if v4 = 0 then (
      some 0
    ) else (
      (gR 1 h x0 2).bind fun v7 =>
      (aI h v7 x1).bind fun v8 =>
      (f_X5_hasBit v8 x2).bind fun v9 =>
      if v9 = 0 then (
        some 0
      ) else (
        some 1
      )
    )
  )
abbrev rmX2_keeps : Room := { frames := 1, cells := 0, slots := 0, locals := 21 }
theorem hd_X2_keeps : yX2_keeps.cls = RX2 ∧ yX2_keeps.cls ≠ "java/lang/invoke/MethodHandle" ∧ yX2_keeps.cls ≠ "java/lang/invoke/VarHandle" ∧ (parseMethodDescriptor yX2_keeps.desc).map (fun d => d.parameters.length) = some 2 := by decide +kernel
set_option maxRecDepth 100000 in
set_option maxHeartbeats 4000000 in
theorem c_X2_keeps (l : Launch) (D : va_G) (ad : Nat → Nat) (cy : Nat → ClassId) (h : HP) (x0 : Nat) (x1 : Int32) (x2 : Int32) {r : Int32} (hf : f_X2_keeps h x0 x1 x2 = some r) : Met l yX2_keeps (wsM yX2_keeps cX2_keeps 3 (some .boolean)) rmX2_keeps (va_Pc [.ref (ad x0), .int x1, .int x2] (PW D ad cy h)) (QV D ad cy (some (.int r)) h) 0 0 (Aw ad) := by
  refine met_of (own := RX2) (lv := [(0, .ref (ad x0)), (1, .int x1), (2, .int x2)]) (by decide) rfl (Nat.le_of_ble_eq_true rfl) rfl (fun p e s m args below meth c E hr hlk => ?_)
  unfold f_X2_keeps at hf
  refine j_iload_n E 1 rfl dX2_keeps_0 rfl ?_
  obtain ⟨v1, e2, hf⟩ := bs hf
  refine j_callSN (host := RX5) (As := [.int x1]) (rest := []) (v := (some (.int v1))) E (c_X5_isLine l D ad cy h x1 e2) (mcn E.1.2.2.2.2 E.2.2 5 rfl uw_1_164 uw_1_163 uw_1_1 rfl rfl hd_X5_isLine ⟨by decide, by decide⟩) rfl rfl (Nat.le_of_ble_eq_true rfl) dX2_keeps_1 ⟨Nat.zero_le _, Nat.zero_le _⟩ ?_
  refine j_stk (st' := [.int v1]) rfl ?_
  refine j_if_eq (tgt := 31) E dX2_keeps_4 (by decide) (fun z3 => ?_) (fun z3 => ?_)
  · have hf := ifp hf z3
    refine j_iconst (v := 0) E dX2_keeps_31 (by decide) ?_
    cases hf
    exact j_zret E hr hlk rfl dX2_keeps_32
  · have hf := ifn hf z3
    refine j_iload_n E 2 rfl dX2_keeps_7 rfl ?_
    obtain ⟨v4, e5, hf⟩ := bs hf
    refine j_callSN (host := RX5) (As := [.int x2]) (rest := []) (v := (some (.int v4))) E (c_X5_isLine l D ad cy h x2 e5) (mcn E.1.2.2.2.2 E.2.2 5 rfl uw_1_164 uw_1_163 uw_1_1 rfl rfl hd_X5_isLine ⟨by decide, by decide⟩) rfl rfl (Nat.le_of_ble_eq_true rfl) dX2_keeps_8 ⟨Nat.zero_le _, Nat.zero_le _⟩ ?_
    refine j_stk (st' := [.int v4]) rfl ?_
    refine j_if_eq (tgt := 31) E dX2_keeps_11 (by decide) (fun z6 => ?_) (fun z6 => ?_)
    · have hf := ifp hf z6
      refine j_iconst (v := 0) E dX2_keeps_31 (by decide) ?_
      cases hf
      exact j_zret E hr hlk rfl dX2_keeps_32
    · have hf := ifn hf z6
      refine j_aload_n E 0 rfl dX2_keeps_14 rfl ?_
      obtain ⟨v7, ev7, hf⟩ := bs hf
      refine j_getR (ci := 1) (k0 := 2) (T := TX2) (N := 4) E (mI inUX2) rfl (by decide) (mU uw_1_80) ev7 dX2_keeps_15 ?_
      refine j_iload_n E 1 rfl dX2_keeps_18 rfl ?_
      obtain ⟨v8, ev8, hf⟩ := bs hf
      refine j_aI E ev8 dX2_keeps_19 ?_
      refine j_iload_n E 2 rfl dX2_keeps_20 rfl ?_
      obtain ⟨v9, e10, hf⟩ := bs hf
      refine j_callSN (host := RX5) (As := [.int v8, .int x2]) (rest := []) (v := (some (.int v9))) E (c_X5_hasBit l D ad cy h v8 x2 e10) (mcn E.1.2.2.2.2 E.2.2 6 rfl uw_2_8 uw_2_7 uw_1_1 rfl rfl hd_X5_hasBit ⟨by decide, by decide⟩) rfl rfl (Nat.le_of_ble_eq_true rfl) dX2_keeps_21 ⟨Nat.zero_le _, Nat.zero_le _⟩ ?_
      refine j_stk (st' := [.int v9]) rfl ?_
      refine j_if_eq (tgt := 31) E dX2_keeps_24 (by decide) (fun z11 => ?_) (fun z11 => ?_)
      · have hf := ifp hf z11
        refine j_iconst (v := 0) E dX2_keeps_31 (by decide) ?_
        cases hf
        exact j_zret E hr hlk rfl dX2_keeps_32
      · have hf := ifn hf z11
        refine j_iconst (v := 1) E dX2_keeps_27 (by decide) ?_
        refine j_goto (tgt := 32) E dX2_keeps_28 (by decide) ?_
        cases hf
        exact j_zret E hr hlk rfl dX2_keeps_32
noncomputable def L_X2_keepsOnSlant_2 (h : HP) (x0 : Nat) (x1 : Int32) : Nat → (Option (Int32)) → Int32 → Option (Int32)
  | 0, _, _ => none
  | n + 1, k, x2 =>
      if 16 ≤ x2 then (
        k
      ) else (
        ck 1 h x0 <|
        (f_X2_keeps h x0 x2 (x2 + x1)).bind fun v3 =>
        if v3 = 0 then (
          L_X2_keepsOnSlant_2 h x0 x1 n k (x2 + 1)
        ) else (
          some 1
        )
      )
noncomputable def f_X2_keepsOnSlant (h : HP) (x0 : Nat) (x1 : Int32) : Option (Int32) :=
  L_X2_keepsOnSlant_2 h x0 x1 FU (
    some 0) 0
abbrev rmX2_keepsOnSlant : Room := { frames := 2, cells := 0, slots := 0, locals := 43 }
theorem hd_X2_keepsOnSlant : yX2_keepsOnSlant.cls = RX2 ∧ yX2_keepsOnSlant.cls ≠ "java/lang/invoke/MethodHandle" ∧ yX2_keepsOnSlant.cls ≠ "java/lang/invoke/VarHandle" ∧ (parseMethodDescriptor yX2_keepsOnSlant.desc).map (fun d => d.parameters.length) = some 1 := by decide +kernel
set_option maxRecDepth 100000 in
set_option maxHeartbeats 4000000 in
theorem w_X2_keepsOnSlant_2 {p : Program} {l : Launch} {e : Env} {s : State} {m : MethodId} {args : Array Value} {below : List Frame} {meth : Method} {c : Code} {D : va_G} {ad : Nat → Nat} {cy : Nat → ClassId} (E : EE p s m args c cX2_keepsOnSlant 3 (wsM yX2_keepsOnSlant cX2_keepsOnSlant 3 (some .boolean)) RX2 D cy) (hr : meth.sig.returnType = (some .boolean)) (hlk : meth.locks = false) {r : Int32} (h : HP) (x0 : Nat) (x1 : Int32) : ∀ (n : Nat) (k : (Option (Int32))) (x2 : Int32), (k = some r → JJ p l e rmX2_keepsOnSlant s m args below meth c 0 0 (MQ below (QV D ad cy (some (.int r)) h) args s 0 0 (Aw ad)) D ad cy (Aw ad) 3 h [] 27 []) → L_X2_keepsOnSlant_2 h x0 x1 n k x2 = some r → JJ p l e rmX2_keepsOnSlant s m args below meth c 0 0 (MQ below (QV D ad cy (some (.int r)) h) args s 0 0 (Aw ad)) D ad cy (Aw ad) 3 h [(0, .ref (ad x0)), (1, .int x1), (2, .int x2)] 2 [] := by
  intro n
  induction n with
  | zero => intro k x2 hk hf; cases hf
  | succ n ih =>
    intro k x2 hk hf
    unfold L_X2_keepsOnSlant_2 at hf
    refine j_iload_n E 2 rfl dX2_keepsOnSlant_2 rfl ?_
    refine j_bipush (v := 16) E dX2_keepsOnSlant_3 (by decide) ?_
    refine j_icmp_ge (tgt := 27) E dX2_keepsOnSlant_5 (by decide) (fun z1 => ?_) (fun z1 => ?_)
    · have hf := ifp hf z1
      refine j_perm (lv' := []) [] rfl ?_
      exact hk hf
    · have hf := ifn hf z1
      refine j_aload_n E 0 rfl dX2_keepsOnSlant_8 rfl ?_
      refine j_iload_n E 2 rfl dX2_keepsOnSlant_9 rfl ?_
      refine j_iload_n E 2 rfl dX2_keepsOnSlant_10 rfl ?_
      refine j_iload_n E 1 rfl dX2_keepsOnSlant_11 rfl ?_
      refine j_iadd E dX2_keepsOnSlant_12 ?_
      obtain ⟨k2, hf⟩ := ck_spec hf
      obtain ⟨v3, e4, hf⟩ := bs hf
      refine j_callV (ci := 1) (b := x0) (As := [.int x2, .int (x2 + x1)]) (rest := []) (v := (some (.int v3))) E (c_X2_keeps l D ad cy h x0 x2 (x2 + x1) e4) (mcw E.1.2.2.2.2 uw_2_5 uw_2_2 uw_2_3 uw_2_4 uw_1_4 rfl rfl hd_X2_keeps ⟨by decide, by decide⟩) rfl k2 rfl rfl (Nat.le_of_ble_eq_true rfl) dX2_keepsOnSlant_13 ⟨Nat.zero_le _, Nat.zero_le _⟩ ?_
      refine j_stk (st' := [.int v3]) rfl ?_
      refine j_if_eq (tgt := 21) E dX2_keepsOnSlant_16 (by decide) (fun z5 => ?_) (fun z5 => ?_)
      · have hf := ifp hf z5
        refine j_iinc (v := (x2 + 1)) (k0 := 2) (lv' := [(2, .int (x2 + 1)), (0, .ref (ad x0)), (1, .int x1)]) E dX2_keepsOnSlant_21 rfl (congrArg (fun z => x2 + z) (by decide)) (by decide) rfl ?_
        refine j_goto (tgt := 2) E dX2_keepsOnSlant_24 (by decide) ?_
        refine j_perm (lv' := [(0, .ref (ad x0)), (1, .int x1), (2, .int (x2 + 1))]) [1, 2, 0] rfl ?_
        exact ih k (x2 + 1) hk hf
      · have hf := ifn hf z5
        refine j_iconst (v := 1) E dX2_keepsOnSlant_19 (by decide) ?_
        cases hf
        exact j_zret E hr hlk rfl dX2_keepsOnSlant_20
set_option maxRecDepth 100000 in
set_option maxHeartbeats 4000000 in
theorem c_X2_keepsOnSlant (l : Launch) (D : va_G) (ad : Nat → Nat) (cy : Nat → ClassId) (h : HP) (x0 : Nat) (x1 : Int32) {r : Int32} (hf : f_X2_keepsOnSlant h x0 x1 = some r) : Met l yX2_keepsOnSlant (wsM yX2_keepsOnSlant cX2_keepsOnSlant 3 (some .boolean)) rmX2_keepsOnSlant (va_Pc [.ref (ad x0), .int x1] (PW D ad cy h)) (QV D ad cy (some (.int r)) h) 0 0 (Aw ad) := by
  refine met_of (own := RX2) (lv := [(0, .ref (ad x0)), (1, .int x1)]) (by decide) rfl (Nat.le_of_ble_eq_true rfl) rfl (fun p e s m args below meth c E hr hlk => ?_)
  unfold f_X2_keepsOnSlant at hf
  refine j_iconst (v := 0) E dX2_keepsOnSlant_0 (by decide) ?_
  refine j_istore_n (lv' := [(2, .int 0), (0, .ref (ad x0)), (1, .int x1)]) E dX2_keepsOnSlant_1 rfl (by decide) rfl ?_
  refine j_perm (lv' := [(0, .ref (ad x0)), (1, .int x1), (2, .int 0)]) [1, 2, 0] rfl ?_
  refine w_X2_keepsOnSlant_2 E hr hlk h x0 x1 FU _ 0 (fun hf => ?_) hf
  refine j_iconst (v := 0) E dX2_keepsOnSlant_27 (by decide) ?_
  cases hf
  exact j_zret E hr hlk rfl dX2_keepsOnSlant_28
noncomputable def L_X0_slantCount_5 (h : HP) (x0 : Nat) : Nat → (Int32 → Option (Int32)) → Int32 → Int32 → Option (Int32)
  | 0, _, _, _ => none
  | n + 1, k, x1, x2 =>
      if 16 ≤ x2 then (
        k x1
      ) else (
        ck 1 h x0 <|
        (f_X2_keepsOnSlant h x0 x2).bind fun v3 =>
        if v3 = 0 then (
          L_X0_slantCount_5 h x0 n k x1 (x2 + 1)
        ) else (
          L_X0_slantCount_5 h x0 n k (x1 + 1) (x2 + 1)
        )
      )
noncomputable def f_X0_slantCount (h : HP) (x0 : Nat) : Option (Int32) :=
  L_X0_slantCount_5 h x0 FU (fun x6 =>
    some x6) 0 (-15)
abbrev rmX0_slantCount : Room := { frames := 3, cells := 0, slots := 0, locals := 65 }
theorem hd_X0_slantCount : yX0_slantCount.cls = RX0 ∧ yX0_slantCount.cls ≠ "java/lang/invoke/MethodHandle" ∧ yX0_slantCount.cls ≠ "java/lang/invoke/VarHandle" ∧ (parseMethodDescriptor yX0_slantCount.desc).map (fun d => d.parameters.length) = some 1 := by decide +kernel
set_option maxRecDepth 100000 in
set_option maxHeartbeats 4000000 in
theorem w_X0_slantCount_5 {p : Program} {l : Launch} {e : Env} {s : State} {m : MethodId} {args : Array Value} {below : List Frame} {meth : Method} {c : Code} {D : va_G} {ad : Nat → Nat} {cy : Nat → ClassId} (E : EE p s m args c cX0_slantCount 3 (wsM yX0_slantCount cX0_slantCount 3 (some .int)) RX0 D cy) (hr : meth.sig.returnType = (some .int)) (hlk : meth.locks = false) {r : Int32} (h : HP) (x0 : Nat) : ∀ (n : Nat) (k : (Int32 → Option (Int32))) (x1 : Int32) (x2 : Int32), (∀ (x1 : Int32), k x1 = some r → JJ p l e rmX0_slantCount s m args below meth c 0 0 (MQ below (QV D ad cy (some (.int r)) h) args s 0 0 (Aw ad)) D ad cy (Aw ad) 3 h [(1, .int x1)] 28 []) → L_X0_slantCount_5 h x0 n k x1 x2 = some r → JJ p l e rmX0_slantCount s m args below meth c 0 0 (MQ below (QV D ad cy (some (.int r)) h) args s 0 0 (Aw ad)) D ad cy (Aw ad) 3 h [(0, .ref (ad x0)), (1, .int x1), (2, .int x2)] 5 [] := by
  intro n
  induction n with
  | zero => intro k x1 x2 hk hf; cases hf
  | succ n ih =>
    intro k x1 x2 hk hf
    unfold L_X0_slantCount_5 at hf
    refine j_iload_n E 2 rfl dX0_slantCount_5 rfl ?_
    refine j_bipush (v := 16) E dX0_slantCount_6 (by decide) ?_
    refine j_icmp_ge (tgt := 28) E dX0_slantCount_8 (by decide) (fun z1 => ?_) (fun z1 => ?_)
    · have hf := ifp hf z1
      refine j_perm (lv' := [(1, .int x1)]) [1] rfl ?_
      exact hk x1 hf
    · have hf := ifn hf z1
      refine j_aload_n E 0 rfl dX0_slantCount_11 rfl ?_
      refine j_iload_n E 2 rfl dX0_slantCount_12 rfl ?_
      obtain ⟨k2, hf⟩ := ck_spec hf
      obtain ⟨v3, e4, hf⟩ := bs hf
      refine j_callV (ci := 1) (b := x0) (As := [.int x2]) (rest := []) (v := (some (.int v3))) E (c_X2_keepsOnSlant l D ad cy h x0 x2 e4) (mcw E.1.2.2.2.2 uw_2_183 uw_2_180 uw_2_181 uw_2_182 uw_1_4 rfl rfl hd_X2_keepsOnSlant ⟨by decide, by decide⟩) rfl k2 rfl rfl (Nat.le_of_ble_eq_true rfl) dX0_slantCount_13 ⟨Nat.zero_le _, Nat.zero_le _⟩ ?_
      refine j_stk (st' := [.int v3]) rfl ?_
      refine j_if_eq (tgt := 22) E dX0_slantCount_16 (by decide) (fun z5 => ?_) (fun z5 => ?_)
      · have hf := ifp hf z5
        refine j_iinc (v := (x2 + 1)) (k0 := 2) (lv' := [(2, .int (x2 + 1)), (0, .ref (ad x0)), (1, .int x1)]) E dX0_slantCount_22 rfl (congrArg (fun z => x2 + z) (by decide)) (by decide) rfl ?_
        refine j_goto (tgt := 5) E dX0_slantCount_25 (by decide) ?_
        refine j_perm (lv' := [(0, .ref (ad x0)), (1, .int x1), (2, .int (x2 + 1))]) [1, 2, 0] rfl ?_
        exact ih k x1 (x2 + 1) hk hf
      · have hf := ifn hf z5
        refine j_iinc (v := (x1 + 1)) (k0 := 1) (lv' := [(1, .int (x1 + 1)), (0, .ref (ad x0)), (2, .int x2)]) E dX0_slantCount_19 rfl (congrArg (fun z => x1 + z) (by decide)) (by decide) rfl ?_
        refine j_iinc (v := (x2 + 1)) (k0 := 2) (lv' := [(2, .int (x2 + 1)), (1, .int (x1 + 1)), (0, .ref (ad x0))]) E dX0_slantCount_22 rfl (congrArg (fun z => x2 + z) (by decide)) (by decide) rfl ?_
        refine j_goto (tgt := 5) E dX0_slantCount_25 (by decide) ?_
        refine j_perm (lv' := [(0, .ref (ad x0)), (1, .int (x1 + 1)), (2, .int (x2 + 1))]) [2, 1, 0] rfl ?_
        exact ih k (x1 + 1) (x2 + 1) hk hf
set_option maxRecDepth 100000 in
set_option maxHeartbeats 4000000 in
theorem c_X0_slantCount (l : Launch) (D : va_G) (ad : Nat → Nat) (cy : Nat → ClassId) (h : HP) (x0 : Nat) {r : Int32} (hf : f_X0_slantCount h x0 = some r) : Met l yX0_slantCount (wsM yX0_slantCount cX0_slantCount 3 (some .int)) rmX0_slantCount (va_Pc [.ref (ad x0)] (PW D ad cy h)) (QV D ad cy (some (.int r)) h) 0 0 (Aw ad) := by
  refine met_of (own := RX0) (lv := [(0, .ref (ad x0))]) (by decide) rfl (Nat.le_of_ble_eq_true rfl) rfl (fun p e s m args below meth c E hr hlk => ?_)
  unfold f_X0_slantCount at hf
  refine j_iconst (v := 0) E dX0_slantCount_0 (by decide) ?_
  refine j_istore_n (lv' := [(1, .int 0), (0, .ref (ad x0))]) E dX0_slantCount_1 rfl (by decide) rfl ?_
  refine j_bipush (v := (-15)) E dX0_slantCount_2 (by decide) ?_
  refine j_istore_n (lv' := [(2, .int (-15)), (1, .int 0), (0, .ref (ad x0))]) E dX0_slantCount_4 rfl (by decide) rfl ?_
  refine j_perm (lv' := [(0, .ref (ad x0)), (1, .int 0), (2, .int (-15))]) [2, 1, 0] rfl ?_
  refine w_X0_slantCount_5 E hr hlk h x0 FU _ 0 (-15) (fun x6 hf => ?_) hf
  refine j_iload_n E 0 rfl dX0_slantCount_28 rfl ?_
  cases hf
  exact j_iret E hr hlk dX0_slantCount_29
noncomputable def L_X2_begin_12 (x0 : Nat) : Nat → (HP → Option (HP)) → HP → Int32 → Option (HP)
  | 0, _, _, _ => none
  | n + 1, k, h, x3 =>
      if 16 ≤ x3 then (
        k h
      ) else (
        (gR 1 h x0 2).bind fun v4 =>
        (sI h v4 x3 0).bind fun h5 =>
        L_X2_begin_12 x0 n k h5 (x3 + 1)
      )
noncomputable def L_X2_begin_33 (x0 : Nat) : Nat → (HP → Option (HP)) → HP → Int32 → Option (HP)
  | 0, _, _, _ => none
  | n + 1, k, h, x3 =>
      if 256 ≤ x3 then (
        k h
      ) else (
        (gR 1 h x0 3).bind fun v8 =>
        (sJ h v8 x3 0).bind fun h9 =>
        L_X2_begin_33 x0 n k h9 (x3 + 1)
      )
noncomputable def f_X2_begin (h : HP) (x0 : Nat) (x1 : Int32) (x2 : Int32) : Option (HP) :=
  (pI 1 h x0 0 x1).bind fun h1 =>
  (pI 1 h1 x0 1 x2).bind fun h2 =>
  L_X2_begin_12 x0 FU (fun h6 =>
    L_X2_begin_33 x0 FU (fun h10 =>
      some h10) h6 0) h2 0
abbrev rmX2_begin : Room := { frames := 0, cells := 0, slots := 0, locals := 0 }
theorem hd_X2_begin : yX2_begin.cls = RX2 ∧ yX2_begin.cls ≠ "java/lang/invoke/MethodHandle" ∧ yX2_begin.cls ≠ "java/lang/invoke/VarHandle" ∧ (parseMethodDescriptor yX2_begin.desc).map (fun d => d.parameters.length) = some 2 := by decide +kernel
set_option maxRecDepth 100000 in
set_option maxHeartbeats 4000000 in
theorem w_X2_begin_12 {p : Program} {l : Launch} {e : Env} {s : State} {m : MethodId} {args : Array Value} {below : List Frame} {meth : Method} {c : Code} {D : va_G} {ad : Nat → Nat} {cy : Nat → ClassId} (E : EE p s m args c cX2_begin 4 (wsM yX2_begin cX2_begin 4 none) RX2 D cy) (hr : meth.sig.returnType = none) (hlk : meth.locks = false) {h' : HP} (x0 : Nat) : ∀ (n : Nat) (k : (HP → Option (HP))) (h : HP) (x3 : Int32), (∀ (h : HP), k h = some h' → JJ p l e rmX2_begin s m args below meth c 0 0 (MQ below (QV D ad cy none h') args s 0 0 (Aw ad)) D ad cy (Aw ad) 4 h [(0, .ref (ad x0))] 31 []) → L_X2_begin_12 x0 n k h x3 = some h' → JJ p l e rmX2_begin s m args below meth c 0 0 (MQ below (QV D ad cy none h') args s 0 0 (Aw ad)) D ad cy (Aw ad) 4 h [(0, .ref (ad x0)), (3, .int x3)] 12 [] := by
  intro n
  induction n with
  | zero => intro k h x3 hk hf; cases hf
  | succ n ih =>
    intro k h x3 hk hf
    unfold L_X2_begin_12 at hf
    refine j_iload_n E 1 rfl dX2_begin_12 rfl ?_
    refine j_bipush (v := 16) E dX2_begin_13 (by decide) ?_
    refine j_icmp_ge (tgt := 31) E dX2_begin_15 (by decide) (fun z3 => ?_) (fun z3 => ?_)
    · have hf := ifp hf z3
      refine j_perm (lv' := [(0, .ref (ad x0))]) [0] rfl ?_
      exact hk h hf
    · have hf := ifn hf z3
      refine j_aload_n E 0 rfl dX2_begin_18 rfl ?_
      obtain ⟨v4, ev4, hf⟩ := bs hf
      refine j_getR (ci := 1) (k0 := 2) (T := TX2) (N := 4) E (mI inUX2) rfl (by decide) (mU uw_1_80) ev4 dX2_begin_19 ?_
      refine j_iload_n E 1 rfl dX2_begin_22 rfl ?_
      refine j_iconst (v := 0) E dX2_begin_23 (by decide) ?_
      obtain ⟨h5, eh5, hf⟩ := bs hf
      refine j_sI E eh5 dX2_begin_24 ?_
      refine j_iinc (v := (x3 + 1)) (k0 := 1) (lv' := [(3, .int (x3 + 1)), (0, .ref (ad x0))]) E dX2_begin_25 rfl (congrArg (fun z => x3 + z) (by decide)) (by decide) rfl ?_
      refine j_goto (tgt := 12) E dX2_begin_28 (by decide) ?_
      refine j_perm (lv' := [(0, .ref (ad x0)), (3, .int (x3 + 1))]) [1, 0] rfl ?_
      exact ih k h5 (x3 + 1) hk hf
set_option maxRecDepth 100000 in
set_option maxHeartbeats 4000000 in
theorem w_X2_begin_33 {p : Program} {l : Launch} {e : Env} {s : State} {m : MethodId} {args : Array Value} {below : List Frame} {meth : Method} {c : Code} {D : va_G} {ad : Nat → Nat} {cy : Nat → ClassId} (E : EE p s m args c cX2_begin 4 (wsM yX2_begin cX2_begin 4 none) RX2 D cy) (hr : meth.sig.returnType = none) (hlk : meth.locks = false) {h' : HP} (x0 : Nat) : ∀ (n : Nat) (k : (HP → Option (HP))) (h : HP) (x3 : Int32), (∀ (h : HP), k h = some h' → JJ p l e rmX2_begin s m args below meth c 0 0 (MQ below (QV D ad cy none h') args s 0 0 (Aw ad)) D ad cy (Aw ad) 4 h [] 53 []) → L_X2_begin_33 x0 n k h x3 = some h' → JJ p l e rmX2_begin s m args below meth c 0 0 (MQ below (QV D ad cy none h') args s 0 0 (Aw ad)) D ad cy (Aw ad) 4 h [(0, .ref (ad x0)), (3, .int x3)] 33 [] := by
  intro n
  induction n with
  | zero => intro k h x3 hk hf; cases hf
  | succ n ih =>
    intro k h x3 hk hf
    unfold L_X2_begin_33 at hf
    refine j_iload_n E 1 rfl dX2_begin_33 rfl ?_
    refine j_sipush (v := 256) E dX2_begin_34 (by decide) ?_
    refine j_icmp_ge (tgt := 53) E dX2_begin_37 (by decide) (fun z7 => ?_) (fun z7 => ?_)
    · have hf := ifp hf z7
      refine j_perm (lv' := []) [] rfl ?_
      exact hk h hf
    · have hf := ifn hf z7
      refine j_aload_n E 0 rfl dX2_begin_40 rfl ?_
      obtain ⟨v8, ev8, hf⟩ := bs hf
      refine j_getR (ci := 1) (k0 := 3) (T := TX2) (N := 4) E (mI inUX2) rfl (by decide) (mU uw_1_81) ev8 dX2_begin_41 ?_
      refine j_iload_n E 1 rfl dX2_begin_44 rfl ?_
      refine j_lconst (v := 0) E dX2_begin_45 (by decide) ?_
      obtain ⟨h9, eh9, hf⟩ := bs hf
      refine j_sJ E eh9 dX2_begin_46 ?_
      refine j_iinc (v := (x3 + 1)) (k0 := 1) (lv' := [(3, .int (x3 + 1)), (0, .ref (ad x0))]) E dX2_begin_47 rfl (congrArg (fun z => x3 + z) (by decide)) (by decide) rfl ?_
      refine j_goto (tgt := 33) E dX2_begin_50 (by decide) ?_
      refine j_perm (lv' := [(0, .ref (ad x0)), (3, .int (x3 + 1))]) [1, 0] rfl ?_
      exact ih k h9 (x3 + 1) hk hf
set_option maxRecDepth 100000 in
set_option maxHeartbeats 4000000 in
theorem c_X2_begin (l : Launch) (D : va_G) (ad : Nat → Nat) (cy : Nat → ClassId) (h : HP) (x0 : Nat) (x1 : Int32) (x2 : Int32) {h' : HP} (hf : f_X2_begin h x0 x1 x2 = some h') : Met l yX2_begin (wsM yX2_begin cX2_begin 4 none) rmX2_begin (va_Pc [.ref (ad x0), .int x1, .int x2] (PW D ad cy h)) (QV D ad cy none h') 0 0 (Aw ad) := by
  refine met_of (own := RX2) (lv := [(0, .ref (ad x0)), (1, .int x1), (2, .int x2)]) (by decide) rfl (Nat.le_of_ble_eq_true rfl) rfl (fun p e s m args below meth c E hr hlk => ?_)
  unfold f_X2_begin at hf
  refine j_aload_n E 0 rfl dX2_begin_0 rfl ?_
  refine j_iload_n E 1 rfl dX2_begin_1 rfl ?_
  obtain ⟨h1, eh1, hf⟩ := bs hf
  refine j_putI (ci := 1) (k0 := 0) (T := TX2) (N := 4) E (mI inUX2) rfl (by decide) (mU uw_1_73) tyX2 tyX2_ok nmX2 rfl (by decide +kernel) eh1 dX2_begin_2 ?_
  refine j_aload_n E 0 rfl dX2_begin_5 rfl ?_
  refine j_iload_n E 2 rfl dX2_begin_6 rfl ?_
  obtain ⟨h2, eh2, hf⟩ := bs hf
  refine j_putI (ci := 1) (k0 := 1) (T := TX2) (N := 4) E (mI inUX2) rfl (by decide) (mU uw_1_77) tyX2 tyX2_ok nmX2 rfl (by decide +kernel) eh2 dX2_begin_7 ?_
  refine j_iconst (v := 0) E dX2_begin_10 (by decide) ?_
  refine j_istore_n (lv' := [(3, .int 0), (0, .ref (ad x0)), (1, .int x1), (2, .int x2)]) E dX2_begin_11 rfl (by decide) rfl ?_
  refine j_perm (lv' := [(0, .ref (ad x0)), (3, .int 0)]) [1, 0] rfl ?_
  refine w_X2_begin_12 E hr hlk x0 FU _ h2 0 (fun h6 hf => ?_) hf
  refine j_iconst (v := 0) E dX2_begin_31 (by decide) ?_
  refine j_istore_n (lv' := [(3, .int 0), (0, .ref (ad x0))]) E dX2_begin_32 rfl (by decide) rfl ?_
  refine j_perm (lv' := [(0, .ref (ad x0)), (3, .int 0)]) [1, 0] rfl ?_
  refine w_X2_begin_33 E hr hlk x0 FU _ h6 0 (fun h10 hf => ?_) hf
  cases hf
  exact j_vret E hr hlk dX2_begin_53
noncomputable def f_X2_put (h : HP) (x0 : Nat) (x1 : Int32) (x2 : Int32) (x3 : Int64) : Option (HP) :=
  (f_X5_isLine x1).bind fun v1 =>
  if v1 = 0 then (
    some h
  ) else (
    (f_X5_isLine x2).bind fun v4 =>
    if v4 = 0 then (
      some h
    ) else (
      (gR 1 h x0 2).bind fun v7 =>
      (aI h v7 x1).bind fun v8 =>
      (sI h v7 x1 (v8 ||| (1 <<< (x2 &&& 31)))).bind fun h9 =>
      (gR 1 h9 x0 3).bind fun v10 =>
      (sJ h9 v10 ((x1 * 16) + x2) x3).bind fun h11 =>
      some h11
    )
  )
abbrev rmX2_put : Room := { frames := 1, cells := 0, slots := 0, locals := 20 }
theorem hd_X2_put : yX2_put.cls = RX2 ∧ yX2_put.cls ≠ "java/lang/invoke/MethodHandle" ∧ yX2_put.cls ≠ "java/lang/invoke/VarHandle" ∧ (parseMethodDescriptor yX2_put.desc).map (fun d => d.parameters.length) = some 3 := by decide +kernel
set_option maxRecDepth 100000 in
set_option maxHeartbeats 4000000 in
theorem c_X2_put (l : Launch) (D : va_G) (ad : Nat → Nat) (cy : Nat → ClassId) (h : HP) (x0 : Nat) (x1 : Int32) (x2 : Int32) (x3 : Int64) {h' : HP} (hf : f_X2_put h x0 x1 x2 x3 = some h') : Met l yX2_put (wsM yX2_put cX2_put 5 none) rmX2_put (va_Pc [.ref (ad x0), .int x1, .int x2, .long x3] (PW D ad cy h)) (QV D ad cy none h') 0 0 (Aw ad) := by
  refine met_of (own := RX2) (lv := [(0, .ref (ad x0)), (1, .int x1), (2, .int x2), (3, .long x3)]) (by decide) rfl (Nat.le_of_ble_eq_true rfl) rfl (fun p e s m args below meth c E hr hlk => ?_)
  unfold f_X2_put at hf
  refine j_iload_n E 1 rfl dX2_put_0 rfl ?_
  obtain ⟨v1, e2, hf⟩ := bs hf
  refine j_callSN (host := RX5) (As := [.int x1]) (rest := []) (v := (some (.int v1))) E (c_X5_isLine l D ad cy h x1 e2) (mcn E.1.2.2.2.2 E.2.2 5 rfl uw_1_164 uw_1_163 uw_1_1 rfl rfl hd_X5_isLine ⟨by decide, by decide⟩) rfl rfl (Nat.le_of_ble_eq_true rfl) dX2_put_1 ⟨Nat.zero_le _, Nat.zero_le _⟩ ?_
  refine j_stk (st' := [.int v1]) rfl ?_
  refine j_if_eq (tgt := 38) E dX2_put_4 (by decide) (fun z3 => ?_) (fun z3 => ?_)
  · have hf := ifp hf z3
    cases hf
    exact j_vret E hr hlk dX2_put_38
  · have hf := ifn hf z3
    refine j_iload_n E 2 rfl dX2_put_7 rfl ?_
    obtain ⟨v4, e5, hf⟩ := bs hf
    refine j_callSN (host := RX5) (As := [.int x2]) (rest := []) (v := (some (.int v4))) E (c_X5_isLine l D ad cy h x2 e5) (mcn E.1.2.2.2.2 E.2.2 5 rfl uw_1_164 uw_1_163 uw_1_1 rfl rfl hd_X5_isLine ⟨by decide, by decide⟩) rfl rfl (Nat.le_of_ble_eq_true rfl) dX2_put_8 ⟨Nat.zero_le _, Nat.zero_le _⟩ ?_
    refine j_stk (st' := [.int v4]) rfl ?_
    refine j_if_eq (tgt := 38) E dX2_put_11 (by decide) (fun z6 => ?_) (fun z6 => ?_)
    · have hf := ifp hf z6
      cases hf
      exact j_vret E hr hlk dX2_put_38
    · have hf := ifn hf z6
      refine j_aload_n E 0 rfl dX2_put_14 rfl ?_
      obtain ⟨v7, ev7, hf⟩ := bs hf
      refine j_getR (ci := 1) (k0 := 2) (T := TX2) (N := 4) E (mI inUX2) rfl (by decide) (mU uw_1_80) ev7 dX2_put_15 ?_
      refine j_iload_n E 1 rfl dX2_put_18 rfl ?_
      refine j_dup2 E dX2_put_19 rfl rfl ?_
      obtain ⟨v8, ev8, hf⟩ := bs hf
      refine j_aI E ev8 dX2_put_20 ?_
      refine j_iconst (v := 1) E dX2_put_21 (by decide) ?_
      refine j_iload_n E 2 rfl dX2_put_22 rfl ?_
      refine j_ishl E dX2_put_23 ?_
      refine j_ior E dX2_put_24 ?_
      obtain ⟨h9, eh9, hf⟩ := bs hf
      refine j_sI E eh9 dX2_put_25 ?_
      refine j_aload_n E 0 rfl dX2_put_26 rfl ?_
      obtain ⟨v10, ev10, hf⟩ := bs hf
      refine j_getR (ci := 1) (k0 := 3) (T := TX2) (N := 4) E (mI inUX2) rfl (by decide) (mU uw_1_81) ev10 dX2_put_27 ?_
      refine j_iload_n E 1 rfl dX2_put_30 rfl ?_
      refine j_bipush (v := 16) E dX2_put_31 (by decide) ?_
      refine j_imul E dX2_put_33 ?_
      refine j_iload_n E 2 rfl dX2_put_34 rfl ?_
      refine j_iadd E dX2_put_35 ?_
      refine j_lload_n E 3 rfl dX2_put_36 rfl ?_
      obtain ⟨h11, eh11, hf⟩ := bs hf
      refine j_sJ E eh11 dX2_put_37 ?_
      cases hf
      exact j_vret E hr hlk dX2_put_38
noncomputable def L_X2_becomeBlocks_41 (x0 : Nat) (x1 : Nat) (x2 : Int32) (x3 : Int32) : Nat → (HP → Option (HP)) → HP → Int32 → Option (HP)
  | 0, _, _, _ => none
  | n + 1, k, h, x4 =>
      if 16 ≤ x4 then (
        k h
      ) else (
        ck 1 h x1 <|
        (f_X2_keeps h x1 x3 x4).bind fun v12 =>
        if v12 = 0 then (
          L_X2_becomeBlocks_41 x0 x1 x2 x3 n k h (x4 + 1)
        ) else (
          nz x2 <|
          nz x2 <|
          ck 1 h x0 <|
          (f_X2_put h x0 (x3 / x2) (x4 / x2) 0).bind fun h18 =>
          L_X2_becomeBlocks_41 x0 x1 x2 x3 n k h18 (x4 + 1)
        )
      )
noncomputable def L_X2_becomeBlocks_32 (x0 : Nat) (x1 : Nat) (x2 : Int32) : Nat → (HP → Option (HP)) → HP → Int32 → Option (HP)
  | 0, _, _, _ => none
  | n + 1, k, h, x3 =>
      if 16 ≤ x3 then (
        k h
      ) else (
        L_X2_becomeBlocks_41 x0 x1 x2 x3 FU (fun h20 =>
          L_X2_becomeBlocks_32 x0 x1 x2 n k h20 (x3 + 1)) h 0
      )
noncomputable def f_X2_becomeBlocks (h : HP) (x0 : Nat) (x1 : Nat) (x2 : Int32) : Option (HP) :=
  if 1 ≤ x2 then (
    (gI 1 h x1 0).bind fun v2 =>
    nz x2 <|
    (gI 1 h x1 1).bind fun v4 =>
    nz x2 <|
    ck 1 h x0 <|
    (f_X2_begin h x0 (((v2 + x2) - 1) / x2) (((v4 + x2) - 1) / x2)).bind fun h7 =>
    L_X2_becomeBlocks_32 x0 x1 x2 FU (fun h21 =>
      some h21) h7 0
  ) else (
    some h
  )
abbrev rmX2_becomeBlocks : Room := { frames := 2, cells := 0, slots := 0, locals := 44 }
theorem hd_X2_becomeBlocks : yX2_becomeBlocks.cls = RX2 ∧ yX2_becomeBlocks.cls ≠ "java/lang/invoke/MethodHandle" ∧ yX2_becomeBlocks.cls ≠ "java/lang/invoke/VarHandle" ∧ (parseMethodDescriptor yX2_becomeBlocks.desc).map (fun d => d.parameters.length) = some 2 := by decide +kernel
set_option maxRecDepth 100000 in
set_option maxHeartbeats 4000000 in
theorem w_X2_becomeBlocks_41 {p : Program} {l : Launch} {e : Env} {s : State} {m : MethodId} {args : Array Value} {below : List Frame} {meth : Method} {c : Code} {D : va_G} {ad : Nat → Nat} {cy : Nat → ClassId} (E : EE p s m args c cX2_becomeBlocks 5 (wsM yX2_becomeBlocks cX2_becomeBlocks 5 none) RX2 D cy) (hr : meth.sig.returnType = none) (hlk : meth.locks = false) {h' : HP} (x0 : Nat) (x1 : Nat) (x2 : Int32) (x3 : Int32) : ∀ (n : Nat) (k : (HP → Option (HP))) (h : HP) (x4 : Int32), (∀ (h : HP), k h = some h' → JJ p l e rmX2_becomeBlocks s m args below meth c 0 0 (MQ below (QV D ad cy none h') args s 0 0 (Aw ad)) D ad cy (Aw ad) 5 h [(0, .ref (ad x0)), (1, .ref (ad x1)), (2, .int x2), (3, .int x3)] 76 []) → L_X2_becomeBlocks_41 x0 x1 x2 x3 n k h x4 = some h' → JJ p l e rmX2_becomeBlocks s m args below meth c 0 0 (MQ below (QV D ad cy none h') args s 0 0 (Aw ad)) D ad cy (Aw ad) 5 h [(0, .ref (ad x0)), (1, .ref (ad x1)), (2, .int x2), (3, .int x3), (4, .int x4)] 41 [] := by
  intro n
  induction n with
  | zero => intro k h x4 hk hf; cases hf
  | succ n ih =>
    intro k h x4 hk hf
    unfold L_X2_becomeBlocks_41 at hf
    refine j_iload E 4 rfl dX2_becomeBlocks_41 ?_
    refine j_bipush (v := 16) E dX2_becomeBlocks_43 (by decide) ?_
    refine j_icmp_ge (tgt := 76) E dX2_becomeBlocks_45 (by decide) (fun z10 => ?_) (fun z10 => ?_)
    · have hf := ifp hf z10
      refine j_perm (lv' := [(0, .ref (ad x0)), (1, .ref (ad x1)), (2, .int x2), (3, .int x3)]) [0, 1, 2, 3] rfl ?_
      exact hk h hf
    · have hf := ifn hf z10
      refine j_aload_n E 1 rfl dX2_becomeBlocks_48 rfl ?_
      refine j_iload_n E 3 rfl dX2_becomeBlocks_49 rfl ?_
      refine j_iload E 4 rfl dX2_becomeBlocks_50 ?_
      obtain ⟨k11, hf⟩ := ck_spec hf
      obtain ⟨v12, e13, hf⟩ := bs hf
      refine j_callV (ci := 1) (b := x1) (As := [.int x3, .int x4]) (rest := []) (v := (some (.int v12))) E (c_X2_keeps l D ad cy h x1 x3 x4 e13) (mcw E.1.2.2.2.2 uw_2_5 uw_2_2 uw_2_3 uw_2_4 uw_1_4 rfl rfl hd_X2_keeps ⟨by decide, by decide⟩) rfl k11 rfl rfl (Nat.le_of_ble_eq_true rfl) dX2_becomeBlocks_52 ⟨Nat.zero_le _, Nat.zero_le _⟩ ?_
      refine j_stk (st' := [.int v12]) rfl ?_
      refine j_if_eq (tgt := 70) E dX2_becomeBlocks_55 (by decide) (fun z14 => ?_) (fun z14 => ?_)
      · have hf := ifp hf z14
        refine j_iinc (v := (x4 + 1)) (k0 := 4) (lv' := [(4, .int (x4 + 1)), (0, .ref (ad x0)), (1, .ref (ad x1)), (2, .int x2), (3, .int x3)]) E dX2_becomeBlocks_70 rfl (congrArg (fun z => x4 + z) (by decide)) (by decide) rfl ?_
        refine j_goto (tgt := 41) E dX2_becomeBlocks_73 (by decide) ?_
        refine j_perm (lv' := [(0, .ref (ad x0)), (1, .ref (ad x1)), (2, .int x2), (3, .int x3), (4, .int (x4 + 1))]) [1, 2, 3, 4, 0] rfl ?_
        exact ih k h (x4 + 1) hk hf
      · have hf := ifn hf z14
        refine j_aload_n E 0 rfl dX2_becomeBlocks_58 rfl ?_
        refine j_iload_n E 3 rfl dX2_becomeBlocks_59 rfl ?_
        refine j_iload_n E 2 rfl dX2_becomeBlocks_60 rfl ?_
        obtain ⟨n15, hf⟩ := nz_spec hf
        refine j_idiv E n15 dX2_becomeBlocks_61 ?_
        refine j_iload E 4 rfl dX2_becomeBlocks_62 ?_
        refine j_iload_n E 2 rfl dX2_becomeBlocks_64 rfl ?_
        obtain ⟨n16, hf⟩ := nz_spec hf
        refine j_idiv E n16 dX2_becomeBlocks_65 ?_
        refine j_lconst (v := 0) E dX2_becomeBlocks_66 (by decide) ?_
        obtain ⟨k17, hf⟩ := ck_spec hf
        obtain ⟨h18, e19, hf⟩ := bs hf
        refine j_callV (ci := 1) (b := x0) (As := [.int (x3 / x2), .int (x4 / x2), .long 0]) (rest := []) (v := none) E (c_X2_put l D ad cy h x0 (x3 / x2) (x4 / x2) 0 e19) (mcw E.1.2.2.2.2 uw_1_229 uw_1_226 uw_1_227 uw_1_228 uw_1_4 rfl rfl hd_X2_put ⟨by decide, by decide⟩) rfl k17 rfl rfl (Nat.le_of_ble_eq_true rfl) dX2_becomeBlocks_67 ⟨Nat.zero_le _, Nat.zero_le _⟩ ?_
        refine j_stk (st' := []) rfl ?_
        refine j_iinc (v := (x4 + 1)) (k0 := 4) (lv' := [(4, .int (x4 + 1)), (0, .ref (ad x0)), (1, .ref (ad x1)), (2, .int x2), (3, .int x3)]) E dX2_becomeBlocks_70 rfl (congrArg (fun z => x4 + z) (by decide)) (by decide) rfl ?_
        refine j_goto (tgt := 41) E dX2_becomeBlocks_73 (by decide) ?_
        refine j_perm (lv' := [(0, .ref (ad x0)), (1, .ref (ad x1)), (2, .int x2), (3, .int x3), (4, .int (x4 + 1))]) [1, 2, 3, 4, 0] rfl ?_
        exact ih k h18 (x4 + 1) hk hf
set_option maxRecDepth 100000 in
set_option maxHeartbeats 4000000 in
theorem w_X2_becomeBlocks_32 {p : Program} {l : Launch} {e : Env} {s : State} {m : MethodId} {args : Array Value} {below : List Frame} {meth : Method} {c : Code} {D : va_G} {ad : Nat → Nat} {cy : Nat → ClassId} (E : EE p s m args c cX2_becomeBlocks 5 (wsM yX2_becomeBlocks cX2_becomeBlocks 5 none) RX2 D cy) (hr : meth.sig.returnType = none) (hlk : meth.locks = false) {h' : HP} (x0 : Nat) (x1 : Nat) (x2 : Int32) : ∀ (n : Nat) (k : (HP → Option (HP))) (h : HP) (x3 : Int32), (∀ (h : HP), k h = some h' → JJ p l e rmX2_becomeBlocks s m args below meth c 0 0 (MQ below (QV D ad cy none h') args s 0 0 (Aw ad)) D ad cy (Aw ad) 5 h [] 82 []) → L_X2_becomeBlocks_32 x0 x1 x2 n k h x3 = some h' → JJ p l e rmX2_becomeBlocks s m args below meth c 0 0 (MQ below (QV D ad cy none h') args s 0 0 (Aw ad)) D ad cy (Aw ad) 5 h [(0, .ref (ad x0)), (1, .ref (ad x1)), (2, .int x2), (3, .int x3)] 32 [] := by
  intro n
  induction n with
  | zero => intro k h x3 hk hf; cases hf
  | succ n ih =>
    intro k h x3 hk hf
    unfold L_X2_becomeBlocks_32 at hf
    refine j_iload_n E 3 rfl dX2_becomeBlocks_32 rfl ?_
    refine j_bipush (v := 16) E dX2_becomeBlocks_33 (by decide) ?_
    refine j_icmp_ge (tgt := 82) E dX2_becomeBlocks_35 (by decide) (fun z9 => ?_) (fun z9 => ?_)
    · have hf := ifp hf z9
      refine j_perm (lv' := []) [] rfl ?_
      exact hk h hf
    · have hf := ifn hf z9
      refine j_iconst (v := 0) E dX2_becomeBlocks_38 (by decide) ?_
      refine j_istore (lv' := [(4, .int 0), (0, .ref (ad x0)), (1, .ref (ad x1)), (2, .int x2), (3, .int x3)]) E dX2_becomeBlocks_39 (by decide) rfl ?_
      refine j_perm (lv' := [(0, .ref (ad x0)), (1, .ref (ad x1)), (2, .int x2), (3, .int x3), (4, .int 0)]) [1, 2, 3, 4, 0] rfl ?_
      refine w_X2_becomeBlocks_41 E hr hlk x0 x1 x2 x3 FU _ h 0 (fun h20 hf => ?_) hf
      refine j_iinc (v := (x3 + 1)) (k0 := 3) (lv' := [(3, .int (x3 + 1)), (0, .ref (ad x0)), (1, .ref (ad x1)), (2, .int x2)]) E dX2_becomeBlocks_76 rfl (congrArg (fun z => x3 + z) (by decide)) (by decide) rfl ?_
      refine j_goto (tgt := 32) E dX2_becomeBlocks_79 (by decide) ?_
      refine j_perm (lv' := [(0, .ref (ad x0)), (1, .ref (ad x1)), (2, .int x2), (3, .int (x3 + 1))]) [1, 2, 3, 0] rfl ?_
      exact ih k h20 (x3 + 1) hk hf
set_option maxRecDepth 100000 in
set_option maxHeartbeats 4000000 in
theorem c_X2_becomeBlocks (l : Launch) (D : va_G) (ad : Nat → Nat) (cy : Nat → ClassId) (h : HP) (x0 : Nat) (x1 : Nat) (x2 : Int32) {h' : HP} (hf : f_X2_becomeBlocks h x0 x1 x2 = some h') : Met l yX2_becomeBlocks (wsM yX2_becomeBlocks cX2_becomeBlocks 5 none) rmX2_becomeBlocks (va_Pc [.ref (ad x0), .ref (ad x1), .int x2] (PW D ad cy h)) (QV D ad cy none h') 0 0 (Aw ad) := by
  refine met_of (own := RX2) (lv := [(0, .ref (ad x0)), (1, .ref (ad x1)), (2, .int x2)]) (by decide) rfl (Nat.le_of_ble_eq_true rfl) rfl (fun p e s m args below meth c E hr hlk => ?_)
  unfold f_X2_becomeBlocks at hf
  refine j_iload_n E 2 rfl dX2_becomeBlocks_0 rfl ?_
  refine j_iconst (v := 1) E dX2_becomeBlocks_1 (by decide) ?_
  refine j_icmp_ge (tgt := 6) E dX2_becomeBlocks_2 (by decide) (fun z1 => ?_) (fun z1 => ?_)
  · have hf := ifp hf z1
    refine j_aload_n E 0 rfl dX2_becomeBlocks_6 rfl ?_
    refine j_aload_n E 1 rfl dX2_becomeBlocks_7 rfl ?_
    obtain ⟨v2, ev2, hf⟩ := bs hf
    refine j_getI (ci := 1) (k0 := 0) (T := TX2) (N := 4) E (mI inUX2) rfl (by decide) (mU uw_1_73) ev2 dX2_becomeBlocks_8 ?_
    refine j_iload_n E 2 rfl dX2_becomeBlocks_11 rfl ?_
    refine j_iadd E dX2_becomeBlocks_12 ?_
    refine j_iconst (v := 1) E dX2_becomeBlocks_13 (by decide) ?_
    refine j_isub E dX2_becomeBlocks_14 ?_
    refine j_iload_n E 2 rfl dX2_becomeBlocks_15 rfl ?_
    obtain ⟨n3, hf⟩ := nz_spec hf
    refine j_idiv E n3 dX2_becomeBlocks_16 ?_
    refine j_aload_n E 1 rfl dX2_becomeBlocks_17 rfl ?_
    obtain ⟨v4, ev4, hf⟩ := bs hf
    refine j_getI (ci := 1) (k0 := 1) (T := TX2) (N := 4) E (mI inUX2) rfl (by decide) (mU uw_1_77) ev4 dX2_becomeBlocks_18 ?_
    refine j_iload_n E 2 rfl dX2_becomeBlocks_21 rfl ?_
    refine j_iadd E dX2_becomeBlocks_22 ?_
    refine j_iconst (v := 1) E dX2_becomeBlocks_23 (by decide) ?_
    refine j_isub E dX2_becomeBlocks_24 ?_
    refine j_iload_n E 2 rfl dX2_becomeBlocks_25 rfl ?_
    obtain ⟨n5, hf⟩ := nz_spec hf
    refine j_idiv E n5 dX2_becomeBlocks_26 ?_
    obtain ⟨k6, hf⟩ := ck_spec hf
    obtain ⟨h7, e8, hf⟩ := bs hf
    refine j_callV (ci := 1) (b := x0) (As := [.int (((v2 + x2) - 1) / x2), .int (((v4 + x2) - 1) / x2)]) (rest := []) (v := none) E (c_X2_begin l D ad cy h x0 (((v2 + x2) - 1) / x2) (((v4 + x2) - 1) / x2) e8) (mcw E.1.2.2.2.2 uw_1_139 uw_2_78 uw_1_137 uw_1_138 uw_1_4 rfl rfl hd_X2_begin ⟨by decide, by decide⟩) rfl k6 rfl rfl (Nat.le_of_ble_eq_true rfl) dX2_becomeBlocks_27 ⟨Nat.zero_le _, Nat.zero_le _⟩ ?_
    refine j_stk (st' := []) rfl ?_
    refine j_iconst (v := 0) E dX2_becomeBlocks_30 (by decide) ?_
    refine j_istore_n (lv' := [(3, .int 0), (0, .ref (ad x0)), (1, .ref (ad x1)), (2, .int x2)]) E dX2_becomeBlocks_31 rfl (by decide) rfl ?_
    refine j_perm (lv' := [(0, .ref (ad x0)), (1, .ref (ad x1)), (2, .int x2), (3, .int 0)]) [1, 2, 3, 0] rfl ?_
    refine w_X2_becomeBlocks_32 E hr hlk x0 x1 x2 FU _ h7 0 (fun h21 hf => ?_) hf
    cases hf
    exact j_vret E hr hlk dX2_becomeBlocks_82
  · have hf := ifn hf z1
    cases hf
    exact j_vret E hr hlk dX2_becomeBlocks_5
noncomputable def f_X0_cellCount (h : HP) (x0 : Nat) (x1 : Int32) (x2 : Int32) (x3 : Nat) : Option (HP × Int32) :=
  ck 1 h x0 <|
  (f_X2_keptCount h x0).bind fun v2 =>
  if x1 = 0 then (
    some (h, (3 * v2))
  ) else
  if x1 = 1 then (
    (gI 1 h x0 0).bind fun v6 =>
    some (h, ((v6 + 1) + (2 * v2)))
  ) else
  if x1 = 2 then (
    (gI 1 h x0 1).bind fun v8 =>
    some (h, ((v8 + 1) + (2 * v2)))
  ) else
  if x1 = 3 then (
    ck 1 h x3 <|
    (f_X2_becomeBlocks h x3 x0 x2).bind fun h11 =>
    (f_X0_headLength h11 x3).bind fun v13 =>
    ck 1 h11 x3 <|
    (f_X2_keptCount h11 x3).bind fun v16 =>
    some (h11, (v13 + ((v16 * x2) * x2)))
  ) else
  if x1 = 4 then (
    (gI 1 h x0 0).bind fun v19 =>
    (gI 1 h x0 1).bind fun v20 =>
    some (h, (v19 * v20))
  ) else
  if x1 = 5 then (
    (f_X0_slantCount h x0).bind fun v22 =>
    (gI 1 h x0 0).bind fun v24 =>
    some (h, (v22 * (v24 + 1)))
  ) else
  (
    some (h, 0)
  )
abbrev rmX0_cellCount : Room := { frames := 4, cells := 0, slots := 0, locals := 87 }
theorem hd_X0_cellCount : yX0_cellCount.cls = RX0 ∧ yX0_cellCount.cls ≠ "java/lang/invoke/MethodHandle" ∧ yX0_cellCount.cls ≠ "java/lang/invoke/VarHandle" ∧ (parseMethodDescriptor yX0_cellCount.desc).map (fun d => d.parameters.length) = some 4 := by decide +kernel
set_option maxRecDepth 100000 in
set_option maxHeartbeats 4000000 in
theorem c_X0_cellCount (l : Launch) (D : va_G) (ad : Nat → Nat) (cy : Nat → ClassId) (h : HP) (x0 : Nat) (x1 : Int32) (x2 : Int32) (x3 : Nat) {h' : HP} {r : Int32} (hf : f_X0_cellCount h x0 x1 x2 x3 = some (h', r)) : Met l yX0_cellCount (wsM yX0_cellCount cX0_cellCount 5 (some .int)) rmX0_cellCount (va_Pc [.ref (ad x0), .int x1, .int x2, .ref (ad x3)] (PW D ad cy h)) (QV D ad cy (some (.int r)) h') 0 0 (Aw ad) := by
  refine met_of (own := RX0) (lv := [(0, .ref (ad x0)), (1, .int x1), (2, .int x2), (3, .ref (ad x3))]) (by decide) rfl (Nat.le_of_ble_eq_true rfl) rfl (fun p e s m args below meth c E hr hlk => ?_)
  unfold f_X0_cellCount at hf
  refine j_aload_n E 0 rfl dX0_cellCount_0 rfl ?_
  obtain ⟨k1, hf⟩ := ck_spec hf
  obtain ⟨v2, e3, hf⟩ := bs hf
  refine j_callV (ci := 1) (b := x0) (As := []) (rest := []) (v := (some (.int v2))) E (c_X2_keptCount l D ad cy h x0 e3) (mcw E.1.2.2.2.2 uw_1_147 uw_2_169 uw_1_145 uw_1_146 uw_1_4 rfl rfl hd_X2_keptCount ⟨by decide, by decide⟩) rfl k1 rfl rfl (Nat.le_of_ble_eq_true rfl) dX0_cellCount_1 ⟨Nat.zero_le _, Nat.zero_le _⟩ ?_
  refine j_stk (st' := [.int v2]) rfl ?_
  refine j_istore (lv' := [(4, .int v2), (0, .ref (ad x0)), (1, .int x1), (2, .int x2), (3, .ref (ad x3))]) E dX0_cellCount_4 (by decide) rfl ?_
  refine j_iload_n E 2 rfl dX0_cellCount_6 rfl ?_
  by_cases z4 : x1 = 0
  · have hf := ifp hf z4
    refine j_tabIn (off := 37) (tgt := 44) E dX0_cellCount_7 (by rw [z4]; decide) (by rw [z4]; decide) (by rw [z4]; decide) (by decide) ?_
    refine j_iconst (v := 3) E dX0_cellCount_44 (by decide) ?_
    refine j_iload E 0 rfl dX0_cellCount_45 ?_
    refine j_imul E dX0_cellCount_47 ?_
    cases hf
    exact j_iret E hr hlk dX0_cellCount_48
  · have hf := ifn hf z4
    by_cases z5 : x1 = 1
    · have hf := ifp hf z5
      refine j_tabIn (off := 42) (tgt := 49) E dX0_cellCount_7 (by rw [z5]; decide) (by rw [z5]; decide) (by rw [z5]; decide) (by decide) ?_
      refine j_aload_n E 1 rfl dX0_cellCount_49 rfl ?_
      obtain ⟨v6, ev6, hf⟩ := bs hf
      refine j_getI (ci := 1) (k0 := 0) (T := TX2) (N := 4) E (mI inUX2) rfl (by decide) (mU uw_1_75) ev6 dX0_cellCount_50 ?_
      refine j_iconst (v := 1) E dX0_cellCount_53 (by decide) ?_
      refine j_iadd E dX0_cellCount_54 ?_
      refine j_iconst (v := 2) E dX0_cellCount_55 (by decide) ?_
      refine j_iload E 0 rfl dX0_cellCount_56 ?_
      refine j_imul E dX0_cellCount_58 ?_
      refine j_iadd E dX0_cellCount_59 ?_
      cases hf
      exact j_iret E hr hlk dX0_cellCount_60
    · have hf := ifn hf z5
      by_cases z7 : x1 = 2
      · have hf := ifp hf z7
        refine j_tabIn (off := 54) (tgt := 61) E dX0_cellCount_7 (by rw [z7]; decide) (by rw [z7]; decide) (by rw [z7]; decide) (by decide) ?_
        refine j_aload_n E 1 rfl dX0_cellCount_61 rfl ?_
        obtain ⟨v8, ev8, hf⟩ := bs hf
        refine j_getI (ci := 1) (k0 := 1) (T := TX2) (N := 4) E (mI inUX2) rfl (by decide) (mU uw_1_78) ev8 dX0_cellCount_62 ?_
        refine j_iconst (v := 1) E dX0_cellCount_65 (by decide) ?_
        refine j_iadd E dX0_cellCount_66 ?_
        refine j_iconst (v := 2) E dX0_cellCount_67 (by decide) ?_
        refine j_iload E 0 rfl dX0_cellCount_68 ?_
        refine j_imul E dX0_cellCount_70 ?_
        refine j_iadd E dX0_cellCount_71 ?_
        cases hf
        exact j_iret E hr hlk dX0_cellCount_72
      · have hf := ifn hf z7
        by_cases z9 : x1 = 3
        · have hf := ifp hf z9
          refine j_tabIn (off := 66) (tgt := 73) E dX0_cellCount_7 (by rw [z9]; decide) (by rw [z9]; decide) (by rw [z9]; decide) (by decide) ?_
          refine j_aload_n E 4 rfl dX0_cellCount_73 rfl ?_
          refine j_aload_n E 1 rfl dX0_cellCount_74 rfl ?_
          refine j_iload_n E 3 rfl dX0_cellCount_75 rfl ?_
          obtain ⟨k10, hf⟩ := ck_spec hf
          obtain ⟨h11, e12, hf⟩ := bs hf
          refine j_callV (ci := 1) (b := x3) (As := [.ref (ad x0), .int x2]) (rest := []) (v := none) E (c_X2_becomeBlocks l D ad cy h x3 x0 x2 e12) (mcw E.1.2.2.2.2 uw_2_173 uw_2_170 uw_2_171 uw_2_172 uw_1_4 rfl rfl hd_X2_becomeBlocks ⟨by decide, by decide⟩) rfl k10 rfl rfl (Nat.le_of_ble_eq_true rfl) dX0_cellCount_76 ⟨Nat.zero_le _, Nat.zero_le _⟩ ?_
          refine j_stk (st' := []) rfl ?_
          refine j_aload_n E 4 rfl dX0_cellCount_79 rfl ?_
          obtain ⟨v13, e14, hf⟩ := bs hf
          refine j_callS (As := [.ref (ad x3)]) (rest := []) (v := (some (.int v13))) E (c_X0_headLength l D ad cy h11 x3 e14) (mcs E.1.2.2.2.2 uw_2_176 uw_2_174 uw_2_175 uw_1_9 rfl rfl hd_X0_headLength ⟨by decide, by decide⟩) rfl rfl (Nat.le_of_ble_eq_true rfl) dX0_cellCount_80 ⟨Nat.zero_le _, Nat.zero_le _⟩ ?_
          refine j_stk (st' := [.int v13]) rfl ?_
          refine j_aload_n E 4 rfl dX0_cellCount_83 rfl ?_
          obtain ⟨k15, hf⟩ := ck_spec hf
          obtain ⟨v16, e17, hf⟩ := bs hf
          refine j_callV (ci := 1) (b := x3) (As := []) (rest := [.int v13]) (v := (some (.int v16))) E (c_X2_keptCount l D ad cy h11 x3 e17) (mcw E.1.2.2.2.2 uw_1_147 uw_2_169 uw_1_145 uw_1_146 uw_1_4 rfl rfl hd_X2_keptCount ⟨by decide, by decide⟩) rfl k15 rfl rfl (Nat.le_of_ble_eq_true rfl) dX0_cellCount_84 ⟨Nat.zero_le _, Nat.zero_le _⟩ ?_
          refine j_stk (st' := [.int v16, .int v13]) rfl ?_
          refine j_iload_n E 3 rfl dX0_cellCount_87 rfl ?_
          refine j_imul E dX0_cellCount_88 ?_
          refine j_iload_n E 3 rfl dX0_cellCount_89 rfl ?_
          refine j_imul E dX0_cellCount_90 ?_
          refine j_iadd E dX0_cellCount_91 ?_
          cases hf
          exact j_iret E hr hlk dX0_cellCount_92
        · have hf := ifn hf z9
          by_cases z18 : x1 = 4
          · have hf := ifp hf z18
            refine j_tabIn (off := 86) (tgt := 93) E dX0_cellCount_7 (by rw [z18]; decide) (by rw [z18]; decide) (by rw [z18]; decide) (by decide) ?_
            refine j_aload_n E 1 rfl dX0_cellCount_93 rfl ?_
            obtain ⟨v19, ev19, hf⟩ := bs hf
            refine j_getI (ci := 1) (k0 := 0) (T := TX2) (N := 4) E (mI inUX2) rfl (by decide) (mU uw_1_75) ev19 dX0_cellCount_94 ?_
            refine j_aload_n E 1 rfl dX0_cellCount_97 rfl ?_
            obtain ⟨v20, ev20, hf⟩ := bs hf
            refine j_getI (ci := 1) (k0 := 1) (T := TX2) (N := 4) E (mI inUX2) rfl (by decide) (mU uw_1_78) ev20 dX0_cellCount_98 ?_
            refine j_imul E dX0_cellCount_101 ?_
            cases hf
            exact j_iret E hr hlk dX0_cellCount_102
          · have hf := ifn hf z18
            by_cases z21 : x1 = 5
            · have hf := ifp hf z21
              refine j_tabIn (off := 96) (tgt := 103) E dX0_cellCount_7 (by rw [z21]; decide) (by rw [z21]; decide) (by rw [z21]; decide) (by decide) ?_
              refine j_aload_n E 1 rfl dX0_cellCount_103 rfl ?_
              obtain ⟨v22, e23, hf⟩ := bs hf
              refine j_callS (As := [.ref (ad x0)]) (rest := []) (v := (some (.int v22))) E (c_X0_slantCount l D ad cy h x0 e23) (mcs E.1.2.2.2.2 uw_2_179 uw_2_177 uw_2_178 uw_1_9 rfl rfl hd_X0_slantCount ⟨by decide, by decide⟩) rfl rfl (Nat.le_of_ble_eq_true rfl) dX0_cellCount_104 ⟨Nat.zero_le _, Nat.zero_le _⟩ ?_
              refine j_stk (st' := [.int v22]) rfl ?_
              refine j_aload_n E 1 rfl dX0_cellCount_107 rfl ?_
              obtain ⟨v24, ev24, hf⟩ := bs hf
              refine j_getI (ci := 1) (k0 := 0) (T := TX2) (N := 4) E (mI inUX2) rfl (by decide) (mU uw_1_75) ev24 dX0_cellCount_108 ?_
              refine j_iconst (v := 1) E dX0_cellCount_111 (by decide) ?_
              refine j_iadd E dX0_cellCount_112 ?_
              refine j_imul E dX0_cellCount_113 ?_
              cases hf
              exact j_iret E hr hlk dX0_cellCount_114
            · have hf := ifn hf z21
              refine j_tabOut (tgt := 115) E dX0_cellCount_7 (sw_out x1 5 5 rfl (by decide) (fun k hk => match k, hk with | 0, _ => z4 | 1, _ => z5 | 2, _ => z7 | 3, _ => z9 | 4, _ => z18 | 5, _ => z21 | k + 6, hk => absurd hk (by omega))) (by decide) ?_
              refine j_iconst (v := 0) E dX0_cellCount_115 (by decide) ?_
              cases hf
              exact j_iret E hr hlk dX0_cellCount_116
noncomputable def L_X2_bitNumber_4 (h : HP) (x0 : Int32) : Nat → (Option (Int32)) → Int32 → Int32 → Option (Int32)
  | 0, _, _, _ => none
  | n + 1, k, x2, x3 =>
      if 16 ≤ x3 then (
        k
      ) else (
        (f_X5_hasBit x0 x3).bind fun v2 =>
        if v2 = 0 then (
          L_X2_bitNumber_4 h x0 n k x2 (x3 + 1)
        ) else (
          if x2 = 0 then (
            some x3
          ) else (
            L_X2_bitNumber_4 h x0 n k (x2 + (-1)) (x3 + 1)
          )
        )
      )
noncomputable def f_X2_bitNumber (h : HP) (x0 : Int32) (x1 : Int32) : Option (Int32) :=
  L_X2_bitNumber_4 h x0 FU (
    some 0) x1 0
abbrev rmX2_bitNumber : Room := { frames := 1, cells := 0, slots := 0, locals := 21 }
theorem hd_X2_bitNumber : yX2_bitNumber.cls = RX2 ∧ yX2_bitNumber.cls ≠ "java/lang/invoke/MethodHandle" ∧ yX2_bitNumber.cls ≠ "java/lang/invoke/VarHandle" ∧ (parseMethodDescriptor yX2_bitNumber.desc).map (fun d => d.parameters.length) = some 2 := by decide +kernel
set_option maxRecDepth 100000 in
set_option maxHeartbeats 4000000 in
theorem w_X2_bitNumber_4 {p : Program} {l : Launch} {e : Env} {s : State} {m : MethodId} {args : Array Value} {below : List Frame} {meth : Method} {c : Code} {D : va_G} {ad : Nat → Nat} {cy : Nat → ClassId} (E : EE p s m args c cX2_bitNumber 4 (wsM yX2_bitNumber cX2_bitNumber 4 (some .int)) RX2 D cy) (hr : meth.sig.returnType = (some .int)) (hlk : meth.locks = false) {r : Int32} (h : HP) (x0 : Int32) : ∀ (n : Nat) (k : (Option (Int32))) (x2 : Int32) (x3 : Int32), (k = some r → JJ p l e rmX2_bitNumber s m args below meth c 0 0 (MQ below (QV D ad cy (some (.int r)) h) args s 0 0 (Aw ad)) D ad cy (Aw ad) 4 h [] 33 []) → L_X2_bitNumber_4 h x0 n k x2 x3 = some r → JJ p l e rmX2_bitNumber s m args below meth c 0 0 (MQ below (QV D ad cy (some (.int r)) h) args s 0 0 (Aw ad)) D ad cy (Aw ad) 4 h [(0, .int x0), (2, .int x2), (3, .int x3)] 4 [] := by
  intro n
  induction n with
  | zero => intro k x2 x3 hk hf; cases hf
  | succ n ih =>
    intro k x2 x3 hk hf
    unfold L_X2_bitNumber_4 at hf
    refine j_iload_n E 2 rfl dX2_bitNumber_4 rfl ?_
    refine j_bipush (v := 16) E dX2_bitNumber_5 (by decide) ?_
    refine j_icmp_ge (tgt := 33) E dX2_bitNumber_7 (by decide) (fun z1 => ?_) (fun z1 => ?_)
    · have hf := ifp hf z1
      refine j_perm (lv' := []) [] rfl ?_
      exact hk hf
    · have hf := ifn hf z1
      refine j_iload_n E 0 rfl dX2_bitNumber_10 rfl ?_
      refine j_iload_n E 2 rfl dX2_bitNumber_11 rfl ?_
      obtain ⟨v2, e3, hf⟩ := bs hf
      refine j_callSN (host := RX5) (As := [.int x0, .int x3]) (rest := []) (v := (some (.int v2))) E (c_X5_hasBit l D ad cy h x0 x3 e3) (mcn E.1.2.2.2.2 E.2.2 6 rfl uw_2_8 uw_2_7 uw_1_1 rfl rfl hd_X5_hasBit ⟨by decide, by decide⟩) rfl rfl (Nat.le_of_ble_eq_true rfl) dX2_bitNumber_12 ⟨Nat.zero_le _, Nat.zero_le _⟩ ?_
      refine j_stk (st' := [.int v2]) rfl ?_
      refine j_if_eq (tgt := 27) E dX2_bitNumber_15 (by decide) (fun z4 => ?_) (fun z4 => ?_)
      · have hf := ifp hf z4
        refine j_iinc (v := (x3 + 1)) (k0 := 2) (lv' := [(3, .int (x3 + 1)), (0, .int x0), (2, .int x2)]) E dX2_bitNumber_27 rfl (congrArg (fun z => x3 + z) (by decide)) (by decide) rfl ?_
        refine j_goto (tgt := 4) E dX2_bitNumber_30 (by decide) ?_
        refine j_perm (lv' := [(0, .int x0), (2, .int x2), (3, .int (x3 + 1))]) [1, 2, 0] rfl ?_
        exact ih k x2 (x3 + 1) hk hf
      · have hf := ifn hf z4
        refine j_iload_n E 1 rfl dX2_bitNumber_18 rfl ?_
        refine j_if_ne (tgt := 24) E dX2_bitNumber_19 (by decide) (fun z5 => ?_) (fun z5 => ?_)
        · have hf := ifn hf z5
          refine j_iinc (v := (x2 + (-1))) (k0 := 1) (lv' := [(2, .int (x2 + (-1))), (0, .int x0), (3, .int x3)]) E dX2_bitNumber_24 rfl (congrArg (fun z => x2 + z) (by decide)) (by decide) rfl ?_
          refine j_iinc (v := (x3 + 1)) (k0 := 2) (lv' := [(3, .int (x3 + 1)), (2, .int (x2 + (-1))), (0, .int x0)]) E dX2_bitNumber_27 rfl (congrArg (fun z => x3 + z) (by decide)) (by decide) rfl ?_
          refine j_goto (tgt := 4) E dX2_bitNumber_30 (by decide) ?_
          refine j_perm (lv' := [(0, .int x0), (2, .int (x2 + (-1))), (3, .int (x3 + 1))]) [2, 1, 0] rfl ?_
          exact ih k (x2 + (-1)) (x3 + 1) hk hf
        · have hf := ifp hf z5
          refine j_iload_n E 2 rfl dX2_bitNumber_22 rfl ?_
          cases hf
          exact j_iret E hr hlk dX2_bitNumber_23
set_option maxRecDepth 100000 in
set_option maxHeartbeats 4000000 in
theorem c_X2_bitNumber (l : Launch) (D : va_G) (ad : Nat → Nat) (cy : Nat → ClassId) (h : HP) (x0 : Int32) (x1 : Int32) {r : Int32} (hf : f_X2_bitNumber h x0 x1 = some r) : Met l yX2_bitNumber (wsM yX2_bitNumber cX2_bitNumber 4 (some .int)) rmX2_bitNumber (va_Pc [.int x0, .int x1] (PW D ad cy h)) (QV D ad cy (some (.int r)) h) 0 0 (Aw ad) := by
  refine met_of (own := RX2) (lv := [(0, .int x0), (1, .int x1)]) (by decide) rfl (Nat.le_of_ble_eq_true rfl) rfl (fun p e s m args below meth c E hr hlk => ?_)
  unfold f_X2_bitNumber at hf
  refine j_iload_n E 1 rfl dX2_bitNumber_0 rfl ?_
  refine j_istore_n (lv' := [(2, .int x1), (0, .int x0), (1, .int x1)]) E dX2_bitNumber_1 rfl (by decide) rfl ?_
  refine j_iconst (v := 0) E dX2_bitNumber_2 (by decide) ?_
  refine j_istore_n (lv' := [(3, .int 0), (2, .int x1), (0, .int x0), (1, .int x1)]) E dX2_bitNumber_3 rfl (by decide) rfl ?_
  refine j_perm (lv' := [(0, .int x0), (2, .int x1), (3, .int 0)]) [2, 1, 0] rfl ?_
  refine w_X2_bitNumber_4 E hr hlk h x0 FU _ x1 0 (fun hf => ?_) hf
  refine j_iconst (v := 0) E dX2_bitNumber_33 (by decide) ?_
  cases hf
  exact j_iret E hr hlk dX2_bitNumber_34
noncomputable def L_X2_placeNumber_4 (h : HP) (x0 : Nat) : Nat → (Option (Int32)) → Int32 → Int32 → Option (Int32)
  | 0, _, _, _ => none
  | n + 1, k, x2, x3 =>
      if 16 ≤ x3 then (
        k
      ) else (
        (gR 1 h x0 2).bind fun v2 =>
        (aI h v2 x3).bind fun v3 =>
        (f_J6_bitCount_0f7a4 v3).bind fun v4 =>
        if v4 ≤ x2 then (
          L_X2_placeNumber_4 h x0 n k (x2 - v4) (x3 + 1)
        ) else (
          (gR 1 h x0 2).bind fun v7 =>
          (aI h v7 x3).bind fun v8 =>
          (f_X2_bitNumber h v8 x2).bind fun v9 =>
          some ((x3 * 16) + v9)
        )
      )
noncomputable def f_X2_placeNumber (h : HP) (x0 : Nat) (x1 : Int32) : Option (Int32) :=
  L_X2_placeNumber_4 h x0 FU (
    some 0) x1 0
abbrev rmX2_placeNumber : Room := { frames := 2, cells := 0, slots := 0, locals := 44 }
theorem hd_X2_placeNumber : yX2_placeNumber.cls = RX2 ∧ yX2_placeNumber.cls ≠ "java/lang/invoke/MethodHandle" ∧ yX2_placeNumber.cls ≠ "java/lang/invoke/VarHandle" ∧ (parseMethodDescriptor yX2_placeNumber.desc).map (fun d => d.parameters.length) = some 1 := by decide +kernel
set_option maxRecDepth 100000 in
set_option maxHeartbeats 4000000 in
theorem w_X2_placeNumber_4 {p : Program} {l : Launch} {e : Env} {s : State} {m : MethodId} {args : Array Value} {below : List Frame} {meth : Method} {c : Code} {D : va_G} {ad : Nat → Nat} {cy : Nat → ClassId} (E : EE p s m args c cX2_placeNumber 5 (wsM yX2_placeNumber cX2_placeNumber 5 (some .int)) RX2 D cy) (hr : meth.sig.returnType = (some .int)) (hlk : meth.locks = false) {r : Int32} (h : HP) (x0 : Nat) : ∀ (n : Nat) (k : (Option (Int32))) (x2 : Int32) (x3 : Int32), (k = some r → JJ p l e rmX2_placeNumber s m args below meth c 0 0 (MQ below (QV D ad cy (some (.int r)) h) args s 0 0 (Aw ad)) D ad cy (Aw ad) 5 h [] 54 []) → L_X2_placeNumber_4 h x0 n k x2 x3 = some r → JJ p l e rmX2_placeNumber s m args below meth c 0 0 (MQ below (QV D ad cy (some (.int r)) h) args s 0 0 (Aw ad)) D ad cy (Aw ad) 5 h [(0, .ref (ad x0)), (2, .int x2), (3, .int x3)] 4 [] := by
  intro n
  induction n with
  | zero => intro k x2 x3 hk hf; cases hf
  | succ n ih =>
    intro k x2 x3 hk hf
    unfold L_X2_placeNumber_4 at hf
    refine j_iload_n E 2 rfl dX2_placeNumber_4 rfl ?_
    refine j_bipush (v := 16) E dX2_placeNumber_5 (by decide) ?_
    refine j_icmp_ge (tgt := 54) E dX2_placeNumber_7 (by decide) (fun z1 => ?_) (fun z1 => ?_)
    · have hf := ifp hf z1
      refine j_perm (lv' := []) [] rfl ?_
      exact hk hf
    · have hf := ifn hf z1
      refine j_aload_n E 0 rfl dX2_placeNumber_10 rfl ?_
      obtain ⟨v2, ev2, hf⟩ := bs hf
      refine j_getR (ci := 1) (k0 := 2) (T := TX2) (N := 4) E (mI inUX2) rfl (by decide) (mU uw_1_80) ev2 dX2_placeNumber_11 ?_
      refine j_iload_n E 2 rfl dX2_placeNumber_14 rfl ?_
      obtain ⟨v3, ev3, hf⟩ := bs hf
      refine j_aI E ev3 dX2_placeNumber_15 ?_
      obtain ⟨v4, e5, hf⟩ := bs hf
      refine j_callS (As := [.int v3]) (rest := []) (v := (some (.int v4))) E (c_J6_bitCount_0f7a4 l D ad cy h v3 e5) (mcs E.1.2.2.2.2 uw_1_154 uw_1_152 uw_1_153 uw_1_7 rfl rfl hd_J6_bitCount_0f7a4 ⟨by decide, by decide⟩) rfl rfl (Nat.le_of_ble_eq_true rfl) dX2_placeNumber_16 ⟨Nat.zero_le _, Nat.zero_le _⟩ ?_
      refine j_stk (st' := [.int v4]) rfl ?_
      refine j_istore (lv' := [(4, .int v4), (0, .ref (ad x0)), (2, .int x2), (3, .int x3)]) E dX2_placeNumber_19 (by decide) rfl ?_
      refine j_iload_n E 2 rfl dX2_placeNumber_21 rfl ?_
      refine j_iload E 0 rfl dX2_placeNumber_22 ?_
      refine j_icmp_ge (tgt := 43) E dX2_placeNumber_24 (by decide) (fun z6 => ?_) (fun z6 => ?_)
      · have hf := ifp hf z6
        refine j_iload_n E 2 rfl dX2_placeNumber_43 rfl ?_
        refine j_iload E 0 rfl dX2_placeNumber_44 ?_
        refine j_isub E dX2_placeNumber_46 ?_
        refine j_istore_n (lv' := [(2, .int (x2 - v4)), (4, .int v4), (0, .ref (ad x0)), (3, .int x3)]) E dX2_placeNumber_47 rfl (by decide) rfl ?_
        refine j_iinc (v := (x3 + 1)) (k0 := 3) (lv' := [(3, .int (x3 + 1)), (2, .int (x2 - v4)), (4, .int v4), (0, .ref (ad x0))]) E dX2_placeNumber_48 rfl (congrArg (fun z => x3 + z) (by decide)) (by decide) rfl ?_
        refine j_goto (tgt := 4) E dX2_placeNumber_51 (by decide) ?_
        refine j_perm (lv' := [(0, .ref (ad x0)), (2, .int (x2 - v4)), (3, .int (x3 + 1))]) [3, 1, 0] rfl ?_
        exact ih k (x2 - v4) (x3 + 1) hk hf
      · have hf := ifn hf z6
        refine j_iload_n E 3 rfl dX2_placeNumber_27 rfl ?_
        refine j_bipush (v := 16) E dX2_placeNumber_28 (by decide) ?_
        refine j_imul E dX2_placeNumber_30 ?_
        refine j_aload_n E 1 rfl dX2_placeNumber_31 rfl ?_
        obtain ⟨v7, ev7, hf⟩ := bs hf
        refine j_getR (ci := 1) (k0 := 2) (T := TX2) (N := 4) E (mI inUX2) rfl (by decide) (mU uw_1_80) ev7 dX2_placeNumber_32 ?_
        refine j_iload_n E 3 rfl dX2_placeNumber_35 rfl ?_
        obtain ⟨v8, ev8, hf⟩ := bs hf
        refine j_aI E ev8 dX2_placeNumber_36 ?_
        refine j_iload_n E 2 rfl dX2_placeNumber_37 rfl ?_
        obtain ⟨v9, e10, hf⟩ := bs hf
        refine j_callS (As := [.int v8, .int x2]) (rest := [.int (x3 * 16)]) (v := (some (.int v9))) E (c_X2_bitNumber l D ad cy h v8 x2 e10) (mcs E.1.2.2.2.2 uw_2_38 uw_2_36 uw_2_37 uw_1_4 rfl rfl hd_X2_bitNumber ⟨by decide, by decide⟩) rfl rfl (Nat.le_of_ble_eq_true rfl) dX2_placeNumber_38 ⟨Nat.zero_le _, Nat.zero_le _⟩ ?_
        refine j_stk (st' := [.int v9, .int (x3 * 16)]) rfl ?_
        refine j_iadd E dX2_placeNumber_41 ?_
        cases hf
        exact j_iret E hr hlk dX2_placeNumber_42
set_option maxRecDepth 100000 in
set_option maxHeartbeats 4000000 in
theorem c_X2_placeNumber (l : Launch) (D : va_G) (ad : Nat → Nat) (cy : Nat → ClassId) (h : HP) (x0 : Nat) (x1 : Int32) {r : Int32} (hf : f_X2_placeNumber h x0 x1 = some r) : Met l yX2_placeNumber (wsM yX2_placeNumber cX2_placeNumber 5 (some .int)) rmX2_placeNumber (va_Pc [.ref (ad x0), .int x1] (PW D ad cy h)) (QV D ad cy (some (.int r)) h) 0 0 (Aw ad) := by
  refine met_of (own := RX2) (lv := [(0, .ref (ad x0)), (1, .int x1)]) (by decide) rfl (Nat.le_of_ble_eq_true rfl) rfl (fun p e s m args below meth c E hr hlk => ?_)
  unfold f_X2_placeNumber at hf
  refine j_iload_n E 1 rfl dX2_placeNumber_0 rfl ?_
  refine j_istore_n (lv' := [(2, .int x1), (0, .ref (ad x0)), (1, .int x1)]) E dX2_placeNumber_1 rfl (by decide) rfl ?_
  refine j_iconst (v := 0) E dX2_placeNumber_2 (by decide) ?_
  refine j_istore_n (lv' := [(3, .int 0), (2, .int x1), (0, .ref (ad x0)), (1, .int x1)]) E dX2_placeNumber_3 rfl (by decide) rfl ?_
  refine j_perm (lv' := [(0, .ref (ad x0)), (2, .int x1), (3, .int 0)]) [2, 1, 0] rfl ?_
  refine w_X2_placeNumber_4 E hr hlk h x0 FU _ x1 0 (fun hf => ?_) hf
  refine j_iconst (v := 0) E dX2_placeNumber_54 (by decide) ?_
  cases hf
  exact j_iret E hr hlk dX2_placeNumber_55
