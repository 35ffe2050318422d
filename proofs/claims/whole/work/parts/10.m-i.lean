noncomputable def f_X5_narrow (h : HP) (x0 : Nat) (x1 : Int32) : Option (HP × Int32) :=
  ck 4 h x0 <|
  (f_X5_gridAt h x0 x1).bind fun v2 =>
  om v2 (
    some (h, (-1))
  ) fun a4 =>
    ck 1 h a4 <|
    (f_X2_isSquare h a4).bind fun v6 =>
    if v6 = 0 then (
      some (h, (-3))
    ) else (
      (gR 4 h x0 2).bind fun v9 =>
      ck 0 h v9 <|
      (f_X1_read h v9 a4).bind fun h11 =>
      (gR 4 h11 x0 2).bind fun v13 =>
      (gR 4 h11 x0 5).bind fun v14 =>
      ck 0 h11 v13 <|
      (f_X1_narrowInto h11 v13 v14).bind fun h16 =>
      ck 4 h16 x0 <|
      (f_X5_putDraftNumbers h16 x0).bind fun h19 =>
      (gR 4 h19 x0 2).bind fun v21 =>
      (gR 4 h19 x0 4).bind fun v22 =>
      ck 0 h19 v21 <|
      (f_X1_widthOf h19 v21 v22).bind fun v24 =>
      some (h19, v24)
    )
abbrev rmX5_narrow : Room := { frames := 5, cells := 0, slots := 0, locals := 117 }
theorem hd_X5_narrow : yX5_narrow.cls = RX5 ∧ yX5_narrow.cls ≠ "java/lang/invoke/MethodHandle" ∧ yX5_narrow.cls ≠ "java/lang/invoke/VarHandle" ∧ (parseMethodDescriptor yX5_narrow.desc).map (fun d => d.parameters.length) = some 1 := by decide +kernel
set_option maxRecDepth 100000 in
set_option maxHeartbeats 4000000 in
theorem c_X5_narrow (l : Launch) (D : va_G) (ad : Nat → Nat) (cy : Nat → ClassId) (h : HP) (x0 : Nat) (x1 : Int32) {h' : HP} {r : Int32} (hf : f_X5_narrow h x0 x1 = some (h', r)) : Met l yX5_narrow (wsM yX5_narrow cX5_narrow 3 (some .int)) rmX5_narrow (va_Pc [.ref (ad x0), .int x1] (PW D ad cy h)) (QV D ad cy (some (.int r)) h') 0 0 (Aw ad) := by
  refine met_of (own := RX5) (lv := [(0, .ref (ad x0)), (1, .int x1)]) (by decide) rfl (Nat.le_of_ble_eq_true rfl) rfl (fun p e s m args below meth c E hr hlk => ?_)
  unfold f_X5_narrow at hf
  refine j_aload_n E 0 rfl dX5_narrow_0 rfl ?_
  refine j_iload_n E 1 rfl dX5_narrow_1 rfl ?_
  obtain ⟨k1, hf⟩ := ck_spec hf
  obtain ⟨v2, e3, hf⟩ := bs hf
  refine j_callV (ci := 4) (b := x0) (As := [.int x1]) (rest := []) (v := (some (va_rf (v2.map ad)))) E (c_X5_gridAt l D ad cy h x0 x1 e3) (mcw E.1.2.2.2.2 uw_1_193 uw_1_190 uw_1_192 us_1_1 uw_1_1 rfl rfl hd_X5_gridAt ⟨by decide, by decide⟩) rfl k1 rfl rfl (Nat.le_of_ble_eq_true rfl) dX5_narrow_2 ⟨Nat.zero_le _, Nat.zero_le _⟩ ?_
  rcases om_spec hf with ⟨rfl, hf⟩ | ⟨a4, rfl, hf⟩
  · refine j_stk (st' := [.null]) rfl ?_
    refine j_astore_nN (lv' := [(2, .null), (0, .ref (ad x0)), (1, .int x1)]) E dX5_narrow_5 rfl (by decide) rfl ?_
    refine j_aload_nN E 0 rfl dX5_narrow_6 rfl ?_
    refine j_ifnonnullN E dX5_narrow_7 ?_
    refine j_iconst (v := (-1)) E dX5_narrow_10 (by decide) ?_
    cases hf
    exact j_iret E hr hlk dX5_narrow_11
  · refine j_stk (st' := [.ref (ad a4)]) rfl ?_
    refine j_astore_n (lv' := [(2, .ref (ad a4)), (0, .ref (ad x0)), (1, .int x1)]) E dX5_narrow_5 rfl (by decide) rfl ?_
    refine j_aload_n E 0 rfl dX5_narrow_6 rfl ?_
    refine j_ifnonnull (tgt := 12) E dX5_narrow_7 (by decide) ?_
    refine j_aload_n E 0 rfl dX5_narrow_12 rfl ?_
    obtain ⟨k5, hf⟩ := ck_spec hf
    obtain ⟨v6, e7, hf⟩ := bs hf
    refine j_callV (ci := 1) (b := a4) (As := []) (rest := []) (v := (some (.int v6))) E (c_X2_isSquare l D ad cy h a4 e7) (mcw E.1.2.2.2.2 uw_2_225 uw_2_222 uw_2_223 uw_2_224 uw_1_4 rfl rfl hd_X2_isSquare ⟨by decide, by decide⟩) rfl k5 rfl rfl (Nat.le_of_ble_eq_true rfl) dX5_narrow_13 ⟨Nat.zero_le _, Nat.zero_le _⟩ ?_
    refine j_stk (st' := [.int v6]) rfl ?_
    refine j_if_ne (tgt := 22) E dX5_narrow_16 (by decide) (fun z8 => ?_) (fun z8 => ?_)
    · have hf := ifn hf z8
      refine j_aload_n E 1 rfl dX5_narrow_22 rfl ?_
      obtain ⟨v9, ev9, hf⟩ := bs hf
      refine j_getR (ci := 4) (k0 := 2) (T := TX5) (N := 6) E (mI inUX5) rfl (by decide) (mU uw_1_109) ev9 dX5_narrow_23 ?_
      refine j_aload_n E 0 rfl dX5_narrow_26 rfl ?_
      obtain ⟨k10, hf⟩ := ck_spec hf
      obtain ⟨h11, e12, hf⟩ := bs hf
      refine j_callV (ci := 0) (b := v9) (As := [.ref (ad a4)]) (rest := []) (v := none) E (c_X1_read l D ad cy h v9 a4 e12) (mcw E.1.2.2.2.2 uw_3_4 uw_3_1 uw_3_2 uw_3_3 uw_1_3 rfl rfl hd_X1_read ⟨by decide, by decide⟩) rfl k10 rfl rfl (Nat.le_of_ble_eq_true rfl) dX5_narrow_27 ⟨Nat.zero_le _, Nat.zero_le _⟩ ?_
      refine j_stk (st' := []) rfl ?_
      refine j_aload_n E 1 rfl dX5_narrow_30 rfl ?_
      obtain ⟨v13, ev13, hf⟩ := bs hf
      refine j_getR (ci := 4) (k0 := 2) (T := TX5) (N := 6) E (mI inUX5) rfl (by decide) (mU uw_1_109) ev13 dX5_narrow_31 ?_
      refine j_aload_n E 1 rfl dX5_narrow_34 rfl ?_
      obtain ⟨v14, ev14, hf⟩ := bs hf
      refine j_getR (ci := 4) (k0 := 5) (T := TX5) (N := 6) E (mI inUX5) rfl (by decide) (mU uw_1_112) ev14 dX5_narrow_35 ?_
      obtain ⟨k15, hf⟩ := ck_spec hf
      obtain ⟨h16, e17, hf⟩ := bs hf
      refine j_callV (ci := 0) (b := v13) (As := [.ref (ad v14)]) (rest := []) (v := none) E (c_X1_narrowInto l D ad cy h11 v13 v14 e17) (mcw E.1.2.2.2.2 uw_3_66 uw_3_63 uw_3_64 uw_3_65 uw_1_3 rfl rfl hd_X1_narrowInto ⟨by decide, by decide⟩) rfl k15 rfl rfl (Nat.le_of_ble_eq_true rfl) dX5_narrow_38 ⟨Nat.zero_le _, Nat.zero_le _⟩ ?_
      refine j_stk (st' := []) rfl ?_
      refine j_aload_n E 1 rfl dX5_narrow_41 rfl ?_
      obtain ⟨k18, hf⟩ := ck_spec hf
      obtain ⟨h19, e20, hf⟩ := bs hf
      refine j_callV (ci := 4) (b := x0) (As := []) (rest := []) (v := none) E (c_X5_putDraftNumbers l D ad cy h16 x0 e20) (mcw E.1.2.2.2.2 uw_3_58 uw_3_55 uw_3_57 us_1_11 uw_1_1 rfl rfl hd_X5_putDraftNumbers ⟨by decide, by decide⟩) rfl k18 rfl rfl (Nat.le_of_ble_eq_true rfl) dX5_narrow_42 ⟨Nat.zero_le _, Nat.zero_le _⟩ ?_
      refine j_stk (st' := []) rfl ?_
      refine j_aload_n E 1 rfl dX5_narrow_45 rfl ?_
      obtain ⟨v21, ev21, hf⟩ := bs hf
      refine j_getR (ci := 4) (k0 := 2) (T := TX5) (N := 6) E (mI inUX5) rfl (by decide) (mU uw_1_109) ev21 dX5_narrow_46 ?_
      refine j_aload_n E 1 rfl dX5_narrow_49 rfl ?_
      obtain ⟨v22, ev22, hf⟩ := bs hf
      refine j_getR (ci := 4) (k0 := 4) (T := TX5) (N := 6) E (mI inUX5) rfl (by decide) (mU uw_1_111) ev22 dX5_narrow_50 ?_
      obtain ⟨k23, hf⟩ := ck_spec hf
      obtain ⟨v24, e25, hf⟩ := bs hf
      refine j_callV (ci := 0) (b := v21) (As := [.ref (ad v22)]) (rest := []) (v := (some (.int v24))) E (c_X1_widthOf l D ad cy h19 v21 v22 e25) (mcw E.1.2.2.2.2 uw_3_84 uw_3_81 uw_3_82 uw_3_83 uw_1_3 rfl rfl hd_X1_widthOf ⟨by decide, by decide⟩) rfl k23 rfl rfl (Nat.le_of_ble_eq_true rfl) dX5_narrow_53 ⟨Nat.zero_le _, Nat.zero_le _⟩ ?_
      refine j_stk (st' := [.int v24]) rfl ?_
      cases hf
      exact j_iret E hr hlk dX5_narrow_56
    · have hf := ifp hf z8
      refine j_bipush (v := (-3)) E dX5_narrow_19 (by decide) ?_
      cases hf
      exact j_iret E hr hlk dX5_narrow_21
noncomputable def f_X5_width (h : HP) (x0 : Nat) (x1 : Int32) : Option (HP × Int32) :=
  ck 4 h x0 <|
  (f_X5_gridAt h x0 x1).bind fun v2 =>
  om v2 (
    some (h, (-1))
  ) fun a4 =>
    ck 1 h a4 <|
    (f_X2_isSquare h a4).bind fun v6 =>
    if v6 = 0 then (
      some (h, (-3))
    ) else (
      (gR 4 h x0 4).bind fun v9 =>
      (gI 1 h a4 0).bind fun v10 =>
      ck 2 h v9 <|
      (f_X3_areEachBelowOnce h v9 v10).bind fun v12 =>
      if v12 = 0 then (
        some (h, (-3))
      ) else (
        (gR 4 h x0 2).bind fun v15 =>
        ck 0 h v15 <|
        (f_X1_read h v15 a4).bind fun h17 =>
        (gR 4 h17 x0 2).bind fun v19 =>
        (gR 4 h17 x0 4).bind fun v20 =>
        ck 0 h17 v19 <|
        (f_X1_widthOf h17 v19 v20).bind fun v22 =>
        some (h17, v22)
      )
    )
abbrev rmX5_width : Room := { frames := 3, cells := 0, slots := 0, locals := 84 }
theorem hd_X5_width : yX5_width.cls = RX5 ∧ yX5_width.cls ≠ "java/lang/invoke/MethodHandle" ∧ yX5_width.cls ≠ "java/lang/invoke/VarHandle" ∧ (parseMethodDescriptor yX5_width.desc).map (fun d => d.parameters.length) = some 1 := by decide +kernel
set_option maxRecDepth 100000 in
set_option maxHeartbeats 4000000 in
theorem c_X5_width (l : Launch) (D : va_G) (ad : Nat → Nat) (cy : Nat → ClassId) (h : HP) (x0 : Nat) (x1 : Int32) {h' : HP} {r : Int32} (hf : f_X5_width h x0 x1 = some (h', r)) : Met l yX5_width (wsM yX5_width cX5_width 3 (some .int)) rmX5_width (va_Pc [.ref (ad x0), .int x1] (PW D ad cy h)) (QV D ad cy (some (.int r)) h') 0 0 (Aw ad) := by
  refine met_of (own := RX5) (lv := [(0, .ref (ad x0)), (1, .int x1)]) (by decide) rfl (Nat.le_of_ble_eq_true rfl) rfl (fun p e s m args below meth c E hr hlk => ?_)
  unfold f_X5_width at hf
  refine j_aload_n E 0 rfl dX5_width_0 rfl ?_
  refine j_iload_n E 1 rfl dX5_width_1 rfl ?_
  obtain ⟨k1, hf⟩ := ck_spec hf
  obtain ⟨v2, e3, hf⟩ := bs hf
  refine j_callV (ci := 4) (b := x0) (As := [.int x1]) (rest := []) (v := (some (va_rf (v2.map ad)))) E (c_X5_gridAt l D ad cy h x0 x1 e3) (mcw E.1.2.2.2.2 uw_1_193 uw_1_190 uw_1_192 us_1_1 uw_1_1 rfl rfl hd_X5_gridAt ⟨by decide, by decide⟩) rfl k1 rfl rfl (Nat.le_of_ble_eq_true rfl) dX5_width_2 ⟨Nat.zero_le _, Nat.zero_le _⟩ ?_
  rcases om_spec hf with ⟨rfl, hf⟩ | ⟨a4, rfl, hf⟩
  · refine j_stk (st' := [.null]) rfl ?_
    refine j_astore_nN (lv' := [(2, .null), (0, .ref (ad x0)), (1, .int x1)]) E dX5_width_5 rfl (by decide) rfl ?_
    refine j_aload_nN E 0 rfl dX5_width_6 rfl ?_
    refine j_ifnonnullN E dX5_width_7 ?_
    refine j_iconst (v := (-1)) E dX5_width_10 (by decide) ?_
    cases hf
    exact j_iret E hr hlk dX5_width_11
  · refine j_stk (st' := [.ref (ad a4)]) rfl ?_
    refine j_astore_n (lv' := [(2, .ref (ad a4)), (0, .ref (ad x0)), (1, .int x1)]) E dX5_width_5 rfl (by decide) rfl ?_
    refine j_aload_n E 0 rfl dX5_width_6 rfl ?_
    refine j_ifnonnull (tgt := 12) E dX5_width_7 (by decide) ?_
    refine j_aload_n E 0 rfl dX5_width_12 rfl ?_
    obtain ⟨k5, hf⟩ := ck_spec hf
    obtain ⟨v6, e7, hf⟩ := bs hf
    refine j_callV (ci := 1) (b := a4) (As := []) (rest := []) (v := (some (.int v6))) E (c_X2_isSquare l D ad cy h a4 e7) (mcw E.1.2.2.2.2 uw_2_225 uw_2_222 uw_2_223 uw_2_224 uw_1_4 rfl rfl hd_X2_isSquare ⟨by decide, by decide⟩) rfl k5 rfl rfl (Nat.le_of_ble_eq_true rfl) dX5_width_13 ⟨Nat.zero_le _, Nat.zero_le _⟩ ?_
    refine j_stk (st' := [.int v6]) rfl ?_
    refine j_if_eq (tgt := 33) E dX5_width_16 (by decide) (fun z8 => ?_) (fun z8 => ?_)
    · have hf := ifp hf z8
      refine j_bipush (v := (-3)) E dX5_width_33 (by decide) ?_
      cases hf
      exact j_iret E hr hlk dX5_width_35
    · have hf := ifn hf z8
      refine j_aload_n E 1 rfl dX5_width_19 rfl ?_
      obtain ⟨v9, ev9, hf⟩ := bs hf
      refine j_getR (ci := 4) (k0 := 4) (T := TX5) (N := 6) E (mI inUX5) rfl (by decide) (mU uw_1_111) ev9 dX5_width_20 ?_
      refine j_aload_n E 0 rfl dX5_width_23 rfl ?_
      obtain ⟨v10, ev10, hf⟩ := bs hf
      refine j_getI (ci := 1) (k0 := 0) (T := TX2) (N := 4) E (mI inUX2) rfl (by decide) (mU uw_1_76) ev10 dX5_width_24 ?_
      obtain ⟨k11, hf⟩ := ck_spec hf
      obtain ⟨v12, e13, hf⟩ := bs hf
      refine j_callV (ci := 2) (b := v9) (As := [.int v10]) (rest := []) (v := (some (.int v12))) E (c_X3_areEachBelowOnce l D ad cy h v9 v10 e13) (mcw E.1.2.2.2.2 uw_3_95 uw_3_92 uw_3_93 uw_3_94 uw_1_5 rfl rfl hd_X3_areEachBelowOnce ⟨by decide, by decide⟩) rfl k11 rfl rfl (Nat.le_of_ble_eq_true rfl) dX5_width_27 ⟨Nat.zero_le _, Nat.zero_le _⟩ ?_
      refine j_stk (st' := [.int v12]) rfl ?_
      refine j_if_ne (tgt := 36) E dX5_width_30 (by decide) (fun z14 => ?_) (fun z14 => ?_)
      · have hf := ifn hf z14
        refine j_aload_n E 1 rfl dX5_width_36 rfl ?_
        obtain ⟨v15, ev15, hf⟩ := bs hf
        refine j_getR (ci := 4) (k0 := 2) (T := TX5) (N := 6) E (mI inUX5) rfl (by decide) (mU uw_1_109) ev15 dX5_width_37 ?_
        refine j_aload_n E 0 rfl dX5_width_40 rfl ?_
        obtain ⟨k16, hf⟩ := ck_spec hf
        obtain ⟨h17, e18, hf⟩ := bs hf
        refine j_callV (ci := 0) (b := v15) (As := [.ref (ad a4)]) (rest := []) (v := none) E (c_X1_read l D ad cy h v15 a4 e18) (mcw E.1.2.2.2.2 uw_3_4 uw_3_1 uw_3_2 uw_3_3 uw_1_3 rfl rfl hd_X1_read ⟨by decide, by decide⟩) rfl k16 rfl rfl (Nat.le_of_ble_eq_true rfl) dX5_width_41 ⟨Nat.zero_le _, Nat.zero_le _⟩ ?_
        refine j_stk (st' := []) rfl ?_
        refine j_aload_n E 1 rfl dX5_width_44 rfl ?_
        obtain ⟨v19, ev19, hf⟩ := bs hf
        refine j_getR (ci := 4) (k0 := 2) (T := TX5) (N := 6) E (mI inUX5) rfl (by decide) (mU uw_1_109) ev19 dX5_width_45 ?_
        refine j_aload_n E 1 rfl dX5_width_48 rfl ?_
        obtain ⟨v20, ev20, hf⟩ := bs hf
        refine j_getR (ci := 4) (k0 := 4) (T := TX5) (N := 6) E (mI inUX5) rfl (by decide) (mU uw_1_111) ev20 dX5_width_49 ?_
        obtain ⟨k21, hf⟩ := ck_spec hf
        obtain ⟨v22, e23, hf⟩ := bs hf
        refine j_callV (ci := 0) (b := v19) (As := [.ref (ad v20)]) (rest := []) (v := (some (.int v22))) E (c_X1_widthOf l D ad cy h17 v19 v20 e23) (mcw E.1.2.2.2.2 uw_3_84 uw_3_81 uw_3_82 uw_3_83 uw_1_3 rfl rfl hd_X1_widthOf ⟨by decide, by decide⟩) rfl k21 rfl rfl (Nat.le_of_ble_eq_true rfl) dX5_width_52 ⟨Nat.zero_le _, Nat.zero_le _⟩ ?_
        refine j_stk (st' := [.int v22]) rfl ?_
        cases hf
        exact j_iret E hr hlk dX5_width_55
      · have hf := ifp hf z14
        refine j_bipush (v := (-3)) E dX5_width_33 (by decide) ?_
        cases hf
        exact j_iret E hr hlk dX5_width_35
noncomputable def f_X6_isNumber (x0 : Int32) : Option (Int32) :=
  if x0 < 0 then (
    some 0
  ) else (
    if 8 ≤ x0 then (
      some 0
    ) else (
      some 1
    )
  )
abbrev rmX6_isNumber : Room := { frames := 0, cells := 0, slots := 0, locals := 0 }
theorem hd_X6_isNumber : yX6_isNumber.cls = RX6 ∧ yX6_isNumber.cls ≠ "java/lang/invoke/MethodHandle" ∧ yX6_isNumber.cls ≠ "java/lang/invoke/VarHandle" ∧ (parseMethodDescriptor yX6_isNumber.desc).map (fun d => d.parameters.length) = some 1 := by decide +kernel
set_option maxRecDepth 100000 in
set_option maxHeartbeats 4000000 in
theorem c_X6_isNumber (l : Launch) (D : va_G) (ad : Nat → Nat) (cy : Nat → ClassId) (h : HP) (x0 : Int32) {r : Int32} (hf : f_X6_isNumber x0 = some r) : Met l yX6_isNumber (wsM yX6_isNumber cX6_isNumber 1 (some .boolean)) rmX6_isNumber (va_Pc [.int x0] (PW D ad cy h)) (QV D ad cy (some (.int r)) h) 0 0 (Aw ad) := by
  refine met_of (own := RX6) (lv := [(0, .int x0)]) (by decide) rfl (Nat.le_of_ble_eq_true rfl) rfl (fun p e s m args below meth c E hr hlk => ?_)
  unfold f_X6_isNumber at hf
  refine j_iload_n E 0 rfl dX6_isNumber_0 rfl ?_
  refine j_if_lt (tgt := 14) E dX6_isNumber_1 (by decide) (fun z1 => ?_) (fun z1 => ?_)
  · have hf := ifp hf z1
    refine j_iconst (v := 0) E dX6_isNumber_14 (by decide) ?_
    cases hf
    exact j_zret E hr hlk rfl dX6_isNumber_15
  · have hf := ifn hf z1
    refine j_iload_n E 0 rfl dX6_isNumber_4 rfl ?_
    refine j_bipush (v := 8) E dX6_isNumber_5 (by decide) ?_
    refine j_icmp_ge (tgt := 14) E dX6_isNumber_7 (by decide) (fun z2 => ?_) (fun z2 => ?_)
    · have hf := ifp hf z2
      refine j_iconst (v := 0) E dX6_isNumber_14 (by decide) ?_
      cases hf
      exact j_zret E hr hlk rfl dX6_isNumber_15
    · have hf := ifn hf z2
      refine j_iconst (v := 1) E dX6_isNumber_10 (by decide) ?_
      refine j_goto (tgt := 15) E dX6_isNumber_11 (by decide) ?_
      cases hf
      exact j_zret E hr hlk rfl dX6_isNumber_15
noncomputable def f_X6_isTable (h : HP) (x0 : Nat) (x1 : Int32) : Option (Int32) :=
  (f_X6_isNumber x1).bind fun v1 =>
  if v1 = 0 then (
    some 0
  ) else (
    (gR 5 h x0 0).bind fun v4 =>
    (aZ h v4 x1).bind fun v5 =>
    if v5 = 0 then (
      some 0
    ) else (
      some 1
    )
  )
abbrev rmX6_isTable : Room := { frames := 1, cells := 0, slots := 0, locals := 20 }
theorem hd_X6_isTable : yX6_isTable.cls = RX6 ∧ yX6_isTable.cls ≠ "java/lang/invoke/MethodHandle" ∧ yX6_isTable.cls ≠ "java/lang/invoke/VarHandle" ∧ (parseMethodDescriptor yX6_isTable.desc).map (fun d => d.parameters.length) = some 1 := by decide +kernel
set_option maxRecDepth 100000 in
set_option maxHeartbeats 4000000 in
theorem c_X6_isTable (l : Launch) (D : va_G) (ad : Nat → Nat) (cy : Nat → ClassId) (h : HP) (x0 : Nat) (x1 : Int32) {r : Int32} (hf : f_X6_isTable h x0 x1 = some r) : Met l yX6_isTable (wsM yX6_isTable cX6_isTable 2 (some .boolean)) rmX6_isTable (va_Pc [.ref (ad x0), .int x1] (PW D ad cy h)) (QV D ad cy (some (.int r)) h) 0 0 (Aw ad) := by
  refine met_of (own := RX6) (lv := [(0, .ref (ad x0)), (1, .int x1)]) (by decide) rfl (Nat.le_of_ble_eq_true rfl) rfl (fun p e s m args below meth c E hr hlk => ?_)
  unfold f_X6_isTable at hf
  refine j_iload_n E 1 rfl dX6_isTable_0 rfl ?_
  obtain ⟨v1, e2, hf⟩ := bs hf
  refine j_callS (As := [.int x1]) (rest := []) (v := (some (.int v1))) E (c_X6_isNumber l D ad cy h x1 e2) (mcs E.1.2.2.2.2 uw_3_154 uw_3_152 uw_3_153 uw_1_6 rfl rfl hd_X6_isNumber ⟨by decide, by decide⟩) rfl rfl (Nat.le_of_ble_eq_true rfl) dX6_isTable_1 ⟨Nat.zero_le _, Nat.zero_le _⟩ ?_
  refine j_stk (st' := [.int v1]) rfl ?_
  refine j_if_eq (tgt := 20) E dX6_isTable_4 (by decide) (fun z3 => ?_) (fun z3 => ?_)
  · have hf := ifp hf z3
    refine j_iconst (v := 0) E dX6_isTable_20 (by decide) ?_
    cases hf
    exact j_zret E hr hlk rfl dX6_isTable_21
  · have hf := ifn hf z3
    refine j_aload_n E 0 rfl dX6_isTable_7 rfl ?_
    obtain ⟨v4, ev4, hf⟩ := bs hf
    refine j_getR (ci := 5) (k0 := 0) (T := TX6) (N := 14) E (mI inUX6) rfl (by decide) (mU uw_3_104) ev4 dX6_isTable_8 ?_
    refine j_iload_n E 1 rfl dX6_isTable_11 rfl ?_
    obtain ⟨v5, ev5, hf⟩ := bs hf
    refine j_aZ E ev5 dX6_isTable_12 ?_
    refine j_if_eq (tgt := 20) E dX6_isTable_13 (by decide) (fun z6 => ?_) (fun z6 => ?_)
    · have hf := ifp hf z6
      refine j_iconst (v := 0) E dX6_isTable_20 (by decide) ?_
      cases hf
      exact j_zret E hr hlk rfl dX6_isTable_21
    · have hf := ifn hf z6
      refine j_iconst (v := 1) E dX6_isTable_16 (by decide) ?_
      refine j_goto (tgt := 21) E dX6_isTable_17 (by decide) ?_
      cases hf
      exact j_zret E hr hlk rfl dX6_isTable_21
noncomputable def f_X6_cellOf (x0 : Int32) (x1 : Int32) (x2 : Int32) : Option (Int32) :=
  some (((256 * x0) + (16 * x1)) + x2)
abbrev rmX6_cellOf : Room := { frames := 0, cells := 0, slots := 0, locals := 0 }
theorem hd_X6_cellOf : yX6_cellOf.cls = RX6 ∧ yX6_cellOf.cls ≠ "java/lang/invoke/MethodHandle" ∧ yX6_cellOf.cls ≠ "java/lang/invoke/VarHandle" ∧ (parseMethodDescriptor yX6_cellOf.desc).map (fun d => d.parameters.length) = some 3 := by decide +kernel
set_option maxRecDepth 100000 in
set_option maxHeartbeats 4000000 in
theorem c_X6_cellOf (l : Launch) (D : va_G) (ad : Nat → Nat) (cy : Nat → ClassId) (h : HP) (x0 : Int32) (x1 : Int32) (x2 : Int32) {r : Int32} (hf : f_X6_cellOf x0 x1 x2 = some r) : Met l yX6_cellOf (wsM yX6_cellOf cX6_cellOf 3 (some .int)) rmX6_cellOf (va_Pc [.int x0, .int x1, .int x2] (PW D ad cy h)) (QV D ad cy (some (.int r)) h) 0 0 (Aw ad) := by
  refine met_of (own := RX6) (lv := [(0, .int x0), (1, .int x1), (2, .int x2)]) (by decide) rfl (Nat.le_of_ble_eq_true rfl) rfl (fun p e s m args below meth c E hr hlk => ?_)
  unfold f_X6_cellOf at hf
  refine j_sipush (v := 256) E dX6_cellOf_0 (by decide) ?_
  refine j_iload_n E 0 rfl dX6_cellOf_3 rfl ?_
  refine j_imul E dX6_cellOf_4 ?_
  refine j_bipush (v := 16) E dX6_cellOf_5 (by decide) ?_
  refine j_iload_n E 1 rfl dX6_cellOf_7 rfl ?_
  refine j_imul E dX6_cellOf_8 ?_
  refine j_iadd E dX6_cellOf_9 ?_
  refine j_iload_n E 2 rfl dX6_cellOf_10 rfl ?_
  refine j_iadd E dX6_cellOf_11 ?_
  cases hf
  exact j_iret E hr hlk dX6_cellOf_12
noncomputable def f_X6_isIn (h : HP) (x0 : Nat) (x1 : Int32) (x2 : Int32) (x3 : Int32) : Option (Int32) :=
  if x2 < 0 then (
    some 0
  ) else (
    (gR 5 h x0 1).bind fun v2 =>
    (aI h v2 x1).bind fun v3 =>
    if v3 ≤ x2 then (
      some 0
    ) else (
      if x3 < 0 then (
        some 0
      ) else (
        (gR 5 h x0 2).bind fun v6 =>
        (aI h v6 x1).bind fun v7 =>
        if v7 ≤ x3 then (
          some 0
        ) else (
          some 1
        )
      )
    )
  )
abbrev rmX6_isIn : Room := { frames := 0, cells := 0, slots := 0, locals := 0 }
theorem hd_X6_isIn : yX6_isIn.cls = RX6 ∧ yX6_isIn.cls ≠ "java/lang/invoke/MethodHandle" ∧ yX6_isIn.cls ≠ "java/lang/invoke/VarHandle" ∧ (parseMethodDescriptor yX6_isIn.desc).map (fun d => d.parameters.length) = some 3 := by decide +kernel
set_option maxRecDepth 100000 in
set_option maxHeartbeats 4000000 in
theorem c_X6_isIn (l : Launch) (D : va_G) (ad : Nat → Nat) (cy : Nat → ClassId) (h : HP) (x0 : Nat) (x1 : Int32) (x2 : Int32) (x3 : Int32) {r : Int32} (hf : f_X6_isIn h x0 x1 x2 x3 = some r) : Met l yX6_isIn (wsM yX6_isIn cX6_isIn 4 (some .boolean)) rmX6_isIn (va_Pc [.ref (ad x0), .int x1, .int x2, .int x3] (PW D ad cy h)) (QV D ad cy (some (.int r)) h) 0 0 (Aw ad) := by
  refine met_of (own := RX6) (lv := [(0, .ref (ad x0)), (1, .int x1), (2, .int x2), (3, .int x3)]) (by decide) rfl (Nat.le_of_ble_eq_true rfl) rfl (fun p e s m args below meth c E hr hlk => ?_)
  unfold f_X6_isIn at hf
  refine j_iload_n E 2 rfl dX6_isIn_0 rfl ?_
  refine j_if_lt (tgt := 32) E dX6_isIn_1 (by decide) (fun z1 => ?_) (fun z1 => ?_)
  · have hf := ifp hf z1
    refine j_iconst (v := 0) E dX6_isIn_32 (by decide) ?_
    cases hf
    exact j_zret E hr hlk rfl dX6_isIn_33
  · have hf := ifn hf z1
    refine j_iload_n E 2 rfl dX6_isIn_4 rfl ?_
    refine j_aload_n E 0 rfl dX6_isIn_5 rfl ?_
    obtain ⟨v2, ev2, hf⟩ := bs hf
    refine j_getR (ci := 5) (k0 := 1) (T := TX6) (N := 14) E (mI inUX6) rfl (by decide) (mU uw_3_105) ev2 dX6_isIn_6 ?_
    refine j_iload_n E 1 rfl dX6_isIn_9 rfl ?_
    obtain ⟨v3, ev3, hf⟩ := bs hf
    refine j_aI E ev3 dX6_isIn_10 ?_
    refine j_icmp_ge (tgt := 32) E dX6_isIn_11 (by decide) (fun z4 => ?_) (fun z4 => ?_)
    · have hf := ifp hf z4
      refine j_iconst (v := 0) E dX6_isIn_32 (by decide) ?_
      cases hf
      exact j_zret E hr hlk rfl dX6_isIn_33
    · have hf := ifn hf z4
      refine j_iload_n E 3 rfl dX6_isIn_14 rfl ?_
      refine j_if_lt (tgt := 32) E dX6_isIn_15 (by decide) (fun z5 => ?_) (fun z5 => ?_)
      · have hf := ifp hf z5
        refine j_iconst (v := 0) E dX6_isIn_32 (by decide) ?_
        cases hf
        exact j_zret E hr hlk rfl dX6_isIn_33
      · have hf := ifn hf z5
        refine j_iload_n E 3 rfl dX6_isIn_18 rfl ?_
        refine j_aload_n E 0 rfl dX6_isIn_19 rfl ?_
        obtain ⟨v6, ev6, hf⟩ := bs hf
        refine j_getR (ci := 5) (k0 := 2) (T := TX6) (N := 14) E (mI inUX6) rfl (by decide) (mU uw_3_106) ev6 dX6_isIn_20 ?_
        refine j_iload_n E 1 rfl dX6_isIn_23 rfl ?_
        obtain ⟨v7, ev7, hf⟩ := bs hf
        refine j_aI E ev7 dX6_isIn_24 ?_
        refine j_icmp_ge (tgt := 32) E dX6_isIn_25 (by decide) (fun z8 => ?_) (fun z8 => ?_)
        · have hf := ifp hf z8
          refine j_iconst (v := 0) E dX6_isIn_32 (by decide) ?_
          cases hf
          exact j_zret E hr hlk rfl dX6_isIn_33
        · have hf := ifn hf z8
          refine j_iconst (v := 1) E dX6_isIn_28 (by decide) ?_
          refine j_goto (tgt := 33) E dX6_isIn_29 (by decide) ?_
          cases hf
          exact j_zret E hr hlk rfl dX6_isIn_33
noncomputable def L_X6_begin_20 (x0 : Nat) : Nat → (HP → Option (HP)) → HP → Int32 → Option (HP)
  | 0, _, _, _ => none
  | n + 1, k, h, x3 =>
      if 2304 ≤ x3 then (
        k h
      ) else (
        (gR 5 h x0 3).bind fun v6 =>
        (sZ h v6 x3 0).bind fun h7 =>
        (gR 5 h7 x0 4).bind fun v8 =>
        (sJ h7 v8 x3 0).bind fun h9 =>
        L_X6_begin_20 x0 n k h9 (x3 + 1)
      )
noncomputable def f_X6_begin (h : HP) (x0 : Nat) (x1 : Int32) (x2 : Int32) : Option (HP) :=
  (gR 5 h x0 1).bind fun v1 =>
  (sI h v1 8 x1).bind fun h2 =>
  (gR 5 h2 x0 2).bind fun v3 =>
  (sI h2 v3 8 x2).bind fun h4 =>
  L_X6_begin_20 x0 FU (fun h10 =>
    some h10) h4 2048
abbrev rmX6_begin : Room := { frames := 0, cells := 0, slots := 0, locals := 0 }
theorem hd_X6_begin : yX6_begin.cls = RX6 ∧ yX6_begin.cls ≠ "java/lang/invoke/MethodHandle" ∧ yX6_begin.cls ≠ "java/lang/invoke/VarHandle" ∧ (parseMethodDescriptor yX6_begin.desc).map (fun d => d.parameters.length) = some 2 := by decide +kernel
set_option maxRecDepth 100000 in
set_option maxHeartbeats 4000000 in
theorem w_X6_begin_20 {p : Program} {l : Launch} {e : Env} {s : State} {m : MethodId} {args : Array Value} {below : List Frame} {meth : Method} {c : Code} {D : va_G} {ad : Nat → Nat} {cy : Nat → ClassId} (E : EE p s m args c cX6_begin 4 (wsM yX6_begin cX6_begin 4 none) RX6 D cy) (hr : meth.sig.returnType = none) (hlk : meth.locks = false) {h' : HP} (x0 : Nat) : ∀ (n : Nat) (k : (HP → Option (HP))) (h : HP) (x3 : Int32), (∀ (h : HP), k h = some h' → JJ p l e rmX6_begin s m args below meth c 0 0 (MQ below (QV D ad cy none h') args s 0 0 (Aw ad)) D ad cy (Aw ad) 4 h [] 47 []) → L_X6_begin_20 x0 n k h x3 = some h' → JJ p l e rmX6_begin s m args below meth c 0 0 (MQ below (QV D ad cy none h') args s 0 0 (Aw ad)) D ad cy (Aw ad) 4 h [(0, .ref (ad x0)), (3, .int x3)] 20 [] := by
  intro n
  induction n with
  | zero => intro k h x3 hk hf; cases hf
  | succ n ih =>
    intro k h x3 hk hf
    unfold L_X6_begin_20 at hf
    refine j_iload_n E 1 rfl dX6_begin_20 rfl ?_
    refine j_sipush (v := 2304) E dX6_begin_21 (by decide) ?_
    refine j_icmp_ge (tgt := 47) E dX6_begin_24 (by decide) (fun z5 => ?_) (fun z5 => ?_)
    · have hf := ifp hf z5
      refine j_perm (lv' := []) [] rfl ?_
      exact hk h hf
    · have hf := ifn hf z5
      refine j_aload_n E 0 rfl dX6_begin_27 rfl ?_
      obtain ⟨v6, ev6, hf⟩ := bs hf
      refine j_getR (ci := 5) (k0 := 3) (T := TX6) (N := 14) E (mI inUX6) rfl (by decide) (mU uw_3_107) ev6 dX6_begin_28 ?_
      refine j_iload_n E 1 rfl dX6_begin_31 rfl ?_
      refine j_iconst (v := 0) E dX6_begin_32 (by decide) ?_
      obtain ⟨h7, eh7, hf⟩ := bs hf
      refine j_sZ E eh7 dX6_begin_33 ?_
      refine j_aload_n E 0 rfl dX6_begin_34 rfl ?_
      obtain ⟨v8, ev8, hf⟩ := bs hf
      refine j_getR (ci := 5) (k0 := 4) (T := TX6) (N := 14) E (mI inUX6) rfl (by decide) (mU uw_3_108) ev8 dX6_begin_35 ?_
      refine j_iload_n E 1 rfl dX6_begin_38 rfl ?_
      refine j_lconst (v := 0) E dX6_begin_39 (by decide) ?_
      obtain ⟨h9, eh9, hf⟩ := bs hf
      refine j_sJ E eh9 dX6_begin_40 ?_
      refine j_iinc (v := (x3 + 1)) (k0 := 1) (lv' := [(3, .int (x3 + 1)), (0, .ref (ad x0))]) E dX6_begin_41 rfl (congrArg (fun z => x3 + z) (by decide)) (by decide) rfl ?_
      refine j_goto (tgt := 20) E dX6_begin_44 (by decide) ?_
      refine j_perm (lv' := [(0, .ref (ad x0)), (3, .int (x3 + 1))]) [1, 0] rfl ?_
      exact ih k h9 (x3 + 1) hk hf
set_option maxRecDepth 100000 in
set_option maxHeartbeats 4000000 in
theorem c_X6_begin (l : Launch) (D : va_G) (ad : Nat → Nat) (cy : Nat → ClassId) (h : HP) (x0 : Nat) (x1 : Int32) (x2 : Int32) {h' : HP} (hf : f_X6_begin h x0 x1 x2 = some h') : Met l yX6_begin (wsM yX6_begin cX6_begin 4 none) rmX6_begin (va_Pc [.ref (ad x0), .int x1, .int x2] (PW D ad cy h)) (QV D ad cy none h') 0 0 (Aw ad) := by
  refine met_of (own := RX6) (lv := [(0, .ref (ad x0)), (1, .int x1), (2, .int x2)]) (by decide) rfl (Nat.le_of_ble_eq_true rfl) rfl (fun p e s m args below meth c E hr hlk => ?_)
  unfold f_X6_begin at hf
  refine j_aload_n E 0 rfl dX6_begin_0 rfl ?_
  obtain ⟨v1, ev1, hf⟩ := bs hf
  refine j_getR (ci := 5) (k0 := 1) (T := TX6) (N := 14) E (mI inUX6) rfl (by decide) (mU uw_3_105) ev1 dX6_begin_1 ?_
  refine j_bipush (v := 8) E dX6_begin_4 (by decide) ?_
  refine j_iload_n E 1 rfl dX6_begin_6 rfl ?_
  obtain ⟨h2, eh2, hf⟩ := bs hf
  refine j_sI E eh2 dX6_begin_7 ?_
  refine j_aload_n E 0 rfl dX6_begin_8 rfl ?_
  obtain ⟨v3, ev3, hf⟩ := bs hf
  refine j_getR (ci := 5) (k0 := 2) (T := TX6) (N := 14) E (mI inUX6) rfl (by decide) (mU uw_3_106) ev3 dX6_begin_9 ?_
  refine j_bipush (v := 8) E dX6_begin_12 (by decide) ?_
  refine j_iload_n E 2 rfl dX6_begin_14 rfl ?_
  obtain ⟨h4, eh4, hf⟩ := bs hf
  refine j_sI E eh4 dX6_begin_15 ?_
  refine j_sipush (v := 2048) E dX6_begin_16 (by decide) ?_
  refine j_istore_n (lv' := [(3, .int 2048), (0, .ref (ad x0)), (1, .int x1), (2, .int x2)]) E dX6_begin_19 rfl (by decide) rfl ?_
  refine j_perm (lv' := [(0, .ref (ad x0)), (3, .int 2048)]) [1, 0] rfl ?_
  refine w_X6_begin_20 E hr hlk x0 FU _ h4 2048 (fun h10 hf => ?_) hf
  cases hf
  exact j_vret E hr hlk dX6_begin_47
noncomputable def L_X6_many_8 (h : HP) (x0 : Nat) (x1 : Int32) : Nat → (Int32 → Option (Int32)) → Int32 → Int32 → Option (Int32)
  | 0, _, _, _ => none
  | n + 1, k, x2, x3 =>
      if ((256 * x1) + 256) ≤ x3 then (
        k x2
      ) else (
        (gR 5 h x0 3).bind fun v2 =>
        (aZ h v2 x3).bind fun v3 =>
        if v3 = 0 then (
          L_X6_many_8 h x0 x1 n k (x2 + 0) (x3 + 1)
        ) else (
          L_X6_many_8 h x0 x1 n k (x2 + 1) (x3 + 1)
        )
      )
noncomputable def f_X6_many (h : HP) (x0 : Nat) (x1 : Int32) : Option (Int32) :=
  L_X6_many_8 h x0 x1 FU (fun x5 =>
    some x5) 0 (256 * x1)
abbrev rmX6_many : Room := { frames := 0, cells := 0, slots := 0, locals := 0 }
theorem hd_X6_many : yX6_many.cls = RX6 ∧ yX6_many.cls ≠ "java/lang/invoke/MethodHandle" ∧ yX6_many.cls ≠ "java/lang/invoke/VarHandle" ∧ (parseMethodDescriptor yX6_many.desc).map (fun d => d.parameters.length) = some 1 := by decide +kernel
set_option maxRecDepth 100000 in
set_option maxHeartbeats 4000000 in
theorem w_X6_many_8 {p : Program} {l : Launch} {e : Env} {s : State} {m : MethodId} {args : Array Value} {below : List Frame} {meth : Method} {c : Code} {D : va_G} {ad : Nat → Nat} {cy : Nat → ClassId} (E : EE p s m args c cX6_many 4 (wsM yX6_many cX6_many 4 (some .int)) RX6 D cy) (hr : meth.sig.returnType = (some .int)) (hlk : meth.locks = false) {r : Int32} (h : HP) (x0 : Nat) (x1 : Int32) : ∀ (n : Nat) (k : (Int32 → Option (Int32))) (x2 : Int32) (x3 : Int32), (∀ (x2 : Int32), k x2 = some r → JJ p l e rmX6_many s m args below meth c 0 0 (MQ below (QV D ad cy (some (.int r)) h) args s 0 0 (Aw ad)) D ad cy (Aw ad) 4 h [(2, .int x2)] 44 []) → L_X6_many_8 h x0 x1 n k x2 x3 = some r → JJ p l e rmX6_many s m args below meth c 0 0 (MQ below (QV D ad cy (some (.int r)) h) args s 0 0 (Aw ad)) D ad cy (Aw ad) 4 h [(0, .ref (ad x0)), (1, .int x1), (2, .int x2), (3, .int x3)] 8 [] := by
  intro n
  induction n with
  | zero => intro k x2 x3 hk hf; cases hf
  | succ n ih =>
    intro k x2 x3 hk hf
    unfold L_X6_many_8 at hf
    refine j_iload_n E 3 rfl dX6_many_8 rfl ?_
    refine j_sipush (v := 256) E dX6_many_9 (by decide) ?_
    refine j_iload_n E 1 rfl dX6_many_12 rfl ?_
    refine j_imul E dX6_many_13 ?_
    refine j_sipush (v := 256) E dX6_many_14 (by decide) ?_
    refine j_iadd E dX6_many_17 ?_
    refine j_icmp_ge (tgt := 44) E dX6_many_18 (by decide) (fun z1 => ?_) (fun z1 => ?_)
    · have hf := ifp hf z1
      refine j_perm (lv' := [(2, .int x2)]) [2] rfl ?_
      exact hk x2 hf
    · have hf := ifn hf z1
      refine j_iload_n E 2 rfl dX6_many_21 rfl ?_
      refine j_aload_n E 0 rfl dX6_many_22 rfl ?_
      obtain ⟨v2, ev2, hf⟩ := bs hf
      refine j_getR (ci := 5) (k0 := 3) (T := TX6) (N := 14) E (mI inUX6) rfl (by decide) (mU uw_3_107) ev2 dX6_many_23 ?_
      refine j_iload_n E 3 rfl dX6_many_26 rfl ?_
      obtain ⟨v3, ev3, hf⟩ := bs hf
      refine j_aZ E ev3 dX6_many_27 ?_
      refine j_if_eq (tgt := 35) E dX6_many_28 (by decide) (fun z4 => ?_) (fun z4 => ?_)
      · have hf := ifp hf z4
        refine j_iconst (v := 0) E dX6_many_35 (by decide) ?_
        refine j_iadd E dX6_many_36 ?_
        refine j_istore_n (lv' := [(2, .int (x2 + 0)), (0, .ref (ad x0)), (1, .int x1), (3, .int x3)]) E dX6_many_37 rfl (by decide) rfl ?_
        refine j_iinc (v := (x3 + 1)) (k0 := 3) (lv' := [(3, .int (x3 + 1)), (2, .int (x2 + 0)), (0, .ref (ad x0)), (1, .int x1)]) E dX6_many_38 rfl (congrArg (fun z => x3 + z) (by decide)) (by decide) rfl ?_
        refine j_goto (tgt := 8) E dX6_many_41 (by decide) ?_
        refine j_perm (lv' := [(0, .ref (ad x0)), (1, .int x1), (2, .int (x2 + 0)), (3, .int (x3 + 1))]) [2, 3, 1, 0] rfl ?_
        exact ih k (x2 + 0) (x3 + 1) hk hf
      · have hf := ifn hf z4
        refine j_iconst (v := 1) E dX6_many_31 (by decide) ?_
        refine j_goto (tgt := 36) E dX6_many_32 (by decide) ?_
        refine j_iadd E dX6_many_36 ?_
        refine j_istore_n (lv' := [(2, .int (x2 + 1)), (0, .ref (ad x0)), (1, .int x1), (3, .int x3)]) E dX6_many_37 rfl (by decide) rfl ?_
        refine j_iinc (v := (x3 + 1)) (k0 := 3) (lv' := [(3, .int (x3 + 1)), (2, .int (x2 + 1)), (0, .ref (ad x0)), (1, .int x1)]) E dX6_many_38 rfl (congrArg (fun z => x3 + z) (by decide)) (by decide) rfl ?_
        refine j_goto (tgt := 8) E dX6_many_41 (by decide) ?_
        refine j_perm (lv' := [(0, .ref (ad x0)), (1, .int x1), (2, .int (x2 + 1)), (3, .int (x3 + 1))]) [2, 3, 1, 0] rfl ?_
        exact ih k (x2 + 1) (x3 + 1) hk hf
set_option maxRecDepth 100000 in
set_option maxHeartbeats 4000000 in
theorem c_X6_many (l : Launch) (D : va_G) (ad : Nat → Nat) (cy : Nat → ClassId) (h : HP) (x0 : Nat) (x1 : Int32) {r : Int32} (hf : f_X6_many h x0 x1 = some r) : Met l yX6_many (wsM yX6_many cX6_many 4 (some .int)) rmX6_many (va_Pc [.ref (ad x0), .int x1] (PW D ad cy h)) (QV D ad cy (some (.int r)) h) 0 0 (Aw ad) := by
  refine met_of (own := RX6) (lv := [(0, .ref (ad x0)), (1, .int x1)]) (by decide) rfl (Nat.le_of_ble_eq_true rfl) rfl (fun p e s m args below meth c E hr hlk => ?_)
  unfold f_X6_many at hf
  refine j_iconst (v := 0) E dX6_many_0 (by decide) ?_
  refine j_istore_n (lv' := [(2, .int 0), (0, .ref (ad x0)), (1, .int x1)]) E dX6_many_1 rfl (by decide) rfl ?_
  refine j_sipush (v := 256) E dX6_many_2 (by decide) ?_
  refine j_iload_n E 2 rfl dX6_many_5 rfl ?_
  refine j_imul E dX6_many_6 ?_
  refine j_istore_n (lv' := [(3, .int (256 * x1)), (2, .int 0), (0, .ref (ad x0)), (1, .int x1)]) E dX6_many_7 rfl (by decide) rfl ?_
  refine j_perm (lv' := [(0, .ref (ad x0)), (1, .int x1), (2, .int 0), (3, .int (256 * x1))]) [2, 3, 1, 0] rfl ?_
  refine w_X6_many_8 E hr hlk h x0 x1 FU _ 0 (256 * x1) (fun x5 hf => ?_) hf
  refine j_iload_n E 0 rfl dX6_many_44 rfl ?_
  cases hf
  exact j_iret E hr hlk dX6_many_45
noncomputable def L_X6_putAt_52 (x0 : Nat) (x1 : Int32) : Nat → (HP → Option (HP × Int32)) → HP → Int32 → Option (HP × Int32)
  | 0, _, _, _ => none
  | n + 1, k, h, x3 =>
      if 256 ≤ x3 then (
        k h
      ) else (
        (gR 5 h x0 3).bind fun v16 =>
        (gR 5 h x0 3).bind fun v17 =>
        (aZ h v17 (2048 + x3)).bind fun v18 =>
        (sZ h v16 ((256 * x1) + x3) v18).bind fun h19 =>
        (gR 5 h19 x0 4).bind fun v20 =>
        (gR 5 h19 x0 4).bind fun v21 =>
        (aJ h19 v21 (2048 + x3)).bind fun v22 =>
        (sJ h19 v20 ((256 * x1) + x3) v22).bind fun h23 =>
        L_X6_putAt_52 x0 x1 n k h23 (x3 + 1)
      )
noncomputable def f_X6_putAt (h : HP) (x0 : Nat) (x1 : Int32) : Option (HP × Int32) :=
  ck 5 h x0 <|
  (f_X6_many h x0 8).bind fun v2 =>
  if v2 ≤ 128 then (
    (gR 5 h x0 0).bind fun v5 =>
    (sZ h v5 x1 1).bind fun h6 =>
    (gR 5 h6 x0 1).bind fun v7 =>
    (gR 5 h6 x0 1).bind fun v8 =>
    (aI h6 v8 8).bind fun v9 =>
    (sI h6 v7 x1 v9).bind fun h10 =>
    (gR 5 h10 x0 2).bind fun v11 =>
    (gR 5 h10 x0 2).bind fun v12 =>
    (aI h10 v12 8).bind fun v13 =>
    (sI h10 v11 x1 v13).bind fun h14 =>
    L_X6_putAt_52 x0 x1 FU (fun h24 =>
      some (h24, v2)) h14 0
  ) else (
    some (h, (-4))
  )
abbrev rmX6_putAt : Room := { frames := 1, cells := 0, slots := 0, locals := 23 }
theorem hd_X6_putAt : yX6_putAt.cls = RX6 ∧ yX6_putAt.cls ≠ "java/lang/invoke/MethodHandle" ∧ yX6_putAt.cls ≠ "java/lang/invoke/VarHandle" ∧ (parseMethodDescriptor yX6_putAt.desc).map (fun d => d.parameters.length) = some 1 := by decide +kernel
set_option maxRecDepth 100000 in
set_option maxHeartbeats 4000000 in
theorem w_X6_putAt_52 {p : Program} {l : Launch} {e : Env} {s : State} {m : MethodId} {args : Array Value} {below : List Frame} {meth : Method} {c : Code} {D : va_G} {ad : Nat → Nat} {cy : Nat → ClassId} (E : EE p s m args c cX6_putAt 4 (wsM yX6_putAt cX6_putAt 4 (some .int)) RX6 D cy) (hr : meth.sig.returnType = (some .int)) (hlk : meth.locks = false) {h' : HP} {r : Int32} (x0 : Nat) (x1 : Int32) (x2 : Int32) : ∀ (n : Nat) (k : (HP → Option (HP × Int32))) (h : HP) (x3 : Int32), (∀ (h : HP), k h = some (h', r) → JJ p l e rmX6_putAt s m args below meth c 0 0 (MQ below (QV D ad cy (some (.int r)) h') args s 0 0 (Aw ad)) D ad cy (Aw ad) 4 h [(2, .int x2)] 109 []) → L_X6_putAt_52 x0 x1 n k h x3 = some (h', r) → JJ p l e rmX6_putAt s m args below meth c 0 0 (MQ below (QV D ad cy (some (.int r)) h') args s 0 0 (Aw ad)) D ad cy (Aw ad) 4 h [(0, .ref (ad x0)), (1, .int x1), (2, .int x2), (3, .int x3)] 52 [] := by
  intro n
  induction n with
  | zero => intro k h x3 hk hf; cases hf
  | succ n ih =>
    intro k h x3 hk hf
    unfold L_X6_putAt_52 at hf
    refine j_iload_n E 3 rfl dX6_putAt_52 rfl ?_
    refine j_sipush (v := 256) E dX6_putAt_53 (by decide) ?_
    refine j_icmp_ge (tgt := 109) E dX6_putAt_56 (by decide) (fun z15 => ?_) (fun z15 => ?_)
    · have hf := ifp hf z15
      refine j_perm (lv' := [(2, .int x2)]) [2] rfl ?_
      exact hk h hf
    · have hf := ifn hf z15
      refine j_aload_n E 0 rfl dX6_putAt_59 rfl ?_
      obtain ⟨v16, ev16, hf⟩ := bs hf
      refine j_getR (ci := 5) (k0 := 3) (T := TX6) (N := 14) E (mI inUX6) rfl (by decide) (mU uw_3_107) ev16 dX6_putAt_60 ?_
      refine j_sipush (v := 256) E dX6_putAt_63 (by decide) ?_
      refine j_iload_n E 1 rfl dX6_putAt_66 rfl ?_
      refine j_imul E dX6_putAt_67 ?_
      refine j_iload_n E 3 rfl dX6_putAt_68 rfl ?_
      refine j_iadd E dX6_putAt_69 ?_
      refine j_aload_n E 0 rfl dX6_putAt_70 rfl ?_
      obtain ⟨v17, ev17, hf⟩ := bs hf
      refine j_getR (ci := 5) (k0 := 3) (T := TX6) (N := 14) E (mI inUX6) rfl (by decide) (mU uw_3_107) ev17 dX6_putAt_71 ?_
      refine j_sipush (v := 2048) E dX6_putAt_74 (by decide) ?_
      refine j_iload_n E 3 rfl dX6_putAt_77 rfl ?_
      refine j_iadd E dX6_putAt_78 ?_
      obtain ⟨v18, ev18, hf⟩ := bs hf
      refine j_aZ E ev18 dX6_putAt_79 ?_
      obtain ⟨h19, eh19, hf⟩ := bs hf
      refine j_sZ E eh19 dX6_putAt_80 ?_
      refine j_aload_n E 0 rfl dX6_putAt_81 rfl ?_
      obtain ⟨v20, ev20, hf⟩ := bs hf
      refine j_getR (ci := 5) (k0 := 4) (T := TX6) (N := 14) E (mI inUX6) rfl (by decide) (mU uw_3_108) ev20 dX6_putAt_82 ?_
      refine j_sipush (v := 256) E dX6_putAt_85 (by decide) ?_
      refine j_iload_n E 1 rfl dX6_putAt_88 rfl ?_
      refine j_imul E dX6_putAt_89 ?_
      refine j_iload_n E 3 rfl dX6_putAt_90 rfl ?_
      refine j_iadd E dX6_putAt_91 ?_
      refine j_aload_n E 0 rfl dX6_putAt_92 rfl ?_
      obtain ⟨v21, ev21, hf⟩ := bs hf
      refine j_getR (ci := 5) (k0 := 4) (T := TX6) (N := 14) E (mI inUX6) rfl (by decide) (mU uw_3_108) ev21 dX6_putAt_93 ?_
      refine j_sipush (v := 2048) E dX6_putAt_96 (by decide) ?_
      refine j_iload_n E 3 rfl dX6_putAt_99 rfl ?_
      refine j_iadd E dX6_putAt_100 ?_
      obtain ⟨v22, ev22, hf⟩ := bs hf
      refine j_aJ E ev22 dX6_putAt_101 ?_
      obtain ⟨h23, eh23, hf⟩ := bs hf
      refine j_sJ E eh23 dX6_putAt_102 ?_
      refine j_iinc (v := (x3 + 1)) (k0 := 3) (lv' := [(3, .int (x3 + 1)), (0, .ref (ad x0)), (1, .int x1), (2, .int x2)]) E dX6_putAt_103 rfl (congrArg (fun z => x3 + z) (by decide)) (by decide) rfl ?_
      refine j_goto (tgt := 52) E dX6_putAt_106 (by decide) ?_
      refine j_perm (lv' := [(0, .ref (ad x0)), (1, .int x1), (2, .int x2), (3, .int (x3 + 1))]) [1, 2, 3, 0] rfl ?_
      exact ih k h23 (x3 + 1) hk hf
set_option maxRecDepth 100000 in
set_option maxHeartbeats 4000000 in
theorem c_X6_putAt (l : Launch) (D : va_G) (ad : Nat → Nat) (cy : Nat → ClassId) (h : HP) (x0 : Nat) (x1 : Int32) {h' : HP} {r : Int32} (hf : f_X6_putAt h x0 x1 = some (h', r)) : Met l yX6_putAt (wsM yX6_putAt cX6_putAt 4 (some .int)) rmX6_putAt (va_Pc [.ref (ad x0), .int x1] (PW D ad cy h)) (QV D ad cy (some (.int r)) h') 0 0 (Aw ad) := by
  refine met_of (own := RX6) (lv := [(0, .ref (ad x0)), (1, .int x1)]) (by decide) rfl (Nat.le_of_ble_eq_true rfl) rfl (fun p e s m args below meth c E hr hlk => ?_)
  unfold f_X6_putAt at hf
  refine j_aload_n E 0 rfl dX6_putAt_0 rfl ?_
  refine j_bipush (v := 8) E dX6_putAt_1 (by decide) ?_
  obtain ⟨k1, hf⟩ := ck_spec hf
  obtain ⟨v2, e3, hf⟩ := bs hf
  refine j_callV (ci := 5) (b := x0) (As := [.int 8]) (rest := []) (v := (some (.int v2))) E (c_X6_many l D ad cy h x0 8 e3) (mcw E.1.2.2.2.2 uw_3_166 uw_3_163 uw_3_165 us_2_1 uw_1_6 rfl rfl hd_X6_many ⟨by decide, by decide⟩) rfl k1 rfl rfl (Nat.le_of_ble_eq_true rfl) dX6_putAt_3 ⟨Nat.zero_le _, Nat.zero_le _⟩ ?_
  refine j_stk (st' := [.int v2]) rfl ?_
  refine j_istore_n (lv' := [(2, .int v2), (0, .ref (ad x0)), (1, .int x1)]) E dX6_putAt_6 rfl (by decide) rfl ?_
  refine j_iload_n E 0 rfl dX6_putAt_7 rfl ?_
  refine j_sipush (v := 128) E dX6_putAt_8 (by decide) ?_
  refine j_icmp_le (tgt := 17) E dX6_putAt_11 (by decide) (fun z4 => ?_) (fun z4 => ?_)
  · have hf := ifp hf z4
    refine j_aload_n E 1 rfl dX6_putAt_17 rfl ?_
    obtain ⟨v5, ev5, hf⟩ := bs hf
    refine j_getR (ci := 5) (k0 := 0) (T := TX6) (N := 14) E (mI inUX6) rfl (by decide) (mU uw_3_104) ev5 dX6_putAt_18 ?_
    refine j_iload_n E 2 rfl dX6_putAt_21 rfl ?_
    refine j_iconst (v := 1) E dX6_putAt_22 (by decide) ?_
    obtain ⟨h6, eh6, hf⟩ := bs hf
    refine j_sZ E eh6 dX6_putAt_23 ?_
    refine j_aload_n E 1 rfl dX6_putAt_24 rfl ?_
    obtain ⟨v7, ev7, hf⟩ := bs hf
    refine j_getR (ci := 5) (k0 := 1) (T := TX6) (N := 14) E (mI inUX6) rfl (by decide) (mU uw_3_105) ev7 dX6_putAt_25 ?_
    refine j_iload_n E 2 rfl dX6_putAt_28 rfl ?_
    refine j_aload_n E 1 rfl dX6_putAt_29 rfl ?_
    obtain ⟨v8, ev8, hf⟩ := bs hf
    refine j_getR (ci := 5) (k0 := 1) (T := TX6) (N := 14) E (mI inUX6) rfl (by decide) (mU uw_3_105) ev8 dX6_putAt_30 ?_
    refine j_bipush (v := 8) E dX6_putAt_33 (by decide) ?_
    obtain ⟨v9, ev9, hf⟩ := bs hf
    refine j_aI E ev9 dX6_putAt_35 ?_
    obtain ⟨h10, eh10, hf⟩ := bs hf
    refine j_sI E eh10 dX6_putAt_36 ?_
    refine j_aload_n E 1 rfl dX6_putAt_37 rfl ?_
    obtain ⟨v11, ev11, hf⟩ := bs hf
    refine j_getR (ci := 5) (k0 := 2) (T := TX6) (N := 14) E (mI inUX6) rfl (by decide) (mU uw_3_106) ev11 dX6_putAt_38 ?_
    refine j_iload_n E 2 rfl dX6_putAt_41 rfl ?_
    refine j_aload_n E 1 rfl dX6_putAt_42 rfl ?_
    obtain ⟨v12, ev12, hf⟩ := bs hf
    refine j_getR (ci := 5) (k0 := 2) (T := TX6) (N := 14) E (mI inUX6) rfl (by decide) (mU uw_3_106) ev12 dX6_putAt_43 ?_
    refine j_bipush (v := 8) E dX6_putAt_46 (by decide) ?_
    obtain ⟨v13, ev13, hf⟩ := bs hf
    refine j_aI E ev13 dX6_putAt_48 ?_
    obtain ⟨h14, eh14, hf⟩ := bs hf
    refine j_sI E eh14 dX6_putAt_49 ?_
    refine j_iconst (v := 0) E dX6_putAt_50 (by decide) ?_
    refine j_istore_n (lv' := [(3, .int 0), (2, .int v2), (0, .ref (ad x0)), (1, .int x1)]) E dX6_putAt_51 rfl (by decide) rfl ?_
    refine j_perm (lv' := [(0, .ref (ad x0)), (1, .int x1), (2, .int v2), (3, .int 0)]) [2, 3, 1, 0] rfl ?_
    refine w_X6_putAt_52 E hr hlk x0 x1 v2 FU _ h14 0 (fun h24 hf => ?_) hf
    refine j_iload_n E 0 rfl dX6_putAt_109 rfl ?_
    cases hf
    exact j_iret E hr hlk dX6_putAt_110
  · have hf := ifn hf z4
    refine j_bipush (v := (-4)) E dX6_putAt_14 (by decide) ?_
    cases hf
    exact j_iret E hr hlk dX6_putAt_16
noncomputable def f_X6_keep (h : HP) (x0 : Nat) (x1 : Int32) (x2 : Int32) (x3 : Int64) : Option (HP) :=
  (gR 5 h x0 3).bind fun v1 =>
  (f_X6_cellOf 8 x1 x2).bind fun v2 =>
  (sZ h v1 v2 1).bind fun h4 =>
  (gR 5 h4 x0 4).bind fun v5 =>
  (f_X6_cellOf 8 x1 x2).bind fun v6 =>
  (sJ h4 v5 v6 x3).bind fun h8 =>
  some h8
abbrev rmX6_keep : Room := { frames := 1, cells := 0, slots := 0, locals := 22 }
theorem hd_X6_keep : yX6_keep.cls = RX6 ∧ yX6_keep.cls ≠ "java/lang/invoke/MethodHandle" ∧ yX6_keep.cls ≠ "java/lang/invoke/VarHandle" ∧ (parseMethodDescriptor yX6_keep.desc).map (fun d => d.parameters.length) = some 3 := by decide +kernel
set_option maxRecDepth 100000 in
set_option maxHeartbeats 4000000 in
theorem c_X6_keep (l : Launch) (D : va_G) (ad : Nat → Nat) (cy : Nat → ClassId) (h : HP) (x0 : Nat) (x1 : Int32) (x2 : Int32) (x3 : Int64) {h' : HP} (hf : f_X6_keep h x0 x1 x2 x3 = some h') : Met l yX6_keep (wsM yX6_keep cX6_keep 5 none) rmX6_keep (va_Pc [.ref (ad x0), .int x1, .int x2, .long x3] (PW D ad cy h)) (QV D ad cy none h') 0 0 (Aw ad) := by
  refine met_of (own := RX6) (lv := [(0, .ref (ad x0)), (1, .int x1), (2, .int x2), (3, .long x3)]) (by decide) rfl (Nat.le_of_ble_eq_true rfl) rfl (fun p e s m args below meth c E hr hlk => ?_)
  unfold f_X6_keep at hf
  refine j_aload_n E 0 rfl dX6_keep_0 rfl ?_
  obtain ⟨v1, ev1, hf⟩ := bs hf
  refine j_getR (ci := 5) (k0 := 3) (T := TX6) (N := 14) E (mI inUX6) rfl (by decide) (mU uw_3_107) ev1 dX6_keep_1 ?_
  refine j_bipush (v := 8) E dX6_keep_4 (by decide) ?_
  refine j_iload_n E 1 rfl dX6_keep_6 rfl ?_
  refine j_iload_n E 2 rfl dX6_keep_7 rfl ?_
  obtain ⟨v2, e3, hf⟩ := bs hf
  refine j_callS (As := [.int 8, .int x1, .int x2]) (rest := [.ref (ad v1)]) (v := (some (.int v2))) E (c_X6_cellOf l D ad cy h 8 x1 x2 e3) (mcs E.1.2.2.2.2 uw_3_213 uw_3_211 uw_3_212 uw_1_6 rfl rfl hd_X6_cellOf ⟨by decide, by decide⟩) rfl rfl (Nat.le_of_ble_eq_true rfl) dX6_keep_8 ⟨Nat.zero_le _, Nat.zero_le _⟩ ?_
  refine j_stk (st' := [.int v2, .ref (ad v1)]) rfl ?_
  refine j_iconst (v := 1) E dX6_keep_11 (by decide) ?_
  obtain ⟨h4, eh4, hf⟩ := bs hf
  refine j_sZ E eh4 dX6_keep_12 ?_
  refine j_aload_n E 0 rfl dX6_keep_13 rfl ?_
  obtain ⟨v5, ev5, hf⟩ := bs hf
  refine j_getR (ci := 5) (k0 := 4) (T := TX6) (N := 14) E (mI inUX6) rfl (by decide) (mU uw_3_108) ev5 dX6_keep_14 ?_
  refine j_bipush (v := 8) E dX6_keep_17 (by decide) ?_
  refine j_iload_n E 1 rfl dX6_keep_19 rfl ?_
  refine j_iload_n E 2 rfl dX6_keep_20 rfl ?_
  obtain ⟨v6, e7, hf⟩ := bs hf
  refine j_callS (As := [.int 8, .int x1, .int x2]) (rest := [.ref (ad v5)]) (v := (some (.int v6))) E (c_X6_cellOf l D ad cy h4 8 x1 x2 e7) (mcs E.1.2.2.2.2 uw_3_213 uw_3_211 uw_3_212 uw_1_6 rfl rfl hd_X6_cellOf ⟨by decide, by decide⟩) rfl rfl (Nat.le_of_ble_eq_true rfl) dX6_keep_21 ⟨Nat.zero_le _, Nat.zero_le _⟩ ?_
  refine j_stk (st' := [.int v6, .ref (ad v5)]) rfl ?_
  refine j_lload_n E 3 rfl dX6_keep_24 rfl ?_
  obtain ⟨h8, eh8, hf⟩ := bs hf
  refine j_sJ E eh8 dX6_keep_25 ?_
  cases hf
  exact j_vret E hr hlk dX6_keep_26
noncomputable def f_X6_has (h : HP) (x0 : Nat) (x1 : Int32) (x2 : Int32) (x3 : Int32) : Option (Int32) :=
  (gR 5 h x0 3).bind fun v1 =>
  (f_X6_cellOf x1 x2 x3).bind fun v2 =>
  (aZ h v1 v2).bind fun v4 =>
  cz v4 <|
  some v4
abbrev rmX6_has : Room := { frames := 1, cells := 0, slots := 0, locals := 22 }
theorem hd_X6_has : yX6_has.cls = RX6 ∧ yX6_has.cls ≠ "java/lang/invoke/MethodHandle" ∧ yX6_has.cls ≠ "java/lang/invoke/VarHandle" ∧ (parseMethodDescriptor yX6_has.desc).map (fun d => d.parameters.length) = some 3 := by decide +kernel
set_option maxRecDepth 100000 in
set_option maxHeartbeats 4000000 in
theorem c_X6_has (l : Launch) (D : va_G) (ad : Nat → Nat) (cy : Nat → ClassId) (h : HP) (x0 : Nat) (x1 : Int32) (x2 : Int32) (x3 : Int32) {r : Int32} (hf : f_X6_has h x0 x1 x2 x3 = some r) : Met l yX6_has (wsM yX6_has cX6_has 4 (some .boolean)) rmX6_has (va_Pc [.ref (ad x0), .int x1, .int x2, .int x3] (PW D ad cy h)) (QV D ad cy (some (.int r)) h) 0 0 (Aw ad) := by
  refine met_of (own := RX6) (lv := [(0, .ref (ad x0)), (1, .int x1), (2, .int x2), (3, .int x3)]) (by decide) rfl (Nat.le_of_ble_eq_true rfl) rfl (fun p e s m args below meth c E hr hlk => ?_)
  unfold f_X6_has at hf
  refine j_aload_n E 0 rfl dX6_has_0 rfl ?_
  obtain ⟨v1, ev1, hf⟩ := bs hf
  refine j_getR (ci := 5) (k0 := 3) (T := TX6) (N := 14) E (mI inUX6) rfl (by decide) (mU uw_3_107) ev1 dX6_has_1 ?_
  refine j_iload_n E 1 rfl dX6_has_4 rfl ?_
  refine j_iload_n E 2 rfl dX6_has_5 rfl ?_
  refine j_iload_n E 3 rfl dX6_has_6 rfl ?_
  obtain ⟨v2, e3, hf⟩ := bs hf
  refine j_callS (As := [.int x1, .int x2, .int x3]) (rest := [.ref (ad v1)]) (v := (some (.int v2))) E (c_X6_cellOf l D ad cy h x1 x2 x3 e3) (mcs E.1.2.2.2.2 uw_3_213 uw_3_211 uw_3_212 uw_1_6 rfl rfl hd_X6_cellOf ⟨by decide, by decide⟩) rfl rfl (Nat.le_of_ble_eq_true rfl) dX6_has_7 ⟨Nat.zero_le _, Nat.zero_le _⟩ ?_
  refine j_stk (st' := [.int v2, .ref (ad v1)]) rfl ?_
  obtain ⟨v4, ev4, hf⟩ := bs hf
  refine j_aZ E ev4 dX6_has_10 ?_
  obtain ⟨n5, hf⟩ := cz_spec hf
  cases hf
  exact j_zret E hr hlk n5 dX6_has_11
noncomputable def f_X6_holds (h : HP) (x0 : Nat) (x1 : Int32) (x2 : Int32) (x3 : Int32) : Option (Int64) :=
  ck 5 h x0 <|
  (f_X6_isIn h x0 x1 x2 x3).bind fun v2 =>
  if v2 = 0 then (
    some 0
  ) else (
    ck 5 h x0 <|
    (f_X6_has h x0 x1 x2 x3).bind fun v6 =>
    if v6 = 0 then (
      some 0
    ) else (
      (gR 5 h x0 4).bind fun v9 =>
      (f_X6_cellOf x1 x2 x3).bind fun v10 =>
      (aJ h v9 v10).bind fun v12 =>
      some v12
    )
  )
abbrev rmX6_holds : Room := { frames := 2, cells := 0, slots := 0, locals := 45 }
theorem hd_X6_holds : yX6_holds.cls = RX6 ∧ yX6_holds.cls ≠ "java/lang/invoke/MethodHandle" ∧ yX6_holds.cls ≠ "java/lang/invoke/VarHandle" ∧ (parseMethodDescriptor yX6_holds.desc).map (fun d => d.parameters.length) = some 3 := by decide +kernel
set_option maxRecDepth 100000 in
set_option maxHeartbeats 4000000 in
theorem c_X6_holds (l : Launch) (D : va_G) (ad : Nat → Nat) (cy : Nat → ClassId) (h : HP) (x0 : Nat) (x1 : Int32) (x2 : Int32) (x3 : Int32) {r : Int64} (hf : f_X6_holds h x0 x1 x2 x3 = some r) : Met l yX6_holds (wsM yX6_holds cX6_holds 4 (some .long)) rmX6_holds (va_Pc [.ref (ad x0), .int x1, .int x2, .int x3] (PW D ad cy h)) (QV D ad cy (some (.long r)) h) 0 0 (Aw ad) := by
  refine met_of (own := RX6) (lv := [(0, .ref (ad x0)), (1, .int x1), (2, .int x2), (3, .int x3)]) (by decide) rfl (Nat.le_of_ble_eq_true rfl) rfl (fun p e s m args below meth c E hr hlk => ?_)
  unfold f_X6_holds at hf
  refine j_aload_n E 0 rfl dX6_holds_0 rfl ?_
  refine j_iload_n E 1 rfl dX6_holds_1 rfl ?_
  refine j_iload_n E 2 rfl dX6_holds_2 rfl ?_
  refine j_iload_n E 3 rfl dX6_holds_3 rfl ?_
  obtain ⟨k1, hf⟩ := ck_spec hf
  obtain ⟨v2, e3, hf⟩ := bs hf
  refine j_callV (ci := 5) (b := x0) (As := [.int x1, .int x2, .int x3]) (rest := []) (v := (some (.int v2))) E (c_X6_isIn l D ad cy h x0 x1 x2 x3 e3) (mcw E.1.2.2.2.2 uw_3_194 uw_3_191 uw_3_193 us_2_4 uw_1_6 rfl rfl hd_X6_isIn ⟨by decide, by decide⟩) rfl k1 rfl rfl (Nat.le_of_ble_eq_true rfl) dX6_holds_4 ⟨Nat.zero_le _, Nat.zero_le _⟩ ?_
  refine j_stk (st' := [.int v2]) rfl ?_
  refine j_if_eq (tgt := 34) E dX6_holds_7 (by decide) (fun z4 => ?_) (fun z4 => ?_)
  · have hf := ifp hf z4
    refine j_lconst (v := 0) E dX6_holds_34 (by decide) ?_
    cases hf
    exact j_lret E hr hlk dX6_holds_35
  · have hf := ifn hf z4
    refine j_aload_n E 0 rfl dX6_holds_10 rfl ?_
    refine j_iload_n E 1 rfl dX6_holds_11 rfl ?_
    refine j_iload_n E 2 rfl dX6_holds_12 rfl ?_
    refine j_iload_n E 3 rfl dX6_holds_13 rfl ?_
    obtain ⟨k5, hf⟩ := ck_spec hf
    obtain ⟨v6, e7, hf⟩ := bs hf
    refine j_callV (ci := 5) (b := x0) (As := [.int x1, .int x2, .int x3]) (rest := []) (v := (some (.int v6))) E (c_X6_has l D ad cy h x0 x1 x2 x3 e7) (mcw E.1.2.2.2.2 uw_3_210 uw_3_207 uw_3_209 us_2_6 uw_1_6 rfl rfl hd_X6_has ⟨by decide, by decide⟩) rfl k5 rfl rfl (Nat.le_of_ble_eq_true rfl) dX6_holds_14 ⟨Nat.zero_le _, Nat.zero_le _⟩ ?_
    refine j_stk (st' := [.int v6]) rfl ?_
    refine j_if_eq (tgt := 34) E dX6_holds_17 (by decide) (fun z8 => ?_) (fun z8 => ?_)
    · have hf := ifp hf z8
      refine j_lconst (v := 0) E dX6_holds_34 (by decide) ?_
      cases hf
      exact j_lret E hr hlk dX6_holds_35
    · have hf := ifn hf z8
      refine j_aload_n E 0 rfl dX6_holds_20 rfl ?_
      obtain ⟨v9, ev9, hf⟩ := bs hf
      refine j_getR (ci := 5) (k0 := 4) (T := TX6) (N := 14) E (mI inUX6) rfl (by decide) (mU uw_3_108) ev9 dX6_holds_21 ?_
      refine j_iload_n E 1 rfl dX6_holds_24 rfl ?_
      refine j_iload_n E 2 rfl dX6_holds_25 rfl ?_
      refine j_iload_n E 3 rfl dX6_holds_26 rfl ?_
      obtain ⟨v10, e11, hf⟩ := bs hf
      refine j_callS (As := [.int x1, .int x2, .int x3]) (rest := [.ref (ad v9)]) (v := (some (.int v10))) E (c_X6_cellOf l D ad cy h x1 x2 x3 e11) (mcs E.1.2.2.2.2 uw_3_213 uw_3_211 uw_3_212 uw_1_6 rfl rfl hd_X6_cellOf ⟨by decide, by decide⟩) rfl rfl (Nat.le_of_ble_eq_true rfl) dX6_holds_27 ⟨Nat.zero_le _, Nat.zero_le _⟩ ?_
      refine j_stk (st' := [.int v10, .ref (ad v9)]) rfl ?_
      obtain ⟨v12, ev12, hf⟩ := bs hf
      refine j_aJ E ev12 dX6_holds_30 ?_
      refine j_goto (tgt := 35) E dX6_holds_31 (by decide) ?_
      cases hf
      exact j_lret E hr hlk dX6_holds_35
noncomputable def f_X6_table (h : HP) (x0 : Nat) (x1 : Int32) (x2 : Int32) (x3 : Int32) : Option (HP × Int32) :=
  (f_X6_isNumber x1).bind fun v1 =>
  if v1 = 0 then (
    some (h, (-1))
  ) else (
    if x2 < 1 then (
      some (h, (-2))
    ) else (
      if 16 < x2 then (
        some (h, (-2))
      ) else (
        if x3 < 1 then (
          some (h, (-2))
        ) else (
          if x3 ≤ 16 then (
            ck 5 h x0 <|
            (f_X6_begin h x0 x2 x3).bind fun h9 =>
            ck 5 h9 x0 <|
            (f_X6_putAt h9 x0 x1).bind fun (h12, v13) =>
            some (h12, 1)
          ) else (
            some (h, (-2))
          )
        )
      )
    )
  )
abbrev rmX6_table : Room := { frames := 2, cells := 0, slots := 0, locals := 46 }
theorem hd_X6_table : yX6_table.cls = RX6 ∧ yX6_table.cls ≠ "java/lang/invoke/MethodHandle" ∧ yX6_table.cls ≠ "java/lang/invoke/VarHandle" ∧ (parseMethodDescriptor yX6_table.desc).map (fun d => d.parameters.length) = some 3 := by decide +kernel
set_option maxRecDepth 100000 in
set_option maxHeartbeats 4000000 in
theorem c_X6_table (l : Launch) (D : va_G) (ad : Nat → Nat) (cy : Nat → ClassId) (h : HP) (x0 : Nat) (x1 : Int32) (x2 : Int32) (x3 : Int32) {h' : HP} {r : Int32} (hf : f_X6_table h x0 x1 x2 x3 = some (h', r)) : Met l yX6_table (wsM yX6_table cX6_table 4 (some .int)) rmX6_table (va_Pc [.ref (ad x0), .int x1, .int x2, .int x3] (PW D ad cy h)) (QV D ad cy (some (.int r)) h') 0 0 (Aw ad) := by
  refine met_of (own := RX6) (lv := [(0, .ref (ad x0)), (1, .int x1), (2, .int x2), (3, .int x3)]) (by decide) rfl (Nat.le_of_ble_eq_true rfl) rfl (fun p e s m args below meth c E hr hlk => ?_)
  unfold f_X6_table at hf
  refine j_iload_n E 1 rfl dX6_table_0 rfl ?_
  obtain ⟨v1, e2, hf⟩ := bs hf
  refine j_callS (As := [.int x1]) (rest := []) (v := (some (.int v1))) E (c_X6_isNumber l D ad cy h x1 e2) (mcs E.1.2.2.2.2 uw_3_154 uw_3_152 uw_3_153 uw_1_6 rfl rfl hd_X6_isNumber ⟨by decide, by decide⟩) rfl rfl (Nat.le_of_ble_eq_true rfl) dX6_table_1 ⟨Nat.zero_le _, Nat.zero_le _⟩ ?_
  refine j_stk (st' := [.int v1]) rfl ?_
  refine j_if_ne (tgt := 9) E dX6_table_4 (by decide) (fun z3 => ?_) (fun z3 => ?_)
  · have hf := ifn hf z3
    refine j_iload_n E 2 rfl dX6_table_9 rfl ?_
    refine j_iconst (v := 1) E dX6_table_10 (by decide) ?_
    refine j_icmp_lt (tgt := 31) E dX6_table_11 (by decide) (fun z4 => ?_) (fun z4 => ?_)
    · have hf := ifp hf z4
      refine j_bipush (v := (-2)) E dX6_table_31 (by decide) ?_
      cases hf
      exact j_iret E hr hlk dX6_table_33
    · have hf := ifn hf z4
      refine j_iload_n E 2 rfl dX6_table_14 rfl ?_
      refine j_bipush (v := 16) E dX6_table_15 (by decide) ?_
      refine j_icmp_gt (tgt := 31) E dX6_table_17 (by decide) (fun z5 => ?_) (fun z5 => ?_)
      · have hf := ifp hf z5
        refine j_bipush (v := (-2)) E dX6_table_31 (by decide) ?_
        cases hf
        exact j_iret E hr hlk dX6_table_33
      · have hf := ifn hf z5
        refine j_iload_n E 3 rfl dX6_table_20 rfl ?_
        refine j_iconst (v := 1) E dX6_table_21 (by decide) ?_
        refine j_icmp_lt (tgt := 31) E dX6_table_22 (by decide) (fun z6 => ?_) (fun z6 => ?_)
        · have hf := ifp hf z6
          refine j_bipush (v := (-2)) E dX6_table_31 (by decide) ?_
          cases hf
          exact j_iret E hr hlk dX6_table_33
        · have hf := ifn hf z6
          refine j_iload_n E 3 rfl dX6_table_25 rfl ?_
          refine j_bipush (v := 16) E dX6_table_26 (by decide) ?_
          refine j_icmp_le (tgt := 34) E dX6_table_28 (by decide) (fun z7 => ?_) (fun z7 => ?_)
          · have hf := ifp hf z7
            refine j_aload_n E 0 rfl dX6_table_34 rfl ?_
            refine j_iload_n E 2 rfl dX6_table_35 rfl ?_
            refine j_iload_n E 3 rfl dX6_table_36 rfl ?_
            obtain ⟨k8, hf⟩ := ck_spec hf
            obtain ⟨h9, e10, hf⟩ := bs hf
            refine j_callV (ci := 5) (b := x0) (As := [.int x2, .int x3]) (rest := []) (v := none) E (c_X6_begin l D ad cy h x0 x2 x3 e10) (mcw E.1.2.2.2.2 uw_3_158 uw_3_155 uw_3_157 us_1_15 uw_1_6 rfl rfl hd_X6_begin ⟨by decide, by decide⟩) rfl k8 rfl rfl (Nat.le_of_ble_eq_true rfl) dX6_table_37 ⟨Nat.zero_le _, Nat.zero_le _⟩ ?_
            refine j_stk (st' := []) rfl ?_
            refine j_aload_n E 0 rfl dX6_table_40 rfl ?_
            refine j_iload_n E 1 rfl dX6_table_41 rfl ?_
            obtain ⟨k11, hf⟩ := ck_spec hf
            obtain ⟨⟨h12, v13⟩, e14, hf⟩ := bs hf
            refine j_callV (ci := 5) (b := x0) (As := [.int x1]) (rest := []) (v := (some (.int v13))) E (c_X6_putAt l D ad cy h9 x0 x1 e14) (mcw E.1.2.2.2.2 uw_3_162 uw_3_159 uw_3_161 us_2_0 uw_1_6 rfl rfl hd_X6_putAt ⟨by decide, by decide⟩) rfl k11 rfl rfl (Nat.le_of_ble_eq_true rfl) dX6_table_42 ⟨Nat.zero_le _, Nat.zero_le _⟩ ?_
            refine j_stk (st' := [.int v13]) rfl ?_
            refine j_pop E dX6_table_45 rfl ?_
            refine j_iconst (v := 1) E dX6_table_46 (by decide) ?_
            cases hf
            exact j_iret E hr hlk dX6_table_47
          · have hf := ifn hf z7
            refine j_bipush (v := (-2)) E dX6_table_31 (by decide) ?_
            cases hf
            exact j_iret E hr hlk dX6_table_33
  · have hf := ifp hf z3
    refine j_iconst (v := (-1)) E dX6_table_7 (by decide) ?_
    cases hf
    exact j_iret E hr hlk dX6_table_8
noncomputable def f_X6_triple (h : HP) (x0 : Nat) (x1 : Int32) (x2 : Int32) (x3 : Int64) : Option (HP × Int32) :=
  if x1 < 0 then (
    some (h, (-2))
  ) else (
    if 15 < x1 then (
      some (h, (-2))
    ) else (
      if x2 < 0 then (
        some (h, (-2))
      ) else (
        if x2 ≤ 15 then (
          (gI 5 h x0 5).bind fun v5 =>
          if v5 = 64 then (
            some (h, (-4))
          ) else (
            (gR 5 h x0 6).bind fun v7 =>
            (gI 5 h x0 5).bind fun v8 =>
            (sI h v7 v8 ((16 * x1) + x2)).bind fun h9 =>
            (gR 5 h9 x0 7).bind fun v10 =>
            (gI 5 h9 x0 5).bind fun v11 =>
            (sJ h9 v10 v11 x3).bind fun h12 =>
            (gI 5 h12 x0 5).bind fun v13 =>
            (pI 5 h12 x0 5 (v13 + 1)).bind fun h14 =>
            (gI 5 h14 x0 5).bind fun v15 =>
            some (h14, v15)
          )
        ) else (
          some (h, (-2))
        )
      )
    )
  )
abbrev rmX6_triple : Room := { frames := 0, cells := 0, slots := 0, locals := 0 }
theorem hd_X6_triple : yX6_triple.cls = RX6 ∧ yX6_triple.cls ≠ "java/lang/invoke/MethodHandle" ∧ yX6_triple.cls ≠ "java/lang/invoke/VarHandle" ∧ (parseMethodDescriptor yX6_triple.desc).map (fun d => d.parameters.length) = some 3 := by decide +kernel
set_option maxRecDepth 100000 in
set_option maxHeartbeats 4000000 in
theorem c_X6_triple (l : Launch) (D : va_G) (ad : Nat → Nat) (cy : Nat → ClassId) (h : HP) (x0 : Nat) (x1 : Int32) (x2 : Int32) (x3 : Int64) {h' : HP} {r : Int32} (hf : f_X6_triple h x0 x1 x2 x3 = some (h', r)) : Met l yX6_triple (wsM yX6_triple cX6_triple 5 (some .int)) rmX6_triple (va_Pc [.ref (ad x0), .int x1, .int x2, .long x3] (PW D ad cy h)) (QV D ad cy (some (.int r)) h') 0 0 (Aw ad) := by
  refine met_of (own := RX6) (lv := [(0, .ref (ad x0)), (1, .int x1), (2, .int x2), (3, .long x3)]) (by decide) rfl (Nat.le_of_ble_eq_true rfl) rfl (fun p e s m args below meth c E hr hlk => ?_)
  unfold f_X6_triple at hf
  refine j_iload_n E 1 rfl dX6_triple_0 rfl ?_
  refine j_if_lt (tgt := 20) E dX6_triple_1 (by decide) (fun z1 => ?_) (fun z1 => ?_)
  · have hf := ifp hf z1
    refine j_bipush (v := (-2)) E dX6_triple_20 (by decide) ?_
    cases hf
    exact j_iret E hr hlk dX6_triple_22
  · have hf := ifn hf z1
    refine j_iload_n E 1 rfl dX6_triple_4 rfl ?_
    refine j_bipush (v := 15) E dX6_triple_5 (by decide) ?_
    refine j_icmp_gt (tgt := 20) E dX6_triple_7 (by decide) (fun z2 => ?_) (fun z2 => ?_)
    · have hf := ifp hf z2
      refine j_bipush (v := (-2)) E dX6_triple_20 (by decide) ?_
      cases hf
      exact j_iret E hr hlk dX6_triple_22
    · have hf := ifn hf z2
      refine j_iload_n E 2 rfl dX6_triple_10 rfl ?_
      refine j_if_lt (tgt := 20) E dX6_triple_11 (by decide) (fun z3 => ?_) (fun z3 => ?_)
      · have hf := ifp hf z3
        refine j_bipush (v := (-2)) E dX6_triple_20 (by decide) ?_
        cases hf
        exact j_iret E hr hlk dX6_triple_22
      · have hf := ifn hf z3
        refine j_iload_n E 2 rfl dX6_triple_14 rfl ?_
        refine j_bipush (v := 15) E dX6_triple_15 (by decide) ?_
        refine j_icmp_le (tgt := 23) E dX6_triple_17 (by decide) (fun z4 => ?_) (fun z4 => ?_)
        · have hf := ifp hf z4
          refine j_aload_n E 0 rfl dX6_triple_23 rfl ?_
          obtain ⟨v5, ev5, hf⟩ := bs hf
          refine j_getI (ci := 5) (k0 := 5) (T := TX6) (N := 14) E (mI inUX6) rfl (by decide) (mU uw_3_109) ev5 dX6_triple_24 ?_
          refine j_bipush (v := 64) E dX6_triple_27 (by decide) ?_
          refine j_icmp_ne (tgt := 35) E dX6_triple_29 (by decide) (fun z6 => ?_) (fun z6 => ?_)
          · have hf := ifn hf z6
            refine j_aload_n E 0 rfl dX6_triple_35 rfl ?_
            obtain ⟨v7, ev7, hf⟩ := bs hf
            refine j_getR (ci := 5) (k0 := 6) (T := TX6) (N := 14) E (mI inUX6) rfl (by decide) (mU uw_3_110) ev7 dX6_triple_36 ?_
            refine j_aload_n E 0 rfl dX6_triple_39 rfl ?_
            obtain ⟨v8, ev8, hf⟩ := bs hf
            refine j_getI (ci := 5) (k0 := 5) (T := TX6) (N := 14) E (mI inUX6) rfl (by decide) (mU uw_3_109) ev8 dX6_triple_40 ?_
            refine j_bipush (v := 16) E dX6_triple_43 (by decide) ?_
            refine j_iload_n E 1 rfl dX6_triple_45 rfl ?_
            refine j_imul E dX6_triple_46 ?_
            refine j_iload_n E 2 rfl dX6_triple_47 rfl ?_
            refine j_iadd E dX6_triple_48 ?_
            obtain ⟨h9, eh9, hf⟩ := bs hf
            refine j_sI E eh9 dX6_triple_49 ?_
            refine j_aload_n E 0 rfl dX6_triple_50 rfl ?_
            obtain ⟨v10, ev10, hf⟩ := bs hf
            refine j_getR (ci := 5) (k0 := 7) (T := TX6) (N := 14) E (mI inUX6) rfl (by decide) (mU uw_3_111) ev10 dX6_triple_51 ?_
            refine j_aload_n E 0 rfl dX6_triple_54 rfl ?_
            obtain ⟨v11, ev11, hf⟩ := bs hf
            refine j_getI (ci := 5) (k0 := 5) (T := TX6) (N := 14) E (mI inUX6) rfl (by decide) (mU uw_3_109) ev11 dX6_triple_55 ?_
            refine j_lload_n E 3 rfl dX6_triple_58 rfl ?_
            obtain ⟨h12, eh12, hf⟩ := bs hf
            refine j_sJ E eh12 dX6_triple_59 ?_
            refine j_aload_n E 0 rfl dX6_triple_60 rfl ?_
            refine j_dup E dX6_triple_61 rfl ?_
            obtain ⟨v13, ev13, hf⟩ := bs hf
            refine j_getI (ci := 5) (k0 := 5) (T := TX6) (N := 14) E (mI inUX6) rfl (by decide) (mU uw_3_109) ev13 dX6_triple_62 ?_
            refine j_iconst (v := 1) E dX6_triple_65 (by decide) ?_
            refine j_iadd E dX6_triple_66 ?_
            obtain ⟨h14, eh14, hf⟩ := bs hf
            refine j_putI (ci := 5) (k0 := 5) (T := TX6) (N := 14) E (mI inUX6) rfl (by decide) (mU uw_3_109) tyX6 tyX6_ok nmX6 rfl (by decide +kernel) eh14 dX6_triple_67 ?_
            refine j_aload_n E 0 rfl dX6_triple_70 rfl ?_
            obtain ⟨v15, ev15, hf⟩ := bs hf
            refine j_getI (ci := 5) (k0 := 5) (T := TX6) (N := 14) E (mI inUX6) rfl (by decide) (mU uw_3_109) ev15 dX6_triple_71 ?_
            cases hf
            exact j_iret E hr hlk dX6_triple_74
          · have hf := ifp hf z6
            refine j_bipush (v := (-4)) E dX6_triple_32 (by decide) ?_
            cases hf
            exact j_iret E hr hlk dX6_triple_34
        · have hf := ifn hf z4
          refine j_bipush (v := (-2)) E dX6_triple_20 (by decide) ?_
          cases hf
          exact j_iret E hr hlk dX6_triple_22
noncomputable def f_X6_list (h : HP) (x0 : Nat) (x1 : Int32) : Option (HP × Int32) :=
  if x1 < 0 then (
    some (h, (-2))
  ) else (
    if x1 ≤ 15 then (
      (gI 5 h x0 8).bind fun v3 =>
      if v3 = 16 then (
        some (h, (-4))
      ) else (
        (gR 5 h x0 9).bind fun v5 =>
        (gI 5 h x0 8).bind fun v6 =>
        (sI h v5 v6 x1).bind fun h7 =>
        (gI 5 h7 x0 8).bind fun v8 =>
        (pI 5 h7 x0 8 (v8 + 1)).bind fun h9 =>
        (gI 5 h9 x0 8).bind fun v10 =>
        some (h9, v10)
      )
    ) else (
      some (h, (-2))
    )
  )
abbrev rmX6_list : Room := { frames := 0, cells := 0, slots := 0, locals := 0 }
theorem hd_X6_list : yX6_list.cls = RX6 ∧ yX6_list.cls ≠ "java/lang/invoke/MethodHandle" ∧ yX6_list.cls ≠ "java/lang/invoke/VarHandle" ∧ (parseMethodDescriptor yX6_list.desc).map (fun d => d.parameters.length) = some 1 := by decide +kernel
set_option maxRecDepth 100000 in
set_option maxHeartbeats 4000000 in
theorem c_X6_list (l : Launch) (D : va_G) (ad : Nat → Nat) (cy : Nat → ClassId) (h : HP) (x0 : Nat) (x1 : Int32) {h' : HP} {r : Int32} (hf : f_X6_list h x0 x1 = some (h', r)) : Met l yX6_list (wsM yX6_list cX6_list 2 (some .int)) rmX6_list (va_Pc [.ref (ad x0), .int x1] (PW D ad cy h)) (QV D ad cy (some (.int r)) h') 0 0 (Aw ad) := by
  refine met_of (own := RX6) (lv := [(0, .ref (ad x0)), (1, .int x1)]) (by decide) rfl (Nat.le_of_ble_eq_true rfl) rfl (fun p e s m args below meth c E hr hlk => ?_)
  unfold f_X6_list at hf
  refine j_iload_n E 1 rfl dX6_list_0 rfl ?_
  refine j_if_lt (tgt := 10) E dX6_list_1 (by decide) (fun z1 => ?_) (fun z1 => ?_)
  · have hf := ifp hf z1
    refine j_bipush (v := (-2)) E dX6_list_10 (by decide) ?_
    cases hf
    exact j_iret E hr hlk dX6_list_12
  · have hf := ifn hf z1
    refine j_iload_n E 1 rfl dX6_list_4 rfl ?_
    refine j_bipush (v := 15) E dX6_list_5 (by decide) ?_
    refine j_icmp_le (tgt := 13) E dX6_list_7 (by decide) (fun z2 => ?_) (fun z2 => ?_)
    · have hf := ifp hf z2
      refine j_aload_n E 0 rfl dX6_list_13 rfl ?_
      obtain ⟨v3, ev3, hf⟩ := bs hf
      refine j_getI (ci := 5) (k0 := 8) (T := TX6) (N := 14) E (mI inUX6) rfl (by decide) (mU uw_3_112) ev3 dX6_list_14 ?_
      refine j_bipush (v := 16) E dX6_list_17 (by decide) ?_
      refine j_icmp_ne (tgt := 25) E dX6_list_19 (by decide) (fun z4 => ?_) (fun z4 => ?_)
      · have hf := ifn hf z4
        refine j_aload_n E 0 rfl dX6_list_25 rfl ?_
        obtain ⟨v5, ev5, hf⟩ := bs hf
        refine j_getR (ci := 5) (k0 := 9) (T := TX6) (N := 14) E (mI inUX6) rfl (by decide) (mU uw_3_113) ev5 dX6_list_26 ?_
        refine j_aload_n E 0 rfl dX6_list_29 rfl ?_
        obtain ⟨v6, ev6, hf⟩ := bs hf
        refine j_getI (ci := 5) (k0 := 8) (T := TX6) (N := 14) E (mI inUX6) rfl (by decide) (mU uw_3_112) ev6 dX6_list_30 ?_
        refine j_iload_n E 1 rfl dX6_list_33 rfl ?_
        obtain ⟨h7, eh7, hf⟩ := bs hf
        refine j_sI E eh7 dX6_list_34 ?_
        refine j_aload_n E 0 rfl dX6_list_35 rfl ?_
        refine j_dup E dX6_list_36 rfl ?_
        obtain ⟨v8, ev8, hf⟩ := bs hf
        refine j_getI (ci := 5) (k0 := 8) (T := TX6) (N := 14) E (mI inUX6) rfl (by decide) (mU uw_3_112) ev8 dX6_list_37 ?_
        refine j_iconst (v := 1) E dX6_list_40 (by decide) ?_
        refine j_iadd E dX6_list_41 ?_
        obtain ⟨h9, eh9, hf⟩ := bs hf
        refine j_putI (ci := 5) (k0 := 8) (T := TX6) (N := 14) E (mI inUX6) rfl (by decide) (mU uw_3_112) tyX6 tyX6_ok nmX6 rfl (by decide +kernel) eh9 dX6_list_42 ?_
        refine j_aload_n E 0 rfl dX6_list_45 rfl ?_
        obtain ⟨v10, ev10, hf⟩ := bs hf
        refine j_getI (ci := 5) (k0 := 8) (T := TX6) (N := 14) E (mI inUX6) rfl (by decide) (mU uw_3_112) ev10 dX6_list_46 ?_
        cases hf
        exact j_iret E hr hlk dX6_list_49
      · have hf := ifp hf z4
        refine j_bipush (v := (-4)) E dX6_list_22 (by decide) ?_
        cases hf
        exact j_iret E hr hlk dX6_list_24
    · have hf := ifn hf z2
      refine j_bipush (v := (-2)) E dX6_list_10 (by decide) ?_
      cases hf
      exact j_iret E hr hlk dX6_list_12
noncomputable def f_X6_listed (h : HP) (x0 : Nat) (x1 : Int32) : Option (Int32) :=
  if x1 < 0 then (
    some (-2)
  ) else (
    (gI 5 h x0 8).bind fun v2 =>
    if x1 < v2 then (
      (gR 5 h x0 9).bind fun v4 =>
      (aI h v4 x1).bind fun v5 =>
      some v5
    ) else (
      some (-2)
    )
  )
abbrev rmX6_listed : Room := { frames := 0, cells := 0, slots := 0, locals := 0 }
theorem hd_X6_listed : yX6_listed.cls = RX6 ∧ yX6_listed.cls ≠ "java/lang/invoke/MethodHandle" ∧ yX6_listed.cls ≠ "java/lang/invoke/VarHandle" ∧ (parseMethodDescriptor yX6_listed.desc).map (fun d => d.parameters.length) = some 1 := by decide +kernel
set_option maxRecDepth 100000 in
set_option maxHeartbeats 4000000 in
theorem c_X6_listed (l : Launch) (D : va_G) (ad : Nat → Nat) (cy : Nat → ClassId) (h : HP) (x0 : Nat) (x1 : Int32) {r : Int32} (hf : f_X6_listed h x0 x1 = some r) : Met l yX6_listed (wsM yX6_listed cX6_listed 2 (some .int)) rmX6_listed (va_Pc [.ref (ad x0), .int x1] (PW D ad cy h)) (QV D ad cy (some (.int r)) h) 0 0 (Aw ad) := by
  refine met_of (own := RX6) (lv := [(0, .ref (ad x0)), (1, .int x1)]) (by decide) rfl (Nat.le_of_ble_eq_true rfl) rfl (fun p e s m args below meth c E hr hlk => ?_)
  unfold f_X6_listed at hf
  refine j_iload_n E 1 rfl dX6_listed_0 rfl ?_
  refine j_if_lt (tgt := 12) E dX6_listed_1 (by decide) (fun z1 => ?_) (fun z1 => ?_)
  · have hf := ifp hf z1
    refine j_bipush (v := (-2)) E dX6_listed_12 (by decide) ?_
    refine j_goto (tgt := 23) E dX6_listed_14 (by decide) ?_
    cases hf
    exact j_iret E hr hlk dX6_listed_23
  · have hf := ifn hf z1
    refine j_iload_n E 1 rfl dX6_listed_4 rfl ?_
    refine j_aload_n E 0 rfl dX6_listed_5 rfl ?_
    obtain ⟨v2, ev2, hf⟩ := bs hf
    refine j_getI (ci := 5) (k0 := 8) (T := TX6) (N := 14) E (mI inUX6) rfl (by decide) (mU uw_3_112) ev2 dX6_listed_6 ?_
    refine j_icmp_lt (tgt := 17) E dX6_listed_9 (by decide) (fun z3 => ?_) (fun z3 => ?_)
    · have hf := ifp hf z3
      refine j_aload_n E 0 rfl dX6_listed_17 rfl ?_
      obtain ⟨v4, ev4, hf⟩ := bs hf
      refine j_getR (ci := 5) (k0 := 9) (T := TX6) (N := 14) E (mI inUX6) rfl (by decide) (mU uw_3_113) ev4 dX6_listed_18 ?_
      refine j_iload_n E 1 rfl dX6_listed_21 rfl ?_
      obtain ⟨v5, ev5, hf⟩ := bs hf
      refine j_aI E ev5 dX6_listed_22 ?_
      cases hf
      exact j_iret E hr hlk dX6_listed_23
    · have hf := ifn hf z3
      refine j_bipush (v := (-2)) E dX6_listed_12 (by decide) ?_
      refine j_goto (tgt := 23) E dX6_listed_14 (by decide) ?_
      cases hf
      exact j_iret E hr hlk dX6_listed_23
noncomputable def L_X6_take_18 (x0 : Nat) (x1 : Int32) : Nat → (HP → Option (HP)) → HP → Int32 → Option (HP)
  | 0, _, _, _ => none
  | n + 1, k, h, x2 =>
      if 256 ≤ x2 then (
        k h
      ) else (
        (gR 5 h x0 3).bind fun v9 =>
        (gR 5 h x0 3).bind fun v10 =>
        (aZ h v10 ((256 * x1) + x2)).bind fun v11 =>
        (sZ h v9 (2048 + x2) v11).bind fun h12 =>
        (gR 5 h12 x0 4).bind fun v13 =>
        (gR 5 h12 x0 4).bind fun v14 =>
        (aJ h12 v14 ((256 * x1) + x2)).bind fun v15 =>
        (sJ h12 v13 (2048 + x2) v15).bind fun h16 =>
        L_X6_take_18 x0 x1 n k h16 (x2 + 1)
      )
noncomputable def f_X6_take (h : HP) (x0 : Nat) (x1 : Int32) : Option (HP) :=
  (gR 5 h x0 1).bind fun v1 =>
  (aI h v1 x1).bind fun v2 =>
  (gR 5 h x0 2).bind fun v3 =>
  (aI h v3 x1).bind fun v4 =>
  ck 5 h x0 <|
  (f_X6_begin h x0 v2 v4).bind fun h6 =>
  L_X6_take_18 x0 x1 FU (fun h17 =>
    some h17) h6 0
abbrev rmX6_take : Room := { frames := 1, cells := 0, slots := 0, locals := 23 }
theorem hd_X6_take : yX6_take.cls = RX6 ∧ yX6_take.cls ≠ "java/lang/invoke/MethodHandle" ∧ yX6_take.cls ≠ "java/lang/invoke/VarHandle" ∧ (parseMethodDescriptor yX6_take.desc).map (fun d => d.parameters.length) = some 1 := by decide +kernel
set_option maxRecDepth 100000 in
set_option maxHeartbeats 4000000 in
theorem w_X6_take_18 {p : Program} {l : Launch} {e : Env} {s : State} {m : MethodId} {args : Array Value} {below : List Frame} {meth : Method} {c : Code} {D : va_G} {ad : Nat → Nat} {cy : Nat → ClassId} (E : EE p s m args c cX6_take 3 (wsM yX6_take cX6_take 3 none) RX6 D cy) (hr : meth.sig.returnType = none) (hlk : meth.locks = false) {h' : HP} (x0 : Nat) (x1 : Int32) : ∀ (n : Nat) (k : (HP → Option (HP))) (h : HP) (x2 : Int32), (∀ (h : HP), k h = some h' → JJ p l e rmX6_take s m args below meth c 0 0 (MQ below (QV D ad cy none h') args s 0 0 (Aw ad)) D ad cy (Aw ad) 3 h [] 75 []) → L_X6_take_18 x0 x1 n k h x2 = some h' → JJ p l e rmX6_take s m args below meth c 0 0 (MQ below (QV D ad cy none h') args s 0 0 (Aw ad)) D ad cy (Aw ad) 3 h [(0, .ref (ad x0)), (1, .int x1), (2, .int x2)] 18 [] := by
  intro n
  induction n with
  | zero => intro k h x2 hk hf; cases hf
  | succ n ih =>
    intro k h x2 hk hf
    unfold L_X6_take_18 at hf
    refine j_iload_n E 2 rfl dX6_take_18 rfl ?_
    refine j_sipush (v := 256) E dX6_take_19 (by decide) ?_
    refine j_icmp_ge (tgt := 75) E dX6_take_22 (by decide) (fun z8 => ?_) (fun z8 => ?_)
    · have hf := ifp hf z8
      refine j_perm (lv' := []) [] rfl ?_
      exact hk h hf
    · have hf := ifn hf z8
      refine j_aload_n E 0 rfl dX6_take_25 rfl ?_
      obtain ⟨v9, ev9, hf⟩ := bs hf
      refine j_getR (ci := 5) (k0 := 3) (T := TX6) (N := 14) E (mI inUX6) rfl (by decide) (mU uw_3_107) ev9 dX6_take_26 ?_
      refine j_sipush (v := 2048) E dX6_take_29 (by decide) ?_
      refine j_iload_n E 2 rfl dX6_take_32 rfl ?_
      refine j_iadd E dX6_take_33 ?_
      refine j_aload_n E 0 rfl dX6_take_34 rfl ?_
      obtain ⟨v10, ev10, hf⟩ := bs hf
      refine j_getR (ci := 5) (k0 := 3) (T := TX6) (N := 14) E (mI inUX6) rfl (by decide) (mU uw_3_107) ev10 dX6_take_35 ?_
      refine j_sipush (v := 256) E dX6_take_38 (by decide) ?_
      refine j_iload_n E 1 rfl dX6_take_41 rfl ?_
      refine j_imul E dX6_take_42 ?_
      refine j_iload_n E 2 rfl dX6_take_43 rfl ?_
      refine j_iadd E dX6_take_44 ?_
      obtain ⟨v11, ev11, hf⟩ := bs hf
      refine j_aZ E ev11 dX6_take_45 ?_
      obtain ⟨h12, eh12, hf⟩ := bs hf
      refine j_sZ E eh12 dX6_take_46 ?_
      refine j_aload_n E 0 rfl dX6_take_47 rfl ?_
      obtain ⟨v13, ev13, hf⟩ := bs hf
      refine j_getR (ci := 5) (k0 := 4) (T := TX6) (N := 14) E (mI inUX6) rfl (by decide) (mU uw_3_108) ev13 dX6_take_48 ?_
      refine j_sipush (v := 2048) E dX6_take_51 (by decide) ?_
      refine j_iload_n E 2 rfl dX6_take_54 rfl ?_
      refine j_iadd E dX6_take_55 ?_
      refine j_aload_n E 0 rfl dX6_take_56 rfl ?_
      obtain ⟨v14, ev14, hf⟩ := bs hf
      refine j_getR (ci := 5) (k0 := 4) (T := TX6) (N := 14) E (mI inUX6) rfl (by decide) (mU uw_3_108) ev14 dX6_take_57 ?_
      refine j_sipush (v := 256) E dX6_take_60 (by decide) ?_
      refine j_iload_n E 1 rfl dX6_take_63 rfl ?_
      refine j_imul E dX6_take_64 ?_
      refine j_iload_n E 2 rfl dX6_take_65 rfl ?_
      refine j_iadd E dX6_take_66 ?_
      obtain ⟨v15, ev15, hf⟩ := bs hf
      refine j_aJ E ev15 dX6_take_67 ?_
      obtain ⟨h16, eh16, hf⟩ := bs hf
      refine j_sJ E eh16 dX6_take_68 ?_
      refine j_iinc (v := (x2 + 1)) (k0 := 2) (lv' := [(2, .int (x2 + 1)), (0, .ref (ad x0)), (1, .int x1)]) E dX6_take_69 rfl (congrArg (fun z => x2 + z) (by decide)) (by decide) rfl ?_
      refine j_goto (tgt := 18) E dX6_take_72 (by decide) ?_
      refine j_perm (lv' := [(0, .ref (ad x0)), (1, .int x1), (2, .int (x2 + 1))]) [1, 2, 0] rfl ?_
      exact ih k h16 (x2 + 1) hk hf
set_option maxRecDepth 100000 in
set_option maxHeartbeats 4000000 in
theorem c_X6_take (l : Launch) (D : va_G) (ad : Nat → Nat) (cy : Nat → ClassId) (h : HP) (x0 : Nat) (x1 : Int32) {h' : HP} (hf : f_X6_take h x0 x1 = some h') : Met l yX6_take (wsM yX6_take cX6_take 3 none) rmX6_take (va_Pc [.ref (ad x0), .int x1] (PW D ad cy h)) (QV D ad cy none h') 0 0 (Aw ad) := by
  refine met_of (own := RX6) (lv := [(0, .ref (ad x0)), (1, .int x1)]) (by decide) rfl (Nat.le_of_ble_eq_true rfl) rfl (fun p e s m args below meth c E hr hlk => ?_)
  unfold f_X6_take at hf
  refine j_aload_n E 0 rfl dX6_take_0 rfl ?_
  refine j_aload_n E 0 rfl dX6_take_1 rfl ?_
  obtain ⟨v1, ev1, hf⟩ := bs hf
  refine j_getR (ci := 5) (k0 := 1) (T := TX6) (N := 14) E (mI inUX6) rfl (by decide) (mU uw_3_105) ev1 dX6_take_2 ?_
  refine j_iload_n E 1 rfl dX6_take_5 rfl ?_
  obtain ⟨v2, ev2, hf⟩ := bs hf
  refine j_aI E ev2 dX6_take_6 ?_
  refine j_aload_n E 0 rfl dX6_take_7 rfl ?_
  obtain ⟨v3, ev3, hf⟩ := bs hf
  refine j_getR (ci := 5) (k0 := 2) (T := TX6) (N := 14) E (mI inUX6) rfl (by decide) (mU uw_3_106) ev3 dX6_take_8 ?_
  refine j_iload_n E 1 rfl dX6_take_11 rfl ?_
  obtain ⟨v4, ev4, hf⟩ := bs hf
  refine j_aI E ev4 dX6_take_12 ?_
  obtain ⟨k5, hf⟩ := ck_spec hf
  obtain ⟨h6, e7, hf⟩ := bs hf
  refine j_callV (ci := 5) (b := x0) (As := [.int v2, .int v4]) (rest := []) (v := none) E (c_X6_begin l D ad cy h x0 v2 v4 e7) (mcw E.1.2.2.2.2 uw_3_158 uw_3_155 uw_3_157 us_1_15 uw_1_6 rfl rfl hd_X6_begin ⟨by decide, by decide⟩) rfl k5 rfl rfl (Nat.le_of_ble_eq_true rfl) dX6_take_13 ⟨Nat.zero_le _, Nat.zero_le _⟩ ?_
  refine j_stk (st' := []) rfl ?_
  refine j_iconst (v := 0) E dX6_take_16 (by decide) ?_
  refine j_istore_n (lv' := [(2, .int 0), (0, .ref (ad x0)), (1, .int x1)]) E dX6_take_17 rfl (by decide) rfl ?_
  refine j_perm (lv' := [(0, .ref (ad x0)), (1, .int x1), (2, .int 0)]) [1, 2, 0] rfl ?_
  refine w_X6_take_18 E hr hlk x0 x1 FU _ h6 0 (fun h17 hf => ?_) hf
  cases hf
  exact j_vret E hr hlk dX6_take_75
noncomputable def L_X6_join_27 (x0 : Nat) (x1 : Int32) (x2 : Int32) : Nat → (HP → Option (HP × Int32)) → HP → Int32 → Option (HP × Int32)
  | 0, _, _, _ => none
  | n + 1, k, h, x3 =>
      if x2 ≤ x3 then (
        k h
      ) else (
        (gR 5 h x0 6).bind fun v11 =>
        (aI h v11 x3).bind fun v12 =>
        (gR 5 h x0 6).bind fun v13 =>
        (aI h v13 x3).bind fun v14 =>
        ck 5 h x0 <|
        (f_X6_isIn h x0 x1 (v12 / 16) (v14 - v14 / 16 * 16)).bind fun v16 =>
        if v16 = 0 then (
          some (h, (-3))
        ) else (
          (gR 5 h x0 6).bind fun v19 =>
          (aI h v19 x3).bind fun v20 =>
          (gR 5 h x0 3).bind fun v21 =>
          (sZ h v21 (2048 + v20) 1).bind fun h22 =>
          (gR 5 h22 x0 4).bind fun v23 =>
          (gR 5 h22 x0 4).bind fun v24 =>
          (aJ h22 v24 (2048 + v20)).bind fun v25 =>
          (gR 5 h22 x0 7).bind fun v26 =>
          (aJ h22 v26 x3).bind fun v27 =>
          (sJ h22 v23 (2048 + v20) (v25 + v27)).bind fun h28 =>
          L_X6_join_27 x0 x1 x2 n k h28 (x3 + 1)
        )
      )
noncomputable def f_X6_join (h : HP) (x0 : Nat) (x1 : Int32) : Option (HP × Int32) :=
  ck 5 h x0 <|
  (f_X6_isTable h x0 x1).bind fun v2 =>
  if v2 = 0 then (
    some (h, (-1))
  ) else (
    (gI 5 h x0 5).bind fun v5 =>
    (pI 5 h x0 5 0).bind fun h6 =>
    ck 5 h6 x0 <|
    (f_X6_take h6 x0 x1).bind fun h8 =>
    L_X6_join_27 x0 x1 v5 FU (fun h29 =>
      ck 5 h29 x0 <|
      (f_X6_putAt h29 x0 x1).bind fun (h31, v32) =>
      some (h31, v32)) h8 0
  )
abbrev rmX6_join : Room := { frames := 2, cells := 0, slots := 0, locals := 46 }
theorem hd_X6_join : yX6_join.cls = RX6 ∧ yX6_join.cls ≠ "java/lang/invoke/MethodHandle" ∧ yX6_join.cls ≠ "java/lang/invoke/VarHandle" ∧ (parseMethodDescriptor yX6_join.desc).map (fun d => d.parameters.length) = some 1 := by decide +kernel
set_option maxRecDepth 100000 in
set_option maxHeartbeats 4000000 in
theorem w_X6_join_27 {p : Program} {l : Launch} {e : Env} {s : State} {m : MethodId} {args : Array Value} {below : List Frame} {meth : Method} {c : Code} {D : va_G} {ad : Nat → Nat} {cy : Nat → ClassId} (E : EE p s m args c cX6_join 5 (wsM yX6_join cX6_join 5 (some .int)) RX6 D cy) (hr : meth.sig.returnType = (some .int)) (hlk : meth.locks = false) {h' : HP} {r : Int32} (x0 : Nat) (x1 : Int32) (x2 : Int32) : ∀ (n : Nat) (k : (HP → Option (HP × Int32))) (h : HP) (x3 : Int32), (∀ (h : HP), k h = some (h', r) → JJ p l e rmX6_join s m args below meth c 0 0 (MQ below (QV D ad cy (some (.int r)) h') args s 0 0 (Aw ad)) D ad cy (Aw ad) 5 h [(0, .ref (ad x0)), (1, .int x1)] 108 []) → L_X6_join_27 x0 x1 x2 n k h x3 = some (h', r) → JJ p l e rmX6_join s m args below meth c 0 0 (MQ below (QV D ad cy (some (.int r)) h') args s 0 0 (Aw ad)) D ad cy (Aw ad) 5 h [(0, .ref (ad x0)), (1, .int x1), (2, .int x2), (3, .int x3)] 27 [] := by
  intro n
  induction n with
  | zero => intro k h x3 hk hf; cases hf
  | succ n ih =>
    intro k h x3 hk hf
    unfold L_X6_join_27 at hf
    refine j_iload_n E 3 rfl dX6_join_27 rfl ?_
    refine j_iload_n E 2 rfl dX6_join_28 rfl ?_
    refine j_icmp_ge (tgt := 108) E dX6_join_29 (by decide) (fun z10 => ?_) (fun z10 => ?_)
    · have hf := ifp hf z10
      refine j_perm (lv' := [(0, .ref (ad x0)), (1, .int x1)]) [0, 1] rfl ?_
      exact hk h hf
    · have hf := ifn hf z10
      refine j_aload_n E 0 rfl dX6_join_32 rfl ?_
      refine j_iload_n E 1 rfl dX6_join_33 rfl ?_
      refine j_aload_n E 0 rfl dX6_join_34 rfl ?_
      obtain ⟨v11, ev11, hf⟩ := bs hf
      refine j_getR (ci := 5) (k0 := 6) (T := TX6) (N := 14) E (mI inUX6) rfl (by decide) (mU uw_3_110) ev11 dX6_join_35 ?_
      refine j_iload_n E 3 rfl dX6_join_38 rfl ?_
      obtain ⟨v12, ev12, hf⟩ := bs hf
      refine j_aI E ev12 dX6_join_39 ?_
      refine j_bipush (v := 16) E dX6_join_40 (by decide) ?_
      refine j_idiv E (by decide) dX6_join_42 ?_
      refine j_aload_n E 0 rfl dX6_join_43 rfl ?_
      obtain ⟨v13, ev13, hf⟩ := bs hf
      refine j_getR (ci := 5) (k0 := 6) (T := TX6) (N := 14) E (mI inUX6) rfl (by decide) (mU uw_3_110) ev13 dX6_join_44 ?_
      refine j_iload_n E 3 rfl dX6_join_47 rfl ?_
      obtain ⟨v14, ev14, hf⟩ := bs hf
      refine j_aI E ev14 dX6_join_48 ?_
      refine j_bipush (v := 16) E dX6_join_49 (by decide) ?_
      refine j_irem E (by decide) dX6_join_51 ?_
      obtain ⟨k15, hf⟩ := ck_spec hf
      obtain ⟨v16, e17, hf⟩ := bs hf
      refine j_callV (ci := 5) (b := x0) (As := [.int x1, .int (v12 / 16), .int (v14 - v14 / 16 * 16)]) (rest := []) (v := (some (.int v16))) E (c_X6_isIn l D ad cy h x0 x1 (v12 / 16) (v14 - v14 / 16 * 16) e17) (mcw E.1.2.2.2.2 uw_3_194 uw_3_191 uw_3_193 us_2_4 uw_1_6 rfl rfl hd_X6_isIn ⟨by decide, by decide⟩) rfl k15 rfl rfl (Nat.le_of_ble_eq_true rfl) dX6_join_52 ⟨Nat.zero_le _, Nat.zero_le _⟩ ?_
      refine j_stk (st' := [.int v16]) rfl ?_
      refine j_if_ne (tgt := 61) E dX6_join_55 (by decide) (fun z18 => ?_) (fun z18 => ?_)
      · have hf := ifn hf z18
        refine j_sipush (v := 2048) E dX6_join_61 (by decide) ?_
        refine j_aload_n E 0 rfl dX6_join_64 rfl ?_
        obtain ⟨v19, ev19, hf⟩ := bs hf
        refine j_getR (ci := 5) (k0 := 6) (T := TX6) (N := 14) E (mI inUX6) rfl (by decide) (mU uw_3_110) ev19 dX6_join_65 ?_
        refine j_iload_n E 3 rfl dX6_join_68 rfl ?_
        obtain ⟨v20, ev20, hf⟩ := bs hf
        refine j_aI E ev20 dX6_join_69 ?_
        refine j_iadd E dX6_join_70 ?_
        refine j_istore (lv' := [(4, .int (2048 + v20)), (0, .ref (ad x0)), (1, .int x1), (2, .int x2), (3, .int x3)]) E dX6_join_71 (by decide) rfl ?_
        refine j_aload_n E 1 rfl dX6_join_73 rfl ?_
        obtain ⟨v21, ev21, hf⟩ := bs hf
        refine j_getR (ci := 5) (k0 := 3) (T := TX6) (N := 14) E (mI inUX6) rfl (by decide) (mU uw_3_107) ev21 dX6_join_74 ?_
        refine j_iload E 0 rfl dX6_join_77 ?_
        refine j_iconst (v := 1) E dX6_join_79 (by decide) ?_
        obtain ⟨h22, eh22, hf⟩ := bs hf
        refine j_sZ E eh22 dX6_join_80 ?_
        refine j_aload_n E 1 rfl dX6_join_81 rfl ?_
        obtain ⟨v23, ev23, hf⟩ := bs hf
        refine j_getR (ci := 5) (k0 := 4) (T := TX6) (N := 14) E (mI inUX6) rfl (by decide) (mU uw_3_108) ev23 dX6_join_82 ?_
        refine j_iload E 0 rfl dX6_join_85 ?_
        refine j_aload_n E 1 rfl dX6_join_87 rfl ?_
        obtain ⟨v24, ev24, hf⟩ := bs hf
        refine j_getR (ci := 5) (k0 := 4) (T := TX6) (N := 14) E (mI inUX6) rfl (by decide) (mU uw_3_108) ev24 dX6_join_88 ?_
        refine j_iload E 0 rfl dX6_join_91 ?_
        obtain ⟨v25, ev25, hf⟩ := bs hf
        refine j_aJ E ev25 dX6_join_93 ?_
        refine j_aload_n E 1 rfl dX6_join_94 rfl ?_
        obtain ⟨v26, ev26, hf⟩ := bs hf
        refine j_getR (ci := 5) (k0 := 7) (T := TX6) (N := 14) E (mI inUX6) rfl (by decide) (mU uw_3_111) ev26 dX6_join_95 ?_
        refine j_iload_n E 4 rfl dX6_join_98 rfl ?_
        obtain ⟨v27, ev27, hf⟩ := bs hf
        refine j_aJ E ev27 dX6_join_99 ?_
        refine j_ladd E dX6_join_100 ?_
        obtain ⟨h28, eh28, hf⟩ := bs hf
        refine j_sJ E eh28 dX6_join_101 ?_
        refine j_iinc (v := (x3 + 1)) (k0 := 4) (lv' := [(3, .int (x3 + 1)), (4, .int (2048 + v20)), (0, .ref (ad x0)), (1, .int x1), (2, .int x2)]) E dX6_join_102 rfl (congrArg (fun z => x3 + z) (by decide)) (by decide) rfl ?_
        refine j_goto (tgt := 27) E dX6_join_105 (by decide) ?_
        refine j_perm (lv' := [(0, .ref (ad x0)), (1, .int x1), (2, .int x2), (3, .int (x3 + 1))]) [2, 3, 4, 0] rfl ?_
        exact ih k h28 (x3 + 1) hk hf
      · have hf := ifp hf z18
        refine j_bipush (v := (-3)) E dX6_join_58 (by decide) ?_
        cases hf
        exact j_iret E hr hlk dX6_join_60
set_option maxRecDepth 100000 in
set_option maxHeartbeats 4000000 in
theorem c_X6_join (l : Launch) (D : va_G) (ad : Nat → Nat) (cy : Nat → ClassId) (h : HP) (x0 : Nat) (x1 : Int32) {h' : HP} {r : Int32} (hf : f_X6_join h x0 x1 = some (h', r)) : Met l yX6_join (wsM yX6_join cX6_join 5 (some .int)) rmX6_join (va_Pc [.ref (ad x0), .int x1] (PW D ad cy h)) (QV D ad cy (some (.int r)) h') 0 0 (Aw ad) := by
  refine met_of (own := RX6) (lv := [(0, .ref (ad x0)), (1, .int x1)]) (by decide) rfl (Nat.le_of_ble_eq_true rfl) rfl (fun p e s m args below meth c E hr hlk => ?_)
  unfold f_X6_join at hf
  refine j_aload_n E 0 rfl dX6_join_0 rfl ?_
  refine j_iload_n E 1 rfl dX6_join_1 rfl ?_
  obtain ⟨k1, hf⟩ := ck_spec hf
  obtain ⟨v2, e3, hf⟩ := bs hf
  refine j_callV (ci := 5) (b := x0) (As := [.int x1]) (rest := []) (v := (some (.int v2))) E (c_X6_isTable l D ad cy h x0 x1 e3) (mcw E.1.2.2.2.2 uw_3_186 uw_3_183 uw_3_185 us_2_2 uw_1_6 rfl rfl hd_X6_isTable ⟨by decide, by decide⟩) rfl k1 rfl rfl (Nat.le_of_ble_eq_true rfl) dX6_join_2 ⟨Nat.zero_le _, Nat.zero_le _⟩ ?_
  refine j_stk (st' := [.int v2]) rfl ?_
  refine j_if_ne (tgt := 10) E dX6_join_5 (by decide) (fun z4 => ?_) (fun z4 => ?_)
  · have hf := ifn hf z4
    refine j_aload_n E 0 rfl dX6_join_10 rfl ?_
    obtain ⟨v5, ev5, hf⟩ := bs hf
    refine j_getI (ci := 5) (k0 := 5) (T := TX6) (N := 14) E (mI inUX6) rfl (by decide) (mU uw_3_109) ev5 dX6_join_11 ?_
    refine j_istore_n (lv' := [(2, .int v5), (0, .ref (ad x0)), (1, .int x1)]) E dX6_join_14 rfl (by decide) rfl ?_
    refine j_aload_n E 1 rfl dX6_join_15 rfl ?_
    refine j_iconst (v := 0) E dX6_join_16 (by decide) ?_
    obtain ⟨h6, eh6, hf⟩ := bs hf
    refine j_putI (ci := 5) (k0 := 5) (T := TX6) (N := 14) E (mI inUX6) rfl (by decide) (mU uw_3_109) tyX6 tyX6_ok nmX6 rfl (by decide +kernel) eh6 dX6_join_17 ?_
    refine j_aload_n E 1 rfl dX6_join_20 rfl ?_
    refine j_iload_n E 2 rfl dX6_join_21 rfl ?_
    obtain ⟨k7, hf⟩ := ck_spec hf
    obtain ⟨h8, e9, hf⟩ := bs hf
    refine j_callV (ci := 5) (b := x0) (As := [.int x1]) (rest := []) (v := none) E (c_X6_take l D ad cy h6 x0 x1 e9) (mcw E.1.2.2.2.2 uw_3_190 uw_3_187 uw_3_189 us_2_3 uw_1_6 rfl rfl hd_X6_take ⟨by decide, by decide⟩) rfl k7 rfl rfl (Nat.le_of_ble_eq_true rfl) dX6_join_22 ⟨Nat.zero_le _, Nat.zero_le _⟩ ?_
    refine j_stk (st' := []) rfl ?_
    refine j_iconst (v := 0) E dX6_join_25 (by decide) ?_
    refine j_istore_n (lv' := [(3, .int 0), (2, .int v5), (0, .ref (ad x0)), (1, .int x1)]) E dX6_join_26 rfl (by decide) rfl ?_
    refine j_perm (lv' := [(0, .ref (ad x0)), (1, .int x1), (2, .int v5), (3, .int 0)]) [2, 3, 1, 0] rfl ?_
    refine w_X6_join_27 E hr hlk x0 x1 v5 FU _ h8 0 (fun h29 hf => ?_) hf
    refine j_aload_n E 0 rfl dX6_join_108 rfl ?_
    refine j_iload_n E 1 rfl dX6_join_109 rfl ?_
    obtain ⟨k30, hf⟩ := ck_spec hf
    obtain ⟨⟨h31, v32⟩, e33, hf⟩ := bs hf
    refine j_callV (ci := 5) (b := x0) (As := [.int x1]) (rest := []) (v := (some (.int v32))) E (c_X6_putAt l D ad cy h29 x0 x1 e33) (mcw E.1.2.2.2.2 uw_3_162 uw_3_159 uw_3_161 us_2_0 uw_1_6 rfl rfl hd_X6_putAt ⟨by decide, by decide⟩) rfl k30 rfl rfl (Nat.le_of_ble_eq_true rfl) dX6_join_110 ⟨Nat.zero_le _, Nat.zero_le _⟩ ?_
    refine j_stk (st' := [.int v32]) rfl ?_
    cases hf
    exact j_iret E hr hlk dX6_join_113
  · have hf := ifp hf z4
    refine j_iconst (v := (-1)) E dX6_join_8 (by decide) ?_
    cases hf
    exact j_iret E hr hlk dX6_join_9
