noncomputable def f_X5_at (h : HP) (x0 : Nat) (x1 : Int32) (x2 : Int32) (x3 : Int32) : Option (Int64) :=
  ck 4 h x0 <|
  (f_X5_gridAt h x0 x1).bind fun v2 =>
  om v2 (
    some 0
  ) fun a4 =>
    ck 1 h a4 <|
    (f_X2_covers h a4 x2 x3).bind fun v6 =>
    if v6 = 0 then (
      some 0
    ) else (
      ck 1 h a4 <|
      (f_X2_value h a4 x2 x3).bind fun v10 =>
      some v10
    )
abbrev rmX5_at : Room := { frames := 2, cells := 0, slots := 0, locals := 43 }
theorem hd_X5_at : yX5_at.cls = RX5 ∧ yX5_at.cls ≠ "java/lang/invoke/MethodHandle" ∧ yX5_at.cls ≠ "java/lang/invoke/VarHandle" ∧ (parseMethodDescriptor yX5_at.desc).map (fun d => d.parameters.length) = some 3 := by decide +kernel
set_option maxRecDepth 100000 in
set_option maxHeartbeats 4000000 in
theorem c_X5_at (l : Launch) (D : va_G) (ad : Nat → Nat) (cy : Nat → ClassId) (h : HP) (x0 : Nat) (x1 : Int32) (x2 : Int32) (x3 : Int32) {r : Int64} (hf : f_X5_at h x0 x1 x2 x3 = some r) : Met l yX5_at (wsM yX5_at cX5_at 5 (some .long)) rmX5_at (va_Pc [.ref (ad x0), .int x1, .int x2, .int x3] (PW D ad cy h)) (QV D ad cy (some (.long r)) h) 0 0 (Aw ad) := by
  refine met_of (own := RX5) (lv := [(0, .ref (ad x0)), (1, .int x1), (2, .int x2), (3, .int x3)]) (by decide) rfl (Nat.le_of_ble_eq_true rfl) rfl (fun p e s m args below meth c E hr hlk => ?_)
  unfold f_X5_at at hf
  refine j_aload_n E 0 rfl dX5_at_0 rfl ?_
  refine j_iload_n E 1 rfl dX5_at_1 rfl ?_
  obtain ⟨k1, hf⟩ := ck_spec hf
  obtain ⟨v2, e3, hf⟩ := bs hf
  refine j_callV (ci := 4) (b := x0) (As := [.int x1]) (rest := []) (v := (some (va_rf (v2.map ad)))) E (c_X5_gridAt l D ad cy h x0 x1 e3) (mcw E.1.2.2.2.2 uw_1_193 uw_1_190 uw_1_192 us_1_1 uw_1_1 rfl rfl hd_X5_gridAt ⟨by decide, by decide⟩) rfl k1 rfl rfl (Nat.le_of_ble_eq_true rfl) dX5_at_2 ⟨Nat.zero_le _, Nat.zero_le _⟩ ?_
  rcases om_spec hf with ⟨rfl, hf⟩ | ⟨a4, rfl, hf⟩
  · refine j_stk (st' := [.null]) rfl ?_
    refine j_astoreN (lv' := [(4, .null), (0, .ref (ad x0)), (1, .int x1), (2, .int x2), (3, .int x3)]) E dX5_at_5 (by decide) rfl ?_
    refine j_aloadN E 0 rfl dX5_at_7 ?_
    refine j_ifnullN (tgt := 22) E dX5_at_9 (by decide) ?_
    refine j_lconst (v := 0) E dX5_at_22 (by decide) ?_
    cases hf
    exact j_lret E hr hlk dX5_at_23
  · refine j_stk (st' := [.ref (ad a4)]) rfl ?_
    refine j_astore (lv' := [(4, .ref (ad a4)), (0, .ref (ad x0)), (1, .int x1), (2, .int x2), (3, .int x3)]) E dX5_at_5 (by decide) rfl ?_
    refine j_aload E 0 rfl dX5_at_7 ?_
    refine j_ifnull E dX5_at_9 ?_
    refine j_aload E 0 rfl dX5_at_12 ?_
    refine j_iload_n E 3 rfl dX5_at_14 rfl ?_
    refine j_iload_n E 4 rfl dX5_at_15 rfl ?_
    obtain ⟨k5, hf⟩ := ck_spec hf
    obtain ⟨v6, e7, hf⟩ := bs hf
    refine j_callV (ci := 1) (b := a4) (As := [.int x2, .int x3]) (rest := []) (v := (some (.int v6))) E (c_X2_covers l D ad cy h a4 x2 x3 e7) (mcw E.1.2.2.2.2 uw_1_201 uw_2_13 uw_1_199 uw_1_200 uw_1_4 rfl rfl hd_X2_covers ⟨by decide, by decide⟩) rfl k5 rfl rfl (Nat.le_of_ble_eq_true rfl) dX5_at_16 ⟨Nat.zero_le _, Nat.zero_le _⟩ ?_
    refine j_stk (st' := [.int v6]) rfl ?_
    refine j_if_ne (tgt := 24) E dX5_at_19 (by decide) (fun z8 => ?_) (fun z8 => ?_)
    · have hf := ifn hf z8
      refine j_aload E 0 rfl dX5_at_24 ?_
      refine j_iload_n E 3 rfl dX5_at_26 rfl ?_
      refine j_iload_n E 4 rfl dX5_at_27 rfl ?_
      obtain ⟨k9, hf⟩ := ck_spec hf
      obtain ⟨v10, e11, hf⟩ := bs hf
      refine j_callV (ci := 1) (b := a4) (As := [.int x2, .int x3]) (rest := []) (v := (some (.long v10))) E (c_X2_value l D ad cy h a4 x2 x3 e11) (mcw E.1.2.2.2.2 uw_1_224 uw_2_14 uw_1_222 uw_1_223 uw_1_4 rfl rfl hd_X2_value ⟨by decide, by decide⟩) rfl k9 rfl rfl (Nat.le_of_ble_eq_true rfl) dX5_at_28 ⟨Nat.zero_le _, Nat.zero_le _⟩ ?_
      refine j_stk (st' := [.long v10]) rfl ?_
      cases hf
      exact j_lret E hr hlk dX5_at_31
    · have hf := ifp hf z8
      refine j_lconst (v := 0) E dX5_at_22 (by decide) ?_
      cases hf
      exact j_lret E hr hlk dX5_at_23
noncomputable def f_X5_kept (h : HP) (x0 : Nat) (x1 : Int32) (x2 : Int32) (x3 : Int32) : Option (Int32) :=
  ck 4 h x0 <|
  (f_X5_gridAt h x0 x1).bind fun v2 =>
  om v2 (
    some (-1)
  ) fun a4 =>
    ck 1 h a4 <|
    (f_X2_covers h a4 x2 x3).bind fun v6 =>
    if v6 = 0 then (
      some (-2)
    ) else (
      ck 1 h a4 <|
      (f_X2_keeps h a4 x2 x3).bind fun v10 =>
      if v10 = 0 then (
        some (-3)
      ) else (
        ck 1 h a4 <|
        (f_X2_orderNumber h a4 x2 x3).bind fun v14 =>
        some v14
      )
    )
abbrev rmX5_kept : Room := { frames := 3, cells := 0, slots := 0, locals := 66 }
theorem hd_X5_kept : yX5_kept.cls = RX5 ∧ yX5_kept.cls ≠ "java/lang/invoke/MethodHandle" ∧ yX5_kept.cls ≠ "java/lang/invoke/VarHandle" ∧ (parseMethodDescriptor yX5_kept.desc).map (fun d => d.parameters.length) = some 3 := by decide +kernel
set_option maxRecDepth 100000 in
set_option maxHeartbeats 4000000 in
theorem c_X5_kept (l : Launch) (D : va_G) (ad : Nat → Nat) (cy : Nat → ClassId) (h : HP) (x0 : Nat) (x1 : Int32) (x2 : Int32) (x3 : Int32) {r : Int32} (hf : f_X5_kept h x0 x1 x2 x3 = some r) : Met l yX5_kept (wsM yX5_kept cX5_kept 5 (some .int)) rmX5_kept (va_Pc [.ref (ad x0), .int x1, .int x2, .int x3] (PW D ad cy h)) (QV D ad cy (some (.int r)) h) 0 0 (Aw ad) := by
  refine met_of (own := RX5) (lv := [(0, .ref (ad x0)), (1, .int x1), (2, .int x2), (3, .int x3)]) (by decide) rfl (Nat.le_of_ble_eq_true rfl) rfl (fun p e s m args below meth c E hr hlk => ?_)
  unfold f_X5_kept at hf
  refine j_aload_n E 0 rfl dX5_kept_0 rfl ?_
  refine j_iload_n E 1 rfl dX5_kept_1 rfl ?_
  obtain ⟨k1, hf⟩ := ck_spec hf
  obtain ⟨v2, e3, hf⟩ := bs hf
  refine j_callV (ci := 4) (b := x0) (As := [.int x1]) (rest := []) (v := (some (va_rf (v2.map ad)))) E (c_X5_gridAt l D ad cy h x0 x1 e3) (mcw E.1.2.2.2.2 uw_1_193 uw_1_190 uw_1_192 us_1_1 uw_1_1 rfl rfl hd_X5_gridAt ⟨by decide, by decide⟩) rfl k1 rfl rfl (Nat.le_of_ble_eq_true rfl) dX5_kept_2 ⟨Nat.zero_le _, Nat.zero_le _⟩ ?_
  rcases om_spec hf with ⟨rfl, hf⟩ | ⟨a4, rfl, hf⟩
  · refine j_stk (st' := [.null]) rfl ?_
    refine j_astoreN (lv' := [(4, .null), (0, .ref (ad x0)), (1, .int x1), (2, .int x2), (3, .int x3)]) E dX5_kept_5 (by decide) rfl ?_
    refine j_aloadN E 0 rfl dX5_kept_7 ?_
    refine j_ifnonnullN E dX5_kept_9 ?_
    refine j_iconst (v := (-1)) E dX5_kept_12 (by decide) ?_
    cases hf
    exact j_iret E hr hlk dX5_kept_13
  · refine j_stk (st' := [.ref (ad a4)]) rfl ?_
    refine j_astore (lv' := [(4, .ref (ad a4)), (0, .ref (ad x0)), (1, .int x1), (2, .int x2), (3, .int x3)]) E dX5_kept_5 (by decide) rfl ?_
    refine j_aload E 0 rfl dX5_kept_7 ?_
    refine j_ifnonnull (tgt := 14) E dX5_kept_9 (by decide) ?_
    refine j_aload E 0 rfl dX5_kept_14 ?_
    refine j_iload_n E 3 rfl dX5_kept_16 rfl ?_
    refine j_iload_n E 4 rfl dX5_kept_17 rfl ?_
    obtain ⟨k5, hf⟩ := ck_spec hf
    obtain ⟨v6, e7, hf⟩ := bs hf
    refine j_callV (ci := 1) (b := a4) (As := [.int x2, .int x3]) (rest := []) (v := (some (.int v6))) E (c_X2_covers l D ad cy h a4 x2 x3 e7) (mcw E.1.2.2.2.2 uw_1_201 uw_2_13 uw_1_199 uw_1_200 uw_1_4 rfl rfl hd_X2_covers ⟨by decide, by decide⟩) rfl k5 rfl rfl (Nat.le_of_ble_eq_true rfl) dX5_kept_18 ⟨Nat.zero_le _, Nat.zero_le _⟩ ?_
    refine j_stk (st' := [.int v6]) rfl ?_
    refine j_if_ne (tgt := 27) E dX5_kept_21 (by decide) (fun z8 => ?_) (fun z8 => ?_)
    · have hf := ifn hf z8
      refine j_aload E 0 rfl dX5_kept_27 ?_
      refine j_iload_n E 3 rfl dX5_kept_29 rfl ?_
      refine j_iload_n E 4 rfl dX5_kept_30 rfl ?_
      obtain ⟨k9, hf⟩ := ck_spec hf
      obtain ⟨v10, e11, hf⟩ := bs hf
      refine j_callV (ci := 1) (b := a4) (As := [.int x2, .int x3]) (rest := []) (v := (some (.int v10))) E (c_X2_keeps l D ad cy h a4 x2 x3 e11) (mcw E.1.2.2.2.2 uw_2_5 uw_2_19 uw_2_3 uw_2_4 uw_1_4 rfl rfl hd_X2_keeps ⟨by decide, by decide⟩) rfl k9 rfl rfl (Nat.le_of_ble_eq_true rfl) dX5_kept_31 ⟨Nat.zero_le _, Nat.zero_le _⟩ ?_
      refine j_stk (st' := [.int v10]) rfl ?_
      refine j_if_eq (tgt := 47) E dX5_kept_34 (by decide) (fun z12 => ?_) (fun z12 => ?_)
      · have hf := ifp hf z12
        refine j_bipush (v := (-3)) E dX5_kept_47 (by decide) ?_
        cases hf
        exact j_iret E hr hlk dX5_kept_49
      · have hf := ifn hf z12
        refine j_aload E 0 rfl dX5_kept_37 ?_
        refine j_iload_n E 3 rfl dX5_kept_39 rfl ?_
        refine j_iload_n E 4 rfl dX5_kept_40 rfl ?_
        obtain ⟨k13, hf⟩ := ck_spec hf
        obtain ⟨v14, e15, hf⟩ := bs hf
        refine j_callV (ci := 1) (b := a4) (As := [.int x2, .int x3]) (rest := []) (v := (some (.int v14))) E (c_X2_orderNumber l D ad cy h a4 x2 x3 e15) (mcw E.1.2.2.2.2 uw_2_23 uw_2_20 uw_2_21 uw_2_22 uw_1_4 rfl rfl hd_X2_orderNumber ⟨by decide, by decide⟩) rfl k13 rfl rfl (Nat.le_of_ble_eq_true rfl) dX5_kept_41 ⟨Nat.zero_le _, Nat.zero_le _⟩ ?_
        refine j_stk (st' := [.int v14]) rfl ?_
        refine j_goto (tgt := 49) E dX5_kept_44 (by decide) ?_
        cases hf
        exact j_iret E hr hlk dX5_kept_49
    · have hf := ifp hf z8
      refine j_bipush (v := (-2)) E dX5_kept_24 (by decide) ?_
      cases hf
      exact j_iret E hr hlk dX5_kept_26
noncomputable def f_X5_place (h : HP) (x0 : Nat) (x1 : Int32) (x2 : Int32) : Option (Int32) :=
  ck 4 h x0 <|
  (f_X5_gridAt h x0 x1).bind fun v2 =>
  om v2 (
    some (-1)
  ) fun a4 =>
    if x2 < 0 then (
      some (-2)
    ) else (
      ck 1 h a4 <|
      (f_X2_keptCount h a4).bind fun v7 =>
      if x2 < v7 then (
        ck 1 h a4 <|
        (f_X2_placeNumber h a4 x2).bind fun v11 =>
        some v11
      ) else (
        some (-2)
      )
    )
abbrev rmX5_place : Room := { frames := 3, cells := 0, slots := 0, locals := 68 }
theorem hd_X5_place : yX5_place.cls = RX5 ∧ yX5_place.cls ≠ "java/lang/invoke/MethodHandle" ∧ yX5_place.cls ≠ "java/lang/invoke/VarHandle" ∧ (parseMethodDescriptor yX5_place.desc).map (fun d => d.parameters.length) = some 2 := by decide +kernel
set_option maxRecDepth 100000 in
set_option maxHeartbeats 4000000 in
theorem c_X5_place (l : Launch) (D : va_G) (ad : Nat → Nat) (cy : Nat → ClassId) (h : HP) (x0 : Nat) (x1 : Int32) (x2 : Int32) {r : Int32} (hf : f_X5_place h x0 x1 x2 = some r) : Met l yX5_place (wsM yX5_place cX5_place 4 (some .int)) rmX5_place (va_Pc [.ref (ad x0), .int x1, .int x2] (PW D ad cy h)) (QV D ad cy (some (.int r)) h) 0 0 (Aw ad) := by
  refine met_of (own := RX5) (lv := [(0, .ref (ad x0)), (1, .int x1), (2, .int x2)]) (by decide) rfl (Nat.le_of_ble_eq_true rfl) rfl (fun p e s m args below meth c E hr hlk => ?_)
  unfold f_X5_place at hf
  refine j_aload_n E 0 rfl dX5_place_0 rfl ?_
  refine j_iload_n E 1 rfl dX5_place_1 rfl ?_
  obtain ⟨k1, hf⟩ := ck_spec hf
  obtain ⟨v2, e3, hf⟩ := bs hf
  refine j_callV (ci := 4) (b := x0) (As := [.int x1]) (rest := []) (v := (some (va_rf (v2.map ad)))) E (c_X5_gridAt l D ad cy h x0 x1 e3) (mcw E.1.2.2.2.2 uw_1_193 uw_1_190 uw_1_192 us_1_1 uw_1_1 rfl rfl hd_X5_gridAt ⟨by decide, by decide⟩) rfl k1 rfl rfl (Nat.le_of_ble_eq_true rfl) dX5_place_2 ⟨Nat.zero_le _, Nat.zero_le _⟩ ?_
  rcases om_spec hf with ⟨rfl, hf⟩ | ⟨a4, rfl, hf⟩
  · refine j_stk (st' := [.null]) rfl ?_
    refine j_astore_nN (lv' := [(3, .null), (0, .ref (ad x0)), (1, .int x1), (2, .int x2)]) E dX5_place_5 rfl (by decide) rfl ?_
    refine j_aload_nN E 0 rfl dX5_place_6 rfl ?_
    refine j_ifnonnullN E dX5_place_7 ?_
    refine j_iconst (v := (-1)) E dX5_place_10 (by decide) ?_
    cases hf
    exact j_iret E hr hlk dX5_place_11
  · refine j_stk (st' := [.ref (ad a4)]) rfl ?_
    refine j_astore_n (lv' := [(3, .ref (ad a4)), (0, .ref (ad x0)), (1, .int x1), (2, .int x2)]) E dX5_place_5 rfl (by decide) rfl ?_
    refine j_aload_n E 0 rfl dX5_place_6 rfl ?_
    refine j_ifnonnull (tgt := 12) E dX5_place_7 (by decide) ?_
    refine j_iload_n E 3 rfl dX5_place_12 rfl ?_
    refine j_if_lt (tgt := 24) E dX5_place_13 (by decide) (fun z5 => ?_) (fun z5 => ?_)
    · have hf := ifp hf z5
      refine j_bipush (v := (-2)) E dX5_place_24 (by decide) ?_
      cases hf
      exact j_iret E hr hlk dX5_place_26
    · have hf := ifn hf z5
      refine j_iload_n E 3 rfl dX5_place_16 rfl ?_
      refine j_aload_n E 0 rfl dX5_place_17 rfl ?_
      obtain ⟨k6, hf⟩ := ck_spec hf
      obtain ⟨v7, e8, hf⟩ := bs hf
      refine j_callV (ci := 1) (b := a4) (As := []) (rest := [.int x2]) (v := (some (.int v7))) E (c_X2_keptCount l D ad cy h a4 e8) (mcw E.1.2.2.2.2 uw_1_147 uw_1_144 uw_1_145 uw_1_146 uw_1_4 rfl rfl hd_X2_keptCount ⟨by decide, by decide⟩) rfl k6 rfl rfl (Nat.le_of_ble_eq_true rfl) dX5_place_18 ⟨Nat.zero_le _, Nat.zero_le _⟩ ?_
      refine j_stk (st' := [.int v7, .int x2]) rfl ?_
      refine j_icmp_lt (tgt := 27) E dX5_place_21 (by decide) (fun z9 => ?_) (fun z9 => ?_)
      · have hf := ifp hf z9
        refine j_aload_n E 0 rfl dX5_place_27 rfl ?_
        refine j_iload_n E 3 rfl dX5_place_28 rfl ?_
        obtain ⟨k10, hf⟩ := ck_spec hf
        obtain ⟨v11, e12, hf⟩ := bs hf
        refine j_callV (ci := 1) (b := a4) (As := [.int x2]) (rest := []) (v := (some (.int v11))) E (c_X2_placeNumber l D ad cy h a4 x2 e12) (mcw E.1.2.2.2.2 uw_2_35 uw_2_32 uw_2_33 uw_2_34 uw_1_4 rfl rfl hd_X2_placeNumber ⟨by decide, by decide⟩) rfl k10 rfl rfl (Nat.le_of_ble_eq_true rfl) dX5_place_29 ⟨Nat.zero_le _, Nat.zero_le _⟩ ?_
        refine j_stk (st' := [.int v11]) rfl ?_
        cases hf
        exact j_iret E hr hlk dX5_place_32
      · have hf := ifn hf z9
        refine j_bipush (v := (-2)) E dX5_place_24 (by decide) ?_
        cases hf
        exact j_iret E hr hlk dX5_place_26
noncomputable def f_X5_set (h : HP) (x0 : Nat) (x1 : Int32) (x2 : Int32) (x3 : Int32) (x4 : Int64) : Option (HP × Int32) :=
  ck 4 h x0 <|
  (f_X5_gridAt h x0 x1).bind fun v2 =>
  om v2 (
    some (h, (-1))
  ) fun a4 =>
    ck 1 h a4 <|
    (f_X2_covers h a4 x2 x3).bind fun v6 =>
    if v6 = 0 then (
      some (h, (-2))
    ) else (
      ck 1 h a4 <|
      (f_X2_keeps h a4 x2 x3).bind fun v10 =>
      if v10 = 0 then (
        some (h, (-3))
      ) else (
        ck 1 h a4 <|
        (f_X2_put h a4 x2 x3 x4).bind fun h14 =>
        some (h14, 1)
      )
    )
abbrev rmX5_set : Room := { frames := 2, cells := 0, slots := 0, locals := 44 }
theorem hd_X5_set : yX5_set.cls = RX5 ∧ yX5_set.cls ≠ "java/lang/invoke/MethodHandle" ∧ yX5_set.cls ≠ "java/lang/invoke/VarHandle" ∧ (parseMethodDescriptor yX5_set.desc).map (fun d => d.parameters.length) = some 4 := by decide +kernel
set_option maxRecDepth 100000 in
set_option maxHeartbeats 4000000 in
theorem c_X5_set (l : Launch) (D : va_G) (ad : Nat → Nat) (cy : Nat → ClassId) (h : HP) (x0 : Nat) (x1 : Int32) (x2 : Int32) (x3 : Int32) (x4 : Int64) {h' : HP} {r : Int32} (hf : f_X5_set h x0 x1 x2 x3 x4 = some (h', r)) : Met l yX5_set (wsM yX5_set cX5_set 7 (some .int)) rmX5_set (va_Pc [.ref (ad x0), .int x1, .int x2, .int x3, .long x4] (PW D ad cy h)) (QV D ad cy (some (.int r)) h') 0 0 (Aw ad) := by
  refine met_of (own := RX5) (lv := [(0, .ref (ad x0)), (1, .int x1), (2, .int x2), (3, .int x3), (4, .long x4)]) (by decide) rfl (Nat.le_of_ble_eq_true rfl) rfl (fun p e s m args below meth c E hr hlk => ?_)
  unfold f_X5_set at hf
  refine j_aload_n E 0 rfl dX5_set_0 rfl ?_
  refine j_iload_n E 1 rfl dX5_set_1 rfl ?_
  obtain ⟨k1, hf⟩ := ck_spec hf
  obtain ⟨v2, e3, hf⟩ := bs hf
  refine j_callV (ci := 4) (b := x0) (As := [.int x1]) (rest := []) (v := (some (va_rf (v2.map ad)))) E (c_X5_gridAt l D ad cy h x0 x1 e3) (mcw E.1.2.2.2.2 uw_1_193 uw_1_190 uw_1_192 us_1_1 uw_1_1 rfl rfl hd_X5_gridAt ⟨by decide, by decide⟩) rfl k1 rfl rfl (Nat.le_of_ble_eq_true rfl) dX5_set_2 ⟨Nat.zero_le _, Nat.zero_le _⟩ ?_
  rcases om_spec hf with ⟨rfl, hf⟩ | ⟨a4, rfl, hf⟩
  · refine j_stk (st' := [.null]) rfl ?_
    refine j_astoreN (lv' := [(6, .null), (0, .ref (ad x0)), (1, .int x1), (2, .int x2), (3, .int x3), (4, .long x4)]) E dX5_set_5 (by decide) rfl ?_
    refine j_aloadN E 0 rfl dX5_set_7 ?_
    refine j_ifnonnullN E dX5_set_9 ?_
    refine j_iconst (v := (-1)) E dX5_set_12 (by decide) ?_
    cases hf
    exact j_iret E hr hlk dX5_set_13
  · refine j_stk (st' := [.ref (ad a4)]) rfl ?_
    refine j_astore (lv' := [(6, .ref (ad a4)), (0, .ref (ad x0)), (1, .int x1), (2, .int x2), (3, .int x3), (4, .long x4)]) E dX5_set_5 (by decide) rfl ?_
    refine j_aload E 0 rfl dX5_set_7 ?_
    refine j_ifnonnull (tgt := 14) E dX5_set_9 (by decide) ?_
    refine j_aload E 0 rfl dX5_set_14 ?_
    refine j_iload_n E 3 rfl dX5_set_16 rfl ?_
    refine j_iload_n E 4 rfl dX5_set_17 rfl ?_
    obtain ⟨k5, hf⟩ := ck_spec hf
    obtain ⟨v6, e7, hf⟩ := bs hf
    refine j_callV (ci := 1) (b := a4) (As := [.int x2, .int x3]) (rest := []) (v := (some (.int v6))) E (c_X2_covers l D ad cy h a4 x2 x3 e7) (mcw E.1.2.2.2.2 uw_1_201 uw_2_13 uw_1_199 uw_1_200 uw_1_4 rfl rfl hd_X2_covers ⟨by decide, by decide⟩) rfl k5 rfl rfl (Nat.le_of_ble_eq_true rfl) dX5_set_18 ⟨Nat.zero_le _, Nat.zero_le _⟩ ?_
    refine j_stk (st' := [.int v6]) rfl ?_
    refine j_if_ne (tgt := 27) E dX5_set_21 (by decide) (fun z8 => ?_) (fun z8 => ?_)
    · have hf := ifn hf z8
      refine j_aload E 0 rfl dX5_set_27 ?_
      refine j_iload_n E 3 rfl dX5_set_29 rfl ?_
      refine j_iload_n E 4 rfl dX5_set_30 rfl ?_
      obtain ⟨k9, hf⟩ := ck_spec hf
      obtain ⟨v10, e11, hf⟩ := bs hf
      refine j_callV (ci := 1) (b := a4) (As := [.int x2, .int x3]) (rest := []) (v := (some (.int v10))) E (c_X2_keeps l D ad cy h a4 x2 x3 e11) (mcw E.1.2.2.2.2 uw_2_5 uw_2_19 uw_2_3 uw_2_4 uw_1_4 rfl rfl hd_X2_keeps ⟨by decide, by decide⟩) rfl k9 rfl rfl (Nat.le_of_ble_eq_true rfl) dX5_set_31 ⟨Nat.zero_le _, Nat.zero_le _⟩ ?_
      refine j_stk (st' := [.int v10]) rfl ?_
      refine j_if_ne (tgt := 40) E dX5_set_34 (by decide) (fun z12 => ?_) (fun z12 => ?_)
      · have hf := ifn hf z12
        refine j_aload E 0 rfl dX5_set_40 ?_
        refine j_iload_n E 3 rfl dX5_set_42 rfl ?_
        refine j_iload_n E 4 rfl dX5_set_43 rfl ?_
        refine j_lload E 5 rfl dX5_set_44 ?_
        obtain ⟨k13, hf⟩ := ck_spec hf
        obtain ⟨h14, e15, hf⟩ := bs hf
        refine j_callV (ci := 1) (b := a4) (As := [.int x2, .int x3, .long x4]) (rest := []) (v := none) E (c_X2_put l D ad cy h a4 x2 x3 x4 e15) (mcw E.1.2.2.2.2 uw_1_229 uw_2_43 uw_1_227 uw_1_228 uw_1_4 rfl rfl hd_X2_put ⟨by decide, by decide⟩) rfl k13 rfl rfl (Nat.le_of_ble_eq_true rfl) dX5_set_46 ⟨Nat.zero_le _, Nat.zero_le _⟩ ?_
        refine j_stk (st' := []) rfl ?_
        refine j_iconst (v := 1) E dX5_set_49 (by decide) ?_
        cases hf
        exact j_iret E hr hlk dX5_set_50
      · have hf := ifp hf z12
        refine j_bipush (v := (-3)) E dX5_set_37 (by decide) ?_
        cases hf
        exact j_iret E hr hlk dX5_set_39
    · have hf := ifp hf z8
      refine j_bipush (v := (-2)) E dX5_set_24 (by decide) ?_
      cases hf
      exact j_iret E hr hlk dX5_set_26
noncomputable def f_X5_prune (h : HP) (x0 : Nat) (x1 : Int32) : Option (HP × Int32) :=
  ck 4 h x0 <|
  (f_X5_gridAt h x0 x1).bind fun v2 =>
  om v2 (
    some (h, (-1))
  ) fun a4 =>
    ck 1 h a4 <|
    (f_X2_dropZeros h a4).bind fun (h6, v7) =>
    some (h6, v7)
abbrev rmX5_prune : Room := { frames := 4, cells := 0, slots := 0, locals := 89 }
theorem hd_X5_prune : yX5_prune.cls = RX5 ∧ yX5_prune.cls ≠ "java/lang/invoke/MethodHandle" ∧ yX5_prune.cls ≠ "java/lang/invoke/VarHandle" ∧ (parseMethodDescriptor yX5_prune.desc).map (fun d => d.parameters.length) = some 1 := by decide +kernel
set_option maxRecDepth 100000 in
set_option maxHeartbeats 4000000 in
theorem c_X5_prune (l : Launch) (D : va_G) (ad : Nat → Nat) (cy : Nat → ClassId) (h : HP) (x0 : Nat) (x1 : Int32) {h' : HP} {r : Int32} (hf : f_X5_prune h x0 x1 = some (h', r)) : Met l yX5_prune (wsM yX5_prune cX5_prune 3 (some .int)) rmX5_prune (va_Pc [.ref (ad x0), .int x1] (PW D ad cy h)) (QV D ad cy (some (.int r)) h') 0 0 (Aw ad) := by
  refine met_of (own := RX5) (lv := [(0, .ref (ad x0)), (1, .int x1)]) (by decide) rfl (Nat.le_of_ble_eq_true rfl) rfl (fun p e s m args below meth c E hr hlk => ?_)
  unfold f_X5_prune at hf
  refine j_aload_n E 0 rfl dX5_prune_0 rfl ?_
  refine j_iload_n E 1 rfl dX5_prune_1 rfl ?_
  obtain ⟨k1, hf⟩ := ck_spec hf
  obtain ⟨v2, e3, hf⟩ := bs hf
  refine j_callV (ci := 4) (b := x0) (As := [.int x1]) (rest := []) (v := (some (va_rf (v2.map ad)))) E (c_X5_gridAt l D ad cy h x0 x1 e3) (mcw E.1.2.2.2.2 uw_1_193 uw_1_190 uw_1_192 us_1_1 uw_1_1 rfl rfl hd_X5_gridAt ⟨by decide, by decide⟩) rfl k1 rfl rfl (Nat.le_of_ble_eq_true rfl) dX5_prune_2 ⟨Nat.zero_le _, Nat.zero_le _⟩ ?_
  rcases om_spec hf with ⟨rfl, hf⟩ | ⟨a4, rfl, hf⟩
  · refine j_stk (st' := [.null]) rfl ?_
    refine j_astore_nN (lv' := [(2, .null), (0, .ref (ad x0)), (1, .int x1)]) E dX5_prune_5 rfl (by decide) rfl ?_
    refine j_aload_nN E 0 rfl dX5_prune_6 rfl ?_
    refine j_ifnonnullN E dX5_prune_7 ?_
    refine j_iconst (v := (-1)) E dX5_prune_10 (by decide) ?_
    refine j_goto (tgt := 18) E dX5_prune_11 (by decide) ?_
    cases hf
    exact j_iret E hr hlk dX5_prune_18
  · refine j_stk (st' := [.ref (ad a4)]) rfl ?_
    refine j_astore_n (lv' := [(2, .ref (ad a4)), (0, .ref (ad x0)), (1, .int x1)]) E dX5_prune_5 rfl (by decide) rfl ?_
    refine j_aload_n E 0 rfl dX5_prune_6 rfl ?_
    refine j_ifnonnull (tgt := 14) E dX5_prune_7 (by decide) ?_
    refine j_aload_n E 0 rfl dX5_prune_14 rfl ?_
    obtain ⟨k5, hf⟩ := ck_spec hf
    obtain ⟨⟨h6, v7⟩, e8, hf⟩ := bs hf
    refine j_callV (ci := 1) (b := a4) (As := []) (rest := []) (v := (some (.int v7))) E (c_X2_dropZeros l D ad cy h a4 e8) (mcw E.1.2.2.2.2 uw_2_51 uw_2_48 uw_2_49 uw_2_50 uw_1_4 rfl rfl hd_X2_dropZeros ⟨by decide, by decide⟩) rfl k5 rfl rfl (Nat.le_of_ble_eq_true rfl) dX5_prune_15 ⟨Nat.zero_le _, Nat.zero_le _⟩ ?_
    refine j_stk (st' := [.int v7]) rfl ?_
    cases hf
    exact j_iret E hr hlk dX5_prune_18
noncomputable def f_X5_add (h : HP) (x0 : Nat) (x1 : Int32) (x2 : Int32) (x3 : Int32) (x4 : Int64) (x6 : Int64) : Option (HP × Int32) :=
  ck 4 h x0 <|
  (f_X5_gridAt h x0 x1).bind fun v2 =>
  om v2 (
    ck 4 h x0 <|
    (f_X5_gridAt h x0 x2).bind fun v6 =>
    om v6 (
      some (h, (-1))
    ) fun a8 =>
      some (h, (-1))
  ) fun a4 =>
    ck 4 h x0 <|
    (f_X5_gridAt h x0 x2).bind fun v10 =>
    om v10 (
      some (h, (-1))
    ) fun a12 =>
      (f_X5_isSlot x3).bind fun v13 =>
      if v13 = 0 then (
        some (h, (-1))
      ) else (
        ck 1 h a4 <|
        (f_X2_hasSizeOf h a4 a12).bind fun v17 =>
        if v17 = 0 then (
          some (h, (-3))
        ) else (
          (gR 4 h x0 3).bind fun v20 =>
          (gI 1 h a4 0).bind fun v21 =>
          (gI 1 h a4 1).bind fun v22 =>
          ck 1 h v20 <|
          (f_X2_begin h v20 v21 v22).bind fun h24 =>
          (gR 4 h24 x0 3).bind fun v26 =>
          ck 1 h24 v26 <|
          (f_X2_addMultiple h24 v26 a4 x4).bind fun h28 =>
          (gR 4 h28 x0 3).bind fun v30 =>
          ck 1 h28 v30 <|
          (f_X2_addMultiple h28 v30 a12 x6).bind fun h32 =>
          ck 4 h32 x0 <|
          (f_X5_putDraft h32 x0 x3).bind fun (h35, v36) =>
          some (h35, v36)
        )
      )
abbrev rmX5_add : Room := { frames := 4, cells := 0, slots := 0, locals := 93 }
theorem hd_X5_add : yX5_add.cls = RX5 ∧ yX5_add.cls ≠ "java/lang/invoke/MethodHandle" ∧ yX5_add.cls ≠ "java/lang/invoke/VarHandle" ∧ (parseMethodDescriptor yX5_add.desc).map (fun d => d.parameters.length) = some 5 := by decide +kernel
set_option maxRecDepth 100000 in
set_option maxHeartbeats 4000000 in
theorem c_X5_add (l : Launch) (D : va_G) (ad : Nat → Nat) (cy : Nat → ClassId) (h : HP) (x0 : Nat) (x1 : Int32) (x2 : Int32) (x3 : Int32) (x4 : Int64) (x6 : Int64) {h' : HP} {r : Int32} (hf : f_X5_add h x0 x1 x2 x3 x4 x6 = some (h', r)) : Met l yX5_add (wsM yX5_add cX5_add 10 (some .int)) rmX5_add (va_Pc [.ref (ad x0), .int x1, .int x2, .int x3, .long x4, .long x6] (PW D ad cy h)) (QV D ad cy (some (.int r)) h') 0 0 (Aw ad) := by
  refine met_of (own := RX5) (lv := [(0, .ref (ad x0)), (1, .int x1), (2, .int x2), (3, .int x3), (4, .long x4), (6, .long x6)]) (by decide) rfl (Nat.le_of_ble_eq_true rfl) rfl (fun p e s m args below meth c E hr hlk => ?_)
  unfold f_X5_add at hf
  refine j_aload_n E 0 rfl dX5_add_0 rfl ?_
  refine j_iload_n E 1 rfl dX5_add_1 rfl ?_
  obtain ⟨k1, hf⟩ := ck_spec hf
  obtain ⟨v2, e3, hf⟩ := bs hf
  refine j_callV (ci := 4) (b := x0) (As := [.int x1]) (rest := []) (v := (some (va_rf (v2.map ad)))) E (c_X5_gridAt l D ad cy h x0 x1 e3) (mcw E.1.2.2.2.2 uw_1_193 uw_1_190 uw_1_192 us_1_1 uw_1_1 rfl rfl hd_X5_gridAt ⟨by decide, by decide⟩) rfl k1 rfl rfl (Nat.le_of_ble_eq_true rfl) dX5_add_2 ⟨Nat.zero_le _, Nat.zero_le _⟩ ?_
  rcases om_spec hf with ⟨rfl, hf⟩ | ⟨a4, rfl, hf⟩
  · refine j_stk (st' := [.null]) rfl ?_
    refine j_astoreN (lv' := [(8, .null), (0, .ref (ad x0)), (1, .int x1), (2, .int x2), (3, .int x3), (4, .long x4), (6, .long x6)]) E dX5_add_5 (by decide) rfl ?_
    refine j_aload_n E 1 rfl dX5_add_7 rfl ?_
    refine j_iload_n E 3 rfl dX5_add_8 rfl ?_
    obtain ⟨k5, hf⟩ := ck_spec hf
    obtain ⟨v6, e7, hf⟩ := bs hf
    refine j_callV (ci := 4) (b := x0) (As := [.int x2]) (rest := []) (v := (some (va_rf (v6.map ad)))) E (c_X5_gridAt l D ad cy h x0 x2 e7) (mcw E.1.2.2.2.2 uw_1_193 uw_1_190 uw_1_192 us_1_1 uw_1_1 rfl rfl hd_X5_gridAt ⟨by decide, by decide⟩) rfl k5 rfl rfl (Nat.le_of_ble_eq_true rfl) dX5_add_9 ⟨Nat.zero_le _, Nat.zero_le _⟩ ?_
    rcases om_spec hf with ⟨rfl, hf⟩ | ⟨a8, rfl, hf⟩
    · refine j_stk (st' := [.null]) rfl ?_
      refine j_astoreN (lv' := [(9, .null), (8, .null), (0, .ref (ad x0)), (1, .int x1), (2, .int x2), (3, .int x3), (4, .long x4), (6, .long x6)]) E dX5_add_12 (by decide) rfl ?_
      refine j_aloadN E 1 rfl dX5_add_14 ?_
      refine j_ifnullN (tgt := 31) E dX5_add_16 (by decide) ?_
      refine j_iconst (v := (-1)) E dX5_add_31 (by decide) ?_
      cases hf
      exact j_iret E hr hlk dX5_add_32
    · refine j_stk (st' := [.ref (ad a8)]) rfl ?_
      refine j_astore (lv' := [(9, .ref (ad a8)), (8, .null), (0, .ref (ad x0)), (1, .int x1), (2, .int x2), (3, .int x3), (4, .long x4), (6, .long x6)]) E dX5_add_12 (by decide) rfl ?_
      refine j_aloadN E 1 rfl dX5_add_14 ?_
      refine j_ifnullN (tgt := 31) E dX5_add_16 (by decide) ?_
      refine j_iconst (v := (-1)) E dX5_add_31 (by decide) ?_
      cases hf
      exact j_iret E hr hlk dX5_add_32
  · refine j_stk (st' := [.ref (ad a4)]) rfl ?_
    refine j_astore (lv' := [(8, .ref (ad a4)), (0, .ref (ad x0)), (1, .int x1), (2, .int x2), (3, .int x3), (4, .long x4), (6, .long x6)]) E dX5_add_5 (by decide) rfl ?_
    refine j_aload_n E 1 rfl dX5_add_7 rfl ?_
    refine j_iload_n E 3 rfl dX5_add_8 rfl ?_
    obtain ⟨k9, hf⟩ := ck_spec hf
    obtain ⟨v10, e11, hf⟩ := bs hf
    refine j_callV (ci := 4) (b := x0) (As := [.int x2]) (rest := []) (v := (some (va_rf (v10.map ad)))) E (c_X5_gridAt l D ad cy h x0 x2 e11) (mcw E.1.2.2.2.2 uw_1_193 uw_1_190 uw_1_192 us_1_1 uw_1_1 rfl rfl hd_X5_gridAt ⟨by decide, by decide⟩) rfl k9 rfl rfl (Nat.le_of_ble_eq_true rfl) dX5_add_9 ⟨Nat.zero_le _, Nat.zero_le _⟩ ?_
    rcases om_spec hf with ⟨rfl, hf⟩ | ⟨a12, rfl, hf⟩
    · refine j_stk (st' := [.null]) rfl ?_
      refine j_astoreN (lv' := [(9, .null), (8, .ref (ad a4)), (0, .ref (ad x0)), (1, .int x1), (2, .int x2), (3, .int x3), (4, .long x4), (6, .long x6)]) E dX5_add_12 (by decide) rfl ?_
      refine j_aload E 1 rfl dX5_add_14 ?_
      refine j_ifnull E dX5_add_16 ?_
      refine j_aloadN E 0 rfl dX5_add_19 ?_
      refine j_ifnullN (tgt := 31) E dX5_add_21 (by decide) ?_
      refine j_iconst (v := (-1)) E dX5_add_31 (by decide) ?_
      cases hf
      exact j_iret E hr hlk dX5_add_32
    · refine j_stk (st' := [.ref (ad a12)]) rfl ?_
      refine j_astore (lv' := [(9, .ref (ad a12)), (8, .ref (ad a4)), (0, .ref (ad x0)), (1, .int x1), (2, .int x2), (3, .int x3), (4, .long x4), (6, .long x6)]) E dX5_add_12 (by decide) rfl ?_
      refine j_aload E 1 rfl dX5_add_14 ?_
      refine j_ifnull E dX5_add_16 ?_
      refine j_aload E 0 rfl dX5_add_19 ?_
      refine j_ifnull E dX5_add_21 ?_
      refine j_iload_n E 5 rfl dX5_add_24 rfl ?_
      obtain ⟨v13, e14, hf⟩ := bs hf
      refine j_callS (As := [.int x3]) (rest := []) (v := (some (.int v13))) E (c_X5_isSlot l D ad cy h x3 e14) (mcs E.1.2.2.2.2 uw_1_132 uw_1_130 uw_1_131 uw_1_1 rfl rfl hd_X5_isSlot ⟨by decide, by decide⟩) rfl rfl (Nat.le_of_ble_eq_true rfl) dX5_add_25 ⟨Nat.zero_le _, Nat.zero_le _⟩ ?_
      refine j_stk (st' := [.int v13]) rfl ?_
      refine j_if_ne (tgt := 33) E dX5_add_28 (by decide) (fun z15 => ?_) (fun z15 => ?_)
      · have hf := ifn hf z15
        refine j_aload E 1 rfl dX5_add_33 ?_
        refine j_aload E 0 rfl dX5_add_35 ?_
        obtain ⟨k16, hf⟩ := ck_spec hf
        obtain ⟨v17, e18, hf⟩ := bs hf
        refine j_callV (ci := 1) (b := a4) (As := [.ref (ad a12)]) (rest := []) (v := (some (.int v17))) E (c_X2_hasSizeOf l D ad cy h a4 a12 e18) (mcw E.1.2.2.2.2 uw_2_64 uw_2_61 uw_2_62 uw_2_63 uw_1_4 rfl rfl hd_X2_hasSizeOf ⟨by decide, by decide⟩) rfl k16 rfl rfl (Nat.le_of_ble_eq_true rfl) dX5_add_37 ⟨Nat.zero_le _, Nat.zero_le _⟩ ?_
        refine j_stk (st' := [.int v17]) rfl ?_
        refine j_if_ne (tgt := 46) E dX5_add_40 (by decide) (fun z19 => ?_) (fun z19 => ?_)
        · have hf := ifn hf z19
          refine j_aload_n E 2 rfl dX5_add_46 rfl ?_
          obtain ⟨v20, ev20, hf⟩ := bs hf
          refine j_getR (ci := 4) (k0 := 3) (T := TX5) (N := 6) E (mI inUX5) rfl (by decide) (mU uw_1_110) ev20 dX5_add_47 ?_
          refine j_aload E 1 rfl dX5_add_50 ?_
          obtain ⟨v21, ev21, hf⟩ := bs hf
          refine j_getI (ci := 1) (k0 := 0) (T := TX2) (N := 4) E (mI inUX2) rfl (by decide) (mU uw_1_76) ev21 dX5_add_52 ?_
          refine j_aload E 1 rfl dX5_add_55 ?_
          obtain ⟨v22, ev22, hf⟩ := bs hf
          refine j_getI (ci := 1) (k0 := 1) (T := TX2) (N := 4) E (mI inUX2) rfl (by decide) (mU uw_1_79) ev22 dX5_add_57 ?_
          obtain ⟨k23, hf⟩ := ck_spec hf
          obtain ⟨h24, e25, hf⟩ := bs hf
          refine j_callV (ci := 1) (b := v20) (As := [.int v21, .int v22]) (rest := []) (v := none) E (c_X2_begin l D ad cy h v20 v21 v22 e25) (mcw E.1.2.2.2.2 uw_1_139 uw_1_136 uw_1_137 uw_1_138 uw_1_4 rfl rfl hd_X2_begin ⟨by decide, by decide⟩) rfl k23 rfl rfl (Nat.le_of_ble_eq_true rfl) dX5_add_60 ⟨Nat.zero_le _, Nat.zero_le _⟩ ?_
          refine j_stk (st' := []) rfl ?_
          refine j_aload_n E 2 rfl dX5_add_63 rfl ?_
          obtain ⟨v26, ev26, hf⟩ := bs hf
          refine j_getR (ci := 4) (k0 := 3) (T := TX5) (N := 6) E (mI inUX5) rfl (by decide) (mU uw_1_110) ev26 dX5_add_64 ?_
          refine j_aload E 1 rfl dX5_add_67 ?_
          refine j_lload E 6 rfl dX5_add_69 ?_
          obtain ⟨k27, hf⟩ := ck_spec hf
          obtain ⟨h28, e29, hf⟩ := bs hf
          refine j_callV (ci := 1) (b := v26) (As := [.ref (ad a4), .long x4]) (rest := []) (v := none) E (c_X2_addMultiple l D ad cy h24 v26 a4 x4 e29) (mcw E.1.2.2.2.2 uw_2_68 uw_2_65 uw_2_66 uw_2_67 uw_1_4 rfl rfl hd_X2_addMultiple ⟨by decide, by decide⟩) rfl k27 rfl rfl (Nat.le_of_ble_eq_true rfl) dX5_add_71 ⟨Nat.zero_le _, Nat.zero_le _⟩ ?_
          refine j_stk (st' := []) rfl ?_
          refine j_aload_n E 2 rfl dX5_add_74 rfl ?_
          obtain ⟨v30, ev30, hf⟩ := bs hf
          refine j_getR (ci := 4) (k0 := 3) (T := TX5) (N := 6) E (mI inUX5) rfl (by decide) (mU uw_1_110) ev30 dX5_add_75 ?_
          refine j_aload E 0 rfl dX5_add_78 ?_
          refine j_lload E 7 rfl dX5_add_80 ?_
          obtain ⟨k31, hf⟩ := ck_spec hf
          obtain ⟨h32, e33, hf⟩ := bs hf
          refine j_callV (ci := 1) (b := v30) (As := [.ref (ad a12), .long x6]) (rest := []) (v := none) E (c_X2_addMultiple l D ad cy h28 v30 a12 x6 e33) (mcw E.1.2.2.2.2 uw_2_68 uw_2_65 uw_2_66 uw_2_67 uw_1_4 rfl rfl hd_X2_addMultiple ⟨by decide, by decide⟩) rfl k31 rfl rfl (Nat.le_of_ble_eq_true rfl) dX5_add_82 ⟨Nat.zero_le _, Nat.zero_le _⟩ ?_
          refine j_stk (st' := []) rfl ?_
          refine j_aload_n E 2 rfl dX5_add_85 rfl ?_
          refine j_iload_n E 5 rfl dX5_add_86 rfl ?_
          obtain ⟨k34, hf⟩ := ck_spec hf
          obtain ⟨⟨h35, v36⟩, e37, hf⟩ := bs hf
          refine j_callV (ci := 4) (b := x0) (As := [.int x3]) (rest := []) (v := (some (.int v36))) E (c_X5_putDraft l D ad cy h32 x0 x3 e37) (mcw E.1.2.2.2.2 uw_1_143 uw_1_140 uw_1_142 us_1_0 uw_1_1 rfl rfl hd_X5_putDraft ⟨by decide, by decide⟩) rfl k34 rfl rfl (Nat.le_of_ble_eq_true rfl) dX5_add_87 ⟨Nat.zero_le _, Nat.zero_le _⟩ ?_
          refine j_stk (st' := [.int v36]) rfl ?_
          cases hf
          exact j_iret E hr hlk dX5_add_90
        · have hf := ifp hf z19
          refine j_bipush (v := (-3)) E dX5_add_43 (by decide) ?_
          cases hf
          exact j_iret E hr hlk dX5_add_45
      · have hf := ifp hf z15
        refine j_iconst (v := (-1)) E dX5_add_31 (by decide) ?_
        cases hf
        exact j_iret E hr hlk dX5_add_32
noncomputable def f_X5_times (h : HP) (x0 : Nat) (x1 : Int32) (x2 : Int32) (x3 : Int32) : Option (HP × Int32) :=
  ck 4 h x0 <|
  (f_X5_gridAt h x0 x1).bind fun v2 =>
  om v2 (
    ck 4 h x0 <|
    (f_X5_gridAt h x0 x2).bind fun v6 =>
    om v6 (
      some (h, (-1))
    ) fun a8 =>
      some (h, (-1))
  ) fun a4 =>
    ck 4 h x0 <|
    (f_X5_gridAt h x0 x2).bind fun v10 =>
    om v10 (
      some (h, (-1))
    ) fun a12 =>
      (f_X5_isSlot x3).bind fun v13 =>
      if v13 = 0 then (
        some (h, (-1))
      ) else (
        (gI 1 h a4 1).bind fun v16 =>
        (gI 1 h a12 0).bind fun v17 =>
        if v16 = v17 then (
          (gR 4 h x0 3).bind fun v19 =>
          ck 1 h v19 <|
          (f_X2_becomeProduct h v19 a4 a12).bind fun h21 =>
          ck 4 h21 x0 <|
          (f_X5_putDraft h21 x0 x3).bind fun (h24, v25) =>
          some (h24, v25)
        ) else (
          some (h, (-3))
        )
      )
abbrev rmX5_times : Room := { frames := 5, cells := 0, slots := 0, locals := 118 }
theorem hd_X5_times : yX5_times.cls = RX5 ∧ yX5_times.cls ≠ "java/lang/invoke/MethodHandle" ∧ yX5_times.cls ≠ "java/lang/invoke/VarHandle" ∧ (parseMethodDescriptor yX5_times.desc).map (fun d => d.parameters.length) = some 3 := by decide +kernel
set_option maxRecDepth 100000 in
set_option maxHeartbeats 4000000 in
theorem c_X5_times (l : Launch) (D : va_G) (ad : Nat → Nat) (cy : Nat → ClassId) (h : HP) (x0 : Nat) (x1 : Int32) (x2 : Int32) (x3 : Int32) {h' : HP} {r : Int32} (hf : f_X5_times h x0 x1 x2 x3 = some (h', r)) : Met l yX5_times (wsM yX5_times cX5_times 6 (some .int)) rmX5_times (va_Pc [.ref (ad x0), .int x1, .int x2, .int x3] (PW D ad cy h)) (QV D ad cy (some (.int r)) h') 0 0 (Aw ad) := by
  refine met_of (own := RX5) (lv := [(0, .ref (ad x0)), (1, .int x1), (2, .int x2), (3, .int x3)]) (by decide) rfl (Nat.le_of_ble_eq_true rfl) rfl (fun p e s m args below meth c E hr hlk => ?_)
  unfold f_X5_times at hf
  refine j_aload_n E 0 rfl dX5_times_0 rfl ?_
  refine j_iload_n E 1 rfl dX5_times_1 rfl ?_
  obtain ⟨k1, hf⟩ := ck_spec hf
  obtain ⟨v2, e3, hf⟩ := bs hf
  refine j_callV (ci := 4) (b := x0) (As := [.int x1]) (rest := []) (v := (some (va_rf (v2.map ad)))) E (c_X5_gridAt l D ad cy h x0 x1 e3) (mcw E.1.2.2.2.2 uw_1_193 uw_1_190 uw_1_192 us_1_1 uw_1_1 rfl rfl hd_X5_gridAt ⟨by decide, by decide⟩) rfl k1 rfl rfl (Nat.le_of_ble_eq_true rfl) dX5_times_2 ⟨Nat.zero_le _, Nat.zero_le _⟩ ?_
  rcases om_spec hf with ⟨rfl, hf⟩ | ⟨a4, rfl, hf⟩
  · refine j_stk (st' := [.null]) rfl ?_
    refine j_astoreN (lv' := [(4, .null), (0, .ref (ad x0)), (1, .int x1), (2, .int x2), (3, .int x3)]) E dX5_times_5 (by decide) rfl ?_
    refine j_aload_n E 1 rfl dX5_times_7 rfl ?_
    refine j_iload_n E 3 rfl dX5_times_8 rfl ?_
    obtain ⟨k5, hf⟩ := ck_spec hf
    obtain ⟨v6, e7, hf⟩ := bs hf
    refine j_callV (ci := 4) (b := x0) (As := [.int x2]) (rest := []) (v := (some (va_rf (v6.map ad)))) E (c_X5_gridAt l D ad cy h x0 x2 e7) (mcw E.1.2.2.2.2 uw_1_193 uw_1_190 uw_1_192 us_1_1 uw_1_1 rfl rfl hd_X5_gridAt ⟨by decide, by decide⟩) rfl k5 rfl rfl (Nat.le_of_ble_eq_true rfl) dX5_times_9 ⟨Nat.zero_le _, Nat.zero_le _⟩ ?_
    rcases om_spec hf with ⟨rfl, hf⟩ | ⟨a8, rfl, hf⟩
    · refine j_stk (st' := [.null]) rfl ?_
      refine j_astoreN (lv' := [(5, .null), (4, .null), (0, .ref (ad x0)), (1, .int x1), (2, .int x2), (3, .int x3)]) E dX5_times_12 (by decide) rfl ?_
      refine j_aloadN E 1 rfl dX5_times_14 ?_
      refine j_ifnullN (tgt := 31) E dX5_times_16 (by decide) ?_
      refine j_iconst (v := (-1)) E dX5_times_31 (by decide) ?_
      cases hf
      exact j_iret E hr hlk dX5_times_32
    · refine j_stk (st' := [.ref (ad a8)]) rfl ?_
      refine j_astore (lv' := [(5, .ref (ad a8)), (4, .null), (0, .ref (ad x0)), (1, .int x1), (2, .int x2), (3, .int x3)]) E dX5_times_12 (by decide) rfl ?_
      refine j_aloadN E 1 rfl dX5_times_14 ?_
      refine j_ifnullN (tgt := 31) E dX5_times_16 (by decide) ?_
      refine j_iconst (v := (-1)) E dX5_times_31 (by decide) ?_
      cases hf
      exact j_iret E hr hlk dX5_times_32
  · refine j_stk (st' := [.ref (ad a4)]) rfl ?_
    refine j_astore (lv' := [(4, .ref (ad a4)), (0, .ref (ad x0)), (1, .int x1), (2, .int x2), (3, .int x3)]) E dX5_times_5 (by decide) rfl ?_
    refine j_aload_n E 1 rfl dX5_times_7 rfl ?_
    refine j_iload_n E 3 rfl dX5_times_8 rfl ?_
    obtain ⟨k9, hf⟩ := ck_spec hf
    obtain ⟨v10, e11, hf⟩ := bs hf
    refine j_callV (ci := 4) (b := x0) (As := [.int x2]) (rest := []) (v := (some (va_rf (v10.map ad)))) E (c_X5_gridAt l D ad cy h x0 x2 e11) (mcw E.1.2.2.2.2 uw_1_193 uw_1_190 uw_1_192 us_1_1 uw_1_1 rfl rfl hd_X5_gridAt ⟨by decide, by decide⟩) rfl k9 rfl rfl (Nat.le_of_ble_eq_true rfl) dX5_times_9 ⟨Nat.zero_le _, Nat.zero_le _⟩ ?_
    rcases om_spec hf with ⟨rfl, hf⟩ | ⟨a12, rfl, hf⟩
    · refine j_stk (st' := [.null]) rfl ?_
      refine j_astoreN (lv' := [(5, .null), (4, .ref (ad a4)), (0, .ref (ad x0)), (1, .int x1), (2, .int x2), (3, .int x3)]) E dX5_times_12 (by decide) rfl ?_
      refine j_aload E 1 rfl dX5_times_14 ?_
      refine j_ifnull E dX5_times_16 ?_
      refine j_aloadN E 0 rfl dX5_times_19 ?_
      refine j_ifnullN (tgt := 31) E dX5_times_21 (by decide) ?_
      refine j_iconst (v := (-1)) E dX5_times_31 (by decide) ?_
      cases hf
      exact j_iret E hr hlk dX5_times_32
    · refine j_stk (st' := [.ref (ad a12)]) rfl ?_
      refine j_astore (lv' := [(5, .ref (ad a12)), (4, .ref (ad a4)), (0, .ref (ad x0)), (1, .int x1), (2, .int x2), (3, .int x3)]) E dX5_times_12 (by decide) rfl ?_
      refine j_aload E 1 rfl dX5_times_14 ?_
      refine j_ifnull E dX5_times_16 ?_
      refine j_aload E 0 rfl dX5_times_19 ?_
      refine j_ifnull E dX5_times_21 ?_
      refine j_iload_n E 5 rfl dX5_times_24 rfl ?_
      obtain ⟨v13, e14, hf⟩ := bs hf
      refine j_callS (As := [.int x3]) (rest := []) (v := (some (.int v13))) E (c_X5_isSlot l D ad cy h x3 e14) (mcs E.1.2.2.2.2 uw_1_132 uw_1_130 uw_1_131 uw_1_1 rfl rfl hd_X5_isSlot ⟨by decide, by decide⟩) rfl rfl (Nat.le_of_ble_eq_true rfl) dX5_times_25 ⟨Nat.zero_le _, Nat.zero_le _⟩ ?_
      refine j_stk (st' := [.int v13]) rfl ?_
      refine j_if_ne (tgt := 33) E dX5_times_28 (by decide) (fun z15 => ?_) (fun z15 => ?_)
      · have hf := ifn hf z15
        refine j_aload E 1 rfl dX5_times_33 ?_
        obtain ⟨v16, ev16, hf⟩ := bs hf
        refine j_getI (ci := 1) (k0 := 1) (T := TX2) (N := 4) E (mI inUX2) rfl (by decide) (mU uw_1_79) ev16 dX5_times_35 ?_
        refine j_aload E 0 rfl dX5_times_38 ?_
        obtain ⟨v17, ev17, hf⟩ := bs hf
        refine j_getI (ci := 1) (k0 := 0) (T := TX2) (N := 4) E (mI inUX2) rfl (by decide) (mU uw_1_76) ev17 dX5_times_40 ?_
        refine j_icmp_eq (tgt := 49) E dX5_times_43 (by decide) (fun z18 => ?_) (fun z18 => ?_)
        · have hf := ifp hf z18
          refine j_aload_n E 2 rfl dX5_times_49 rfl ?_
          obtain ⟨v19, ev19, hf⟩ := bs hf
          refine j_getR (ci := 4) (k0 := 3) (T := TX5) (N := 6) E (mI inUX5) rfl (by decide) (mU uw_1_110) ev19 dX5_times_50 ?_
          refine j_aload E 1 rfl dX5_times_53 ?_
          refine j_aload E 0 rfl dX5_times_55 ?_
          obtain ⟨k20, hf⟩ := ck_spec hf
          obtain ⟨h21, e22, hf⟩ := bs hf
          refine j_callV (ci := 1) (b := v19) (As := [.ref (ad a4), .ref (ad a12)]) (rest := []) (v := none) E (c_X2_becomeProduct l D ad cy h v19 a4 a12 e22) (mcw E.1.2.2.2.2 uw_2_77 uw_2_74 uw_2_75 uw_2_76 uw_1_4 rfl rfl hd_X2_becomeProduct ⟨by decide, by decide⟩) rfl k20 rfl rfl (Nat.le_of_ble_eq_true rfl) dX5_times_57 ⟨Nat.zero_le _, Nat.zero_le _⟩ ?_
          refine j_stk (st' := []) rfl ?_
          refine j_aload_n E 2 rfl dX5_times_60 rfl ?_
          refine j_iload_n E 5 rfl dX5_times_61 rfl ?_
          obtain ⟨k23, hf⟩ := ck_spec hf
          obtain ⟨⟨h24, v25⟩, e26, hf⟩ := bs hf
          refine j_callV (ci := 4) (b := x0) (As := [.int x3]) (rest := []) (v := (some (.int v25))) E (c_X5_putDraft l D ad cy h21 x0 x3 e26) (mcw E.1.2.2.2.2 uw_1_143 uw_1_140 uw_1_142 us_1_0 uw_1_1 rfl rfl hd_X5_putDraft ⟨by decide, by decide⟩) rfl k23 rfl rfl (Nat.le_of_ble_eq_true rfl) dX5_times_62 ⟨Nat.zero_le _, Nat.zero_le _⟩ ?_
          refine j_stk (st' := [.int v25]) rfl ?_
          cases hf
          exact j_iret E hr hlk dX5_times_65
        · have hf := ifn hf z18
          refine j_bipush (v := (-3)) E dX5_times_46 (by decide) ?_
          cases hf
          exact j_iret E hr hlk dX5_times_48
      · have hf := ifp hf z15
        refine j_iconst (v := (-1)) E dX5_times_31 (by decide) ?_
        cases hf
        exact j_iret E hr hlk dX5_times_32
noncomputable def f_X5_each (h : HP) (x0 : Nat) (x1 : Int32) (x2 : Int32) (x3 : Int32) : Option (HP × Int32) :=
  ck 4 h x0 <|
  (f_X5_gridAt h x0 x1).bind fun v2 =>
  om v2 (
    ck 4 h x0 <|
    (f_X5_gridAt h x0 x2).bind fun v6 =>
    om v6 (
      some (h, (-1))
    ) fun a8 =>
      some (h, (-1))
  ) fun a4 =>
    ck 4 h x0 <|
    (f_X5_gridAt h x0 x2).bind fun v10 =>
    om v10 (
      some (h, (-1))
    ) fun a12 =>
      (f_X5_isSlot x3).bind fun v13 =>
      if v13 = 0 then (
        some (h, (-1))
      ) else (
        ck 1 h a4 <|
        (f_X2_hasSizeOf h a4 a12).bind fun v17 =>
        if v17 = 0 then (
          some (h, (-3))
        ) else (
          (gR 4 h x0 3).bind fun v20 =>
          ck 1 h v20 <|
          (f_X2_becomeEach h v20 a4 a12).bind fun h22 =>
          ck 4 h22 x0 <|
          (f_X5_putDraft h22 x0 x3).bind fun (h25, v26) =>
          some (h25, v26)
        )
      )
abbrev rmX5_each : Room := { frames := 4, cells := 0, slots := 0, locals := 86 }
theorem hd_X5_each : yX5_each.cls = RX5 ∧ yX5_each.cls ≠ "java/lang/invoke/MethodHandle" ∧ yX5_each.cls ≠ "java/lang/invoke/VarHandle" ∧ (parseMethodDescriptor yX5_each.desc).map (fun d => d.parameters.length) = some 3 := by decide +kernel
set_option maxRecDepth 100000 in
set_option maxHeartbeats 4000000 in
theorem c_X5_each (l : Launch) (D : va_G) (ad : Nat → Nat) (cy : Nat → ClassId) (h : HP) (x0 : Nat) (x1 : Int32) (x2 : Int32) (x3 : Int32) {h' : HP} {r : Int32} (hf : f_X5_each h x0 x1 x2 x3 = some (h', r)) : Met l yX5_each (wsM yX5_each cX5_each 6 (some .int)) rmX5_each (va_Pc [.ref (ad x0), .int x1, .int x2, .int x3] (PW D ad cy h)) (QV D ad cy (some (.int r)) h') 0 0 (Aw ad) := by
  refine met_of (own := RX5) (lv := [(0, .ref (ad x0)), (1, .int x1), (2, .int x2), (3, .int x3)]) (by decide) rfl (Nat.le_of_ble_eq_true rfl) rfl (fun p e s m args below meth c E hr hlk => ?_)
  unfold f_X5_each at hf
  refine j_aload_n E 0 rfl dX5_each_0 rfl ?_
  refine j_iload_n E 1 rfl dX5_each_1 rfl ?_
  obtain ⟨k1, hf⟩ := ck_spec hf
  obtain ⟨v2, e3, hf⟩ := bs hf
  refine j_callV (ci := 4) (b := x0) (As := [.int x1]) (rest := []) (v := (some (va_rf (v2.map ad)))) E (c_X5_gridAt l D ad cy h x0 x1 e3) (mcw E.1.2.2.2.2 uw_1_193 uw_1_190 uw_1_192 us_1_1 uw_1_1 rfl rfl hd_X5_gridAt ⟨by decide, by decide⟩) rfl k1 rfl rfl (Nat.le_of_ble_eq_true rfl) dX5_each_2 ⟨Nat.zero_le _, Nat.zero_le _⟩ ?_
  rcases om_spec hf with ⟨rfl, hf⟩ | ⟨a4, rfl, hf⟩
  · refine j_stk (st' := [.null]) rfl ?_
    refine j_astoreN (lv' := [(4, .null), (0, .ref (ad x0)), (1, .int x1), (2, .int x2), (3, .int x3)]) E dX5_each_5 (by decide) rfl ?_
    refine j_aload_n E 1 rfl dX5_each_7 rfl ?_
    refine j_iload_n E 3 rfl dX5_each_8 rfl ?_
    obtain ⟨k5, hf⟩ := ck_spec hf
    obtain ⟨v6, e7, hf⟩ := bs hf
    refine j_callV (ci := 4) (b := x0) (As := [.int x2]) (rest := []) (v := (some (va_rf (v6.map ad)))) E (c_X5_gridAt l D ad cy h x0 x2 e7) (mcw E.1.2.2.2.2 uw_1_193 uw_1_190 uw_1_192 us_1_1 uw_1_1 rfl rfl hd_X5_gridAt ⟨by decide, by decide⟩) rfl k5 rfl rfl (Nat.le_of_ble_eq_true rfl) dX5_each_9 ⟨Nat.zero_le _, Nat.zero_le _⟩ ?_
    rcases om_spec hf with ⟨rfl, hf⟩ | ⟨a8, rfl, hf⟩
    · refine j_stk (st' := [.null]) rfl ?_
      refine j_astoreN (lv' := [(5, .null), (4, .null), (0, .ref (ad x0)), (1, .int x1), (2, .int x2), (3, .int x3)]) E dX5_each_12 (by decide) rfl ?_
      refine j_aloadN E 1 rfl dX5_each_14 ?_
      refine j_ifnullN (tgt := 31) E dX5_each_16 (by decide) ?_
      refine j_iconst (v := (-1)) E dX5_each_31 (by decide) ?_
      cases hf
      exact j_iret E hr hlk dX5_each_32
    · refine j_stk (st' := [.ref (ad a8)]) rfl ?_
      refine j_astore (lv' := [(5, .ref (ad a8)), (4, .null), (0, .ref (ad x0)), (1, .int x1), (2, .int x2), (3, .int x3)]) E dX5_each_12 (by decide) rfl ?_
      refine j_aloadN E 1 rfl dX5_each_14 ?_
      refine j_ifnullN (tgt := 31) E dX5_each_16 (by decide) ?_
      refine j_iconst (v := (-1)) E dX5_each_31 (by decide) ?_
      cases hf
      exact j_iret E hr hlk dX5_each_32
  · refine j_stk (st' := [.ref (ad a4)]) rfl ?_
    refine j_astore (lv' := [(4, .ref (ad a4)), (0, .ref (ad x0)), (1, .int x1), (2, .int x2), (3, .int x3)]) E dX5_each_5 (by decide) rfl ?_
    refine j_aload_n E 1 rfl dX5_each_7 rfl ?_
    refine j_iload_n E 3 rfl dX5_each_8 rfl ?_
    obtain ⟨k9, hf⟩ := ck_spec hf
    obtain ⟨v10, e11, hf⟩ := bs hf
    refine j_callV (ci := 4) (b := x0) (As := [.int x2]) (rest := []) (v := (some (va_rf (v10.map ad)))) E (c_X5_gridAt l D ad cy h x0 x2 e11) (mcw E.1.2.2.2.2 uw_1_193 uw_1_190 uw_1_192 us_1_1 uw_1_1 rfl rfl hd_X5_gridAt ⟨by decide, by decide⟩) rfl k9 rfl rfl (Nat.le_of_ble_eq_true rfl) dX5_each_9 ⟨Nat.zero_le _, Nat.zero_le _⟩ ?_
    rcases om_spec hf with ⟨rfl, hf⟩ | ⟨a12, rfl, hf⟩
    · refine j_stk (st' := [.null]) rfl ?_
      refine j_astoreN (lv' := [(5, .null), (4, .ref (ad a4)), (0, .ref (ad x0)), (1, .int x1), (2, .int x2), (3, .int x3)]) E dX5_each_12 (by decide) rfl ?_
      refine j_aload E 1 rfl dX5_each_14 ?_
      refine j_ifnull E dX5_each_16 ?_
      refine j_aloadN E 0 rfl dX5_each_19 ?_
      refine j_ifnullN (tgt := 31) E dX5_each_21 (by decide) ?_
      refine j_iconst (v := (-1)) E dX5_each_31 (by decide) ?_
      cases hf
      exact j_iret E hr hlk dX5_each_32
    · refine j_stk (st' := [.ref (ad a12)]) rfl ?_
      refine j_astore (lv' := [(5, .ref (ad a12)), (4, .ref (ad a4)), (0, .ref (ad x0)), (1, .int x1), (2, .int x2), (3, .int x3)]) E dX5_each_12 (by decide) rfl ?_
      refine j_aload E 1 rfl dX5_each_14 ?_
      refine j_ifnull E dX5_each_16 ?_
      refine j_aload E 0 rfl dX5_each_19 ?_
      refine j_ifnull E dX5_each_21 ?_
      refine j_iload_n E 5 rfl dX5_each_24 rfl ?_
      obtain ⟨v13, e14, hf⟩ := bs hf
      refine j_callS (As := [.int x3]) (rest := []) (v := (some (.int v13))) E (c_X5_isSlot l D ad cy h x3 e14) (mcs E.1.2.2.2.2 uw_1_132 uw_1_130 uw_1_131 uw_1_1 rfl rfl hd_X5_isSlot ⟨by decide, by decide⟩) rfl rfl (Nat.le_of_ble_eq_true rfl) dX5_each_25 ⟨Nat.zero_le _, Nat.zero_le _⟩ ?_
      refine j_stk (st' := [.int v13]) rfl ?_
      refine j_if_ne (tgt := 33) E dX5_each_28 (by decide) (fun z15 => ?_) (fun z15 => ?_)
      · have hf := ifn hf z15
        refine j_aload E 1 rfl dX5_each_33 ?_
        refine j_aload E 0 rfl dX5_each_35 ?_
        obtain ⟨k16, hf⟩ := ck_spec hf
        obtain ⟨v17, e18, hf⟩ := bs hf
        refine j_callV (ci := 1) (b := a4) (As := [.ref (ad a12)]) (rest := []) (v := (some (.int v17))) E (c_X2_hasSizeOf l D ad cy h a4 a12 e18) (mcw E.1.2.2.2.2 uw_2_64 uw_2_61 uw_2_62 uw_2_63 uw_1_4 rfl rfl hd_X2_hasSizeOf ⟨by decide, by decide⟩) rfl k16 rfl rfl (Nat.le_of_ble_eq_true rfl) dX5_each_37 ⟨Nat.zero_le _, Nat.zero_le _⟩ ?_
        refine j_stk (st' := [.int v17]) rfl ?_
        refine j_if_ne (tgt := 46) E dX5_each_40 (by decide) (fun z19 => ?_) (fun z19 => ?_)
        · have hf := ifn hf z19
          refine j_aload_n E 2 rfl dX5_each_46 rfl ?_
          obtain ⟨v20, ev20, hf⟩ := bs hf
          refine j_getR (ci := 4) (k0 := 3) (T := TX5) (N := 6) E (mI inUX5) rfl (by decide) (mU uw_1_110) ev20 dX5_each_47 ?_
          refine j_aload E 1 rfl dX5_each_50 ?_
          refine j_aload E 0 rfl dX5_each_52 ?_
          obtain ⟨k21, hf⟩ := ck_spec hf
          obtain ⟨h22, e23, hf⟩ := bs hf
          refine j_callV (ci := 1) (b := v20) (As := [.ref (ad a4), .ref (ad a12)]) (rest := []) (v := none) E (c_X2_becomeEach l D ad cy h v20 a4 a12 e23) (mcw E.1.2.2.2.2 uw_2_90 uw_2_87 uw_2_88 uw_2_89 uw_1_4 rfl rfl hd_X2_becomeEach ⟨by decide, by decide⟩) rfl k21 rfl rfl (Nat.le_of_ble_eq_true rfl) dX5_each_54 ⟨Nat.zero_le _, Nat.zero_le _⟩ ?_
          refine j_stk (st' := []) rfl ?_
          refine j_aload_n E 2 rfl dX5_each_57 rfl ?_
          refine j_iload_n E 5 rfl dX5_each_58 rfl ?_
          obtain ⟨k24, hf⟩ := ck_spec hf
          obtain ⟨⟨h25, v26⟩, e27, hf⟩ := bs hf
          refine j_callV (ci := 4) (b := x0) (As := [.int x3]) (rest := []) (v := (some (.int v26))) E (c_X5_putDraft l D ad cy h22 x0 x3 e27) (mcw E.1.2.2.2.2 uw_1_143 uw_1_140 uw_1_142 us_1_0 uw_1_1 rfl rfl hd_X5_putDraft ⟨by decide, by decide⟩) rfl k24 rfl rfl (Nat.le_of_ble_eq_true rfl) dX5_each_59 ⟨Nat.zero_le _, Nat.zero_le _⟩ ?_
          refine j_stk (st' := [.int v26]) rfl ?_
          cases hf
          exact j_iret E hr hlk dX5_each_62
        · have hf := ifp hf z19
          refine j_bipush (v := (-3)) E dX5_each_43 (by decide) ?_
          cases hf
          exact j_iret E hr hlk dX5_each_45
      · have hf := ifp hf z15
        refine j_iconst (v := (-1)) E dX5_each_31 (by decide) ?_
        cases hf
        exact j_iret E hr hlk dX5_each_32
noncomputable def f_X5_mask (h : HP) (x0 : Nat) (x1 : Int32) (x2 : Int32) (x3 : Int32) (x4 : Int32) : Option (HP × Int32) :=
  ck 4 h x0 <|
  (f_X5_gridAt h x0 x1).bind fun v2 =>
  om v2 (
    ck 4 h x0 <|
    (f_X5_gridAt h x0 x2).bind fun v6 =>
    om v6 (
      some (h, (-1))
    ) fun a8 =>
      some (h, (-1))
  ) fun a4 =>
    ck 4 h x0 <|
    (f_X5_gridAt h x0 x2).bind fun v10 =>
    om v10 (
      some (h, (-1))
    ) fun a12 =>
      (f_X5_isSlot x3).bind fun v13 =>
      if v13 = 0 then (
        some (h, (-1))
      ) else (
        ck 1 h a4 <|
        (f_X2_hasSizeOf h a4 a12).bind fun v17 =>
        if v17 = 0 then (
          some (h, (-3))
        ) else (
          (gR 4 h x0 3).bind fun v20 =>
          ck 1 h v20 <|
          (f_X2_becomeMasked h v20 a4 a12 x4).bind fun h22 =>
          ck 4 h22 x0 <|
          (f_X5_putDraft h22 x0 x3).bind fun (h25, v26) =>
          some (h25, v26)
        )
      )
abbrev rmX5_mask : Room := { frames := 4, cells := 0, slots := 0, locals := 86 }
theorem hd_X5_mask : yX5_mask.cls = RX5 ∧ yX5_mask.cls ≠ "java/lang/invoke/MethodHandle" ∧ yX5_mask.cls ≠ "java/lang/invoke/VarHandle" ∧ (parseMethodDescriptor yX5_mask.desc).map (fun d => d.parameters.length) = some 4 := by decide +kernel
set_option maxRecDepth 100000 in
set_option maxHeartbeats 4000000 in
theorem c_X5_mask (l : Launch) (D : va_G) (ad : Nat → Nat) (cy : Nat → ClassId) (h : HP) (x0 : Nat) (x1 : Int32) (x2 : Int32) (x3 : Int32) (x4 : Int32) {h' : HP} {r : Int32} (hf : f_X5_mask h x0 x1 x2 x3 x4 = some (h', r)) : Met l yX5_mask (wsM yX5_mask cX5_mask 7 (some .int)) rmX5_mask (va_Pc [.ref (ad x0), .int x1, .int x2, .int x3, .int x4] (PW D ad cy h)) (QV D ad cy (some (.int r)) h') 0 0 (Aw ad) := by
  refine met_of (own := RX5) (lv := [(0, .ref (ad x0)), (1, .int x1), (2, .int x2), (3, .int x3), (4, .int x4)]) (by decide) rfl (Nat.le_of_ble_eq_true rfl) rfl (fun p e s m args below meth c E hr hlk => ?_)
  unfold f_X5_mask at hf
  refine j_aload_n E 0 rfl dX5_mask_0 rfl ?_
  refine j_iload_n E 1 rfl dX5_mask_1 rfl ?_
  obtain ⟨k1, hf⟩ := ck_spec hf
  obtain ⟨v2, e3, hf⟩ := bs hf
  refine j_callV (ci := 4) (b := x0) (As := [.int x1]) (rest := []) (v := (some (va_rf (v2.map ad)))) E (c_X5_gridAt l D ad cy h x0 x1 e3) (mcw E.1.2.2.2.2 uw_1_193 uw_1_190 uw_1_192 us_1_1 uw_1_1 rfl rfl hd_X5_gridAt ⟨by decide, by decide⟩) rfl k1 rfl rfl (Nat.le_of_ble_eq_true rfl) dX5_mask_2 ⟨Nat.zero_le _, Nat.zero_le _⟩ ?_
  rcases om_spec hf with ⟨rfl, hf⟩ | ⟨a4, rfl, hf⟩
  · refine j_stk (st' := [.null]) rfl ?_
    refine j_astoreN (lv' := [(5, .null), (0, .ref (ad x0)), (1, .int x1), (2, .int x2), (3, .int x3), (4, .int x4)]) E dX5_mask_5 (by decide) rfl ?_
    refine j_aload_n E 1 rfl dX5_mask_7 rfl ?_
    refine j_iload_n E 3 rfl dX5_mask_8 rfl ?_
    obtain ⟨k5, hf⟩ := ck_spec hf
    obtain ⟨v6, e7, hf⟩ := bs hf
    refine j_callV (ci := 4) (b := x0) (As := [.int x2]) (rest := []) (v := (some (va_rf (v6.map ad)))) E (c_X5_gridAt l D ad cy h x0 x2 e7) (mcw E.1.2.2.2.2 uw_1_193 uw_1_190 uw_1_192 us_1_1 uw_1_1 rfl rfl hd_X5_gridAt ⟨by decide, by decide⟩) rfl k5 rfl rfl (Nat.le_of_ble_eq_true rfl) dX5_mask_9 ⟨Nat.zero_le _, Nat.zero_le _⟩ ?_
    rcases om_spec hf with ⟨rfl, hf⟩ | ⟨a8, rfl, hf⟩
    · refine j_stk (st' := [.null]) rfl ?_
      refine j_astoreN (lv' := [(6, .null), (5, .null), (0, .ref (ad x0)), (1, .int x1), (2, .int x2), (3, .int x3), (4, .int x4)]) E dX5_mask_12 (by decide) rfl ?_
      refine j_aloadN E 1 rfl dX5_mask_14 ?_
      refine j_ifnullN (tgt := 31) E dX5_mask_16 (by decide) ?_
      refine j_iconst (v := (-1)) E dX5_mask_31 (by decide) ?_
      cases hf
      exact j_iret E hr hlk dX5_mask_32
    · refine j_stk (st' := [.ref (ad a8)]) rfl ?_
      refine j_astore (lv' := [(6, .ref (ad a8)), (5, .null), (0, .ref (ad x0)), (1, .int x1), (2, .int x2), (3, .int x3), (4, .int x4)]) E dX5_mask_12 (by decide) rfl ?_
      refine j_aloadN E 1 rfl dX5_mask_14 ?_
      refine j_ifnullN (tgt := 31) E dX5_mask_16 (by decide) ?_
      refine j_iconst (v := (-1)) E dX5_mask_31 (by decide) ?_
      cases hf
      exact j_iret E hr hlk dX5_mask_32
  · refine j_stk (st' := [.ref (ad a4)]) rfl ?_
    refine j_astore (lv' := [(5, .ref (ad a4)), (0, .ref (ad x0)), (1, .int x1), (2, .int x2), (3, .int x3), (4, .int x4)]) E dX5_mask_5 (by decide) rfl ?_
    refine j_aload_n E 1 rfl dX5_mask_7 rfl ?_
    refine j_iload_n E 3 rfl dX5_mask_8 rfl ?_
    obtain ⟨k9, hf⟩ := ck_spec hf
    obtain ⟨v10, e11, hf⟩ := bs hf
    refine j_callV (ci := 4) (b := x0) (As := [.int x2]) (rest := []) (v := (some (va_rf (v10.map ad)))) E (c_X5_gridAt l D ad cy h x0 x2 e11) (mcw E.1.2.2.2.2 uw_1_193 uw_1_190 uw_1_192 us_1_1 uw_1_1 rfl rfl hd_X5_gridAt ⟨by decide, by decide⟩) rfl k9 rfl rfl (Nat.le_of_ble_eq_true rfl) dX5_mask_9 ⟨Nat.zero_le _, Nat.zero_le _⟩ ?_
    rcases om_spec hf with ⟨rfl, hf⟩ | ⟨a12, rfl, hf⟩
    · refine j_stk (st' := [.null]) rfl ?_
      refine j_astoreN (lv' := [(6, .null), (5, .ref (ad a4)), (0, .ref (ad x0)), (1, .int x1), (2, .int x2), (3, .int x3), (4, .int x4)]) E dX5_mask_12 (by decide) rfl ?_
      refine j_aload E 1 rfl dX5_mask_14 ?_
      refine j_ifnull E dX5_mask_16 ?_
      refine j_aloadN E 0 rfl dX5_mask_19 ?_
      refine j_ifnullN (tgt := 31) E dX5_mask_21 (by decide) ?_
      refine j_iconst (v := (-1)) E dX5_mask_31 (by decide) ?_
      cases hf
      exact j_iret E hr hlk dX5_mask_32
    · refine j_stk (st' := [.ref (ad a12)]) rfl ?_
      refine j_astore (lv' := [(6, .ref (ad a12)), (5, .ref (ad a4)), (0, .ref (ad x0)), (1, .int x1), (2, .int x2), (3, .int x3), (4, .int x4)]) E dX5_mask_12 (by decide) rfl ?_
      refine j_aload E 1 rfl dX5_mask_14 ?_
      refine j_ifnull E dX5_mask_16 ?_
      refine j_aload E 0 rfl dX5_mask_19 ?_
      refine j_ifnull E dX5_mask_21 ?_
      refine j_iload_n E 5 rfl dX5_mask_24 rfl ?_
      obtain ⟨v13, e14, hf⟩ := bs hf
      refine j_callS (As := [.int x3]) (rest := []) (v := (some (.int v13))) E (c_X5_isSlot l D ad cy h x3 e14) (mcs E.1.2.2.2.2 uw_1_132 uw_1_130 uw_1_131 uw_1_1 rfl rfl hd_X5_isSlot ⟨by decide, by decide⟩) rfl rfl (Nat.le_of_ble_eq_true rfl) dX5_mask_25 ⟨Nat.zero_le _, Nat.zero_le _⟩ ?_
      refine j_stk (st' := [.int v13]) rfl ?_
      refine j_if_ne (tgt := 33) E dX5_mask_28 (by decide) (fun z15 => ?_) (fun z15 => ?_)
      · have hf := ifn hf z15
        refine j_aload E 1 rfl dX5_mask_33 ?_
        refine j_aload E 0 rfl dX5_mask_35 ?_
        obtain ⟨k16, hf⟩ := ck_spec hf
        obtain ⟨v17, e18, hf⟩ := bs hf
        refine j_callV (ci := 1) (b := a4) (As := [.ref (ad a12)]) (rest := []) (v := (some (.int v17))) E (c_X2_hasSizeOf l D ad cy h a4 a12 e18) (mcw E.1.2.2.2.2 uw_2_64 uw_2_61 uw_2_62 uw_2_63 uw_1_4 rfl rfl hd_X2_hasSizeOf ⟨by decide, by decide⟩) rfl k16 rfl rfl (Nat.le_of_ble_eq_true rfl) dX5_mask_37 ⟨Nat.zero_le _, Nat.zero_le _⟩ ?_
        refine j_stk (st' := [.int v17]) rfl ?_
        refine j_if_ne (tgt := 46) E dX5_mask_40 (by decide) (fun z19 => ?_) (fun z19 => ?_)
        · have hf := ifn hf z19
          refine j_aload_n E 2 rfl dX5_mask_46 rfl ?_
          obtain ⟨v20, ev20, hf⟩ := bs hf
          refine j_getR (ci := 4) (k0 := 3) (T := TX5) (N := 6) E (mI inUX5) rfl (by decide) (mU uw_1_110) ev20 dX5_mask_47 ?_
          refine j_aload E 1 rfl dX5_mask_50 ?_
          refine j_aload E 0 rfl dX5_mask_52 ?_
          refine j_iload E 6 rfl dX5_mask_54 ?_
          obtain ⟨k21, hf⟩ := ck_spec hf
          obtain ⟨h22, e23, hf⟩ := bs hf
          refine j_callV (ci := 1) (b := v20) (As := [.ref (ad a4), .ref (ad a12), .int x4]) (rest := []) (v := none) E (c_X2_becomeMasked l D ad cy h v20 a4 a12 x4 e23) (mcw E.1.2.2.2.2 uw_2_98 uw_2_95 uw_2_96 uw_2_97 uw_1_4 rfl rfl hd_X2_becomeMasked ⟨by decide, by decide⟩) rfl k21 rfl rfl (Nat.le_of_ble_eq_true rfl) dX5_mask_56 ⟨Nat.zero_le _, Nat.zero_le _⟩ ?_
          refine j_stk (st' := []) rfl ?_
          refine j_aload_n E 2 rfl dX5_mask_59 rfl ?_
          refine j_iload_n E 5 rfl dX5_mask_60 rfl ?_
          obtain ⟨k24, hf⟩ := ck_spec hf
          obtain ⟨⟨h25, v26⟩, e27, hf⟩ := bs hf
          refine j_callV (ci := 4) (b := x0) (As := [.int x3]) (rest := []) (v := (some (.int v26))) E (c_X5_putDraft l D ad cy h22 x0 x3 e27) (mcw E.1.2.2.2.2 uw_1_143 uw_1_140 uw_1_142 us_1_0 uw_1_1 rfl rfl hd_X5_putDraft ⟨by decide, by decide⟩) rfl k24 rfl rfl (Nat.le_of_ble_eq_true rfl) dX5_mask_61 ⟨Nat.zero_le _, Nat.zero_le _⟩ ?_
          refine j_stk (st' := [.int v26]) rfl ?_
          cases hf
          exact j_iret E hr hlk dX5_mask_64
        · have hf := ifp hf z19
          refine j_bipush (v := (-3)) E dX5_mask_43 (by decide) ?_
          cases hf
          exact j_iret E hr hlk dX5_mask_45
      · have hf := ifp hf z15
        refine j_iconst (v := (-1)) E dX5_mask_31 (by decide) ?_
        cases hf
        exact j_iret E hr hlk dX5_mask_32
noncomputable def f_X5_turn (h : HP) (x0 : Nat) (x1 : Int32) (x2 : Int32) : Option (HP × Int32) :=
  ck 4 h x0 <|
  (f_X5_gridAt h x0 x1).bind fun v2 =>
  om v2 (
    some (h, (-1))
  ) fun a4 =>
    (f_X5_isSlot x2).bind fun v5 =>
    if v5 = 0 then (
      some (h, (-1))
    ) else (
      (gR 4 h x0 3).bind fun v8 =>
      ck 1 h v8 <|
      (f_X2_becomeTurned h v8 a4).bind fun h10 =>
      ck 4 h10 x0 <|
      (f_X5_putDraft h10 x0 x2).bind fun (h13, v14) =>
      some (h13, v14)
    )
abbrev rmX5_turn : Room := { frames := 4, cells := 0, slots := 0, locals := 86 }
theorem hd_X5_turn : yX5_turn.cls = RX5 ∧ yX5_turn.cls ≠ "java/lang/invoke/MethodHandle" ∧ yX5_turn.cls ≠ "java/lang/invoke/VarHandle" ∧ (parseMethodDescriptor yX5_turn.desc).map (fun d => d.parameters.length) = some 2 := by decide +kernel
set_option maxRecDepth 100000 in
set_option maxHeartbeats 4000000 in
theorem c_X5_turn (l : Launch) (D : va_G) (ad : Nat → Nat) (cy : Nat → ClassId) (h : HP) (x0 : Nat) (x1 : Int32) (x2 : Int32) {h' : HP} {r : Int32} (hf : f_X5_turn h x0 x1 x2 = some (h', r)) : Met l yX5_turn (wsM yX5_turn cX5_turn 4 (some .int)) rmX5_turn (va_Pc [.ref (ad x0), .int x1, .int x2] (PW D ad cy h)) (QV D ad cy (some (.int r)) h') 0 0 (Aw ad) := by
  refine met_of (own := RX5) (lv := [(0, .ref (ad x0)), (1, .int x1), (2, .int x2)]) (by decide) rfl (Nat.le_of_ble_eq_true rfl) rfl (fun p e s m args below meth c E hr hlk => ?_)
  unfold f_X5_turn at hf
  refine j_aload_n E 0 rfl dX5_turn_0 rfl ?_
  refine j_iload_n E 1 rfl dX5_turn_1 rfl ?_
  obtain ⟨k1, hf⟩ := ck_spec hf
  obtain ⟨v2, e3, hf⟩ := bs hf
  refine j_callV (ci := 4) (b := x0) (As := [.int x1]) (rest := []) (v := (some (va_rf (v2.map ad)))) E (c_X5_gridAt l D ad cy h x0 x1 e3) (mcw E.1.2.2.2.2 uw_1_193 uw_1_190 uw_1_192 us_1_1 uw_1_1 rfl rfl hd_X5_gridAt ⟨by decide, by decide⟩) rfl k1 rfl rfl (Nat.le_of_ble_eq_true rfl) dX5_turn_2 ⟨Nat.zero_le _, Nat.zero_le _⟩ ?_
  rcases om_spec hf with ⟨rfl, hf⟩ | ⟨a4, rfl, hf⟩
  · refine j_stk (st' := [.null]) rfl ?_
    refine j_astore_nN (lv' := [(3, .null), (0, .ref (ad x0)), (1, .int x1), (2, .int x2)]) E dX5_turn_5 rfl (by decide) rfl ?_
    refine j_aload_nN E 0 rfl dX5_turn_6 rfl ?_
    refine j_ifnullN (tgt := 17) E dX5_turn_7 (by decide) ?_
    refine j_iconst (v := (-1)) E dX5_turn_17 (by decide) ?_
    cases hf
    exact j_iret E hr hlk dX5_turn_18
  · refine j_stk (st' := [.ref (ad a4)]) rfl ?_
    refine j_astore_n (lv' := [(3, .ref (ad a4)), (0, .ref (ad x0)), (1, .int x1), (2, .int x2)]) E dX5_turn_5 rfl (by decide) rfl ?_
    refine j_aload_n E 0 rfl dX5_turn_6 rfl ?_
    refine j_ifnull E dX5_turn_7 ?_
    refine j_iload_n E 3 rfl dX5_turn_10 rfl ?_
    obtain ⟨v5, e6, hf⟩ := bs hf
    refine j_callS (As := [.int x2]) (rest := []) (v := (some (.int v5))) E (c_X5_isSlot l D ad cy h x2 e6) (mcs E.1.2.2.2.2 uw_1_132 uw_1_130 uw_1_131 uw_1_1 rfl rfl hd_X5_isSlot ⟨by decide, by decide⟩) rfl rfl (Nat.le_of_ble_eq_true rfl) dX5_turn_11 ⟨Nat.zero_le _, Nat.zero_le _⟩ ?_
    refine j_stk (st' := [.int v5]) rfl ?_
    refine j_if_ne (tgt := 19) E dX5_turn_14 (by decide) (fun z7 => ?_) (fun z7 => ?_)
    · have hf := ifn hf z7
      refine j_aload_n E 1 rfl dX5_turn_19 rfl ?_
      obtain ⟨v8, ev8, hf⟩ := bs hf
      refine j_getR (ci := 4) (k0 := 3) (T := TX5) (N := 6) E (mI inUX5) rfl (by decide) (mU uw_1_110) ev8 dX5_turn_20 ?_
      refine j_aload_n E 0 rfl dX5_turn_23 rfl ?_
      obtain ⟨k9, hf⟩ := ck_spec hf
      obtain ⟨h10, e11, hf⟩ := bs hf
      refine j_callV (ci := 1) (b := v8) (As := [.ref (ad a4)]) (rest := []) (v := none) E (c_X2_becomeTurned l D ad cy h v8 a4 e11) (mcw E.1.2.2.2.2 uw_2_106 uw_2_103 uw_2_104 uw_2_105 uw_1_4 rfl rfl hd_X2_becomeTurned ⟨by decide, by decide⟩) rfl k9 rfl rfl (Nat.le_of_ble_eq_true rfl) dX5_turn_24 ⟨Nat.zero_le _, Nat.zero_le _⟩ ?_
      refine j_stk (st' := []) rfl ?_
      refine j_aload_n E 1 rfl dX5_turn_27 rfl ?_
      refine j_iload_n E 3 rfl dX5_turn_28 rfl ?_
      obtain ⟨k12, hf⟩ := ck_spec hf
      obtain ⟨⟨h13, v14⟩, e15, hf⟩ := bs hf
      refine j_callV (ci := 4) (b := x0) (As := [.int x2]) (rest := []) (v := (some (.int v14))) E (c_X5_putDraft l D ad cy h10 x0 x2 e15) (mcw E.1.2.2.2.2 uw_1_143 uw_1_140 uw_1_142 us_1_0 uw_1_1 rfl rfl hd_X5_putDraft ⟨by decide, by decide⟩) rfl k12 rfl rfl (Nat.le_of_ble_eq_true rfl) dX5_turn_29 ⟨Nat.zero_le _, Nat.zero_le _⟩ ?_
      refine j_stk (st' := [.int v14]) rfl ?_
      cases hf
      exact j_iret E hr hlk dX5_turn_32
    · have hf := ifp hf z7
      refine j_iconst (v := (-1)) E dX5_turn_17 (by decide) ?_
      cases hf
      exact j_iret E hr hlk dX5_turn_18
noncomputable def f_X5_rows (h : HP) (x0 : Nat) (x1 : Int32) (x2 : Int32) : Option (HP × Int32) :=
  ck 4 h x0 <|
  (f_X5_gridAt h x0 x1).bind fun v2 =>
  om v2 (
    some (h, (-1))
  ) fun a4 =>
    (f_X5_isSlot x2).bind fun v5 =>
    if v5 = 0 then (
      some (h, (-1))
    ) else (
      (gR 4 h x0 4).bind fun v8 =>
      (gI 2 h v8 0).bind fun v9 =>
      if v9 ≤ 0 then (
        (gR 4 h x0 4).bind fun v11 =>
        ck 2 h v11 <|
        (f_X3_clear h v11).bind fun h13 =>
        some (h13, (-3))
      ) else (
        (gR 4 h x0 4).bind fun v15 =>
        (gI 1 h a4 0).bind fun v16 =>
        ck 2 h v15 <|
        (f_X3_areBelow h v15 v16).bind fun v18 =>
        if v18 = 0 then (
          (gR 4 h x0 4).bind fun v21 =>
          ck 2 h v21 <|
          (f_X3_clear h v21).bind fun h23 =>
          some (h23, (-3))
        ) else (
          (gR 4 h x0 3).bind fun v25 =>
          (gR 4 h x0 4).bind fun v26 =>
          ck 1 h v25 <|
          (f_X2_becomeRows h v25 a4 v26).bind fun h28 =>
          (gR 4 h28 x0 4).bind fun v30 =>
          ck 2 h28 v30 <|
          (f_X3_clear h28 v30).bind fun h32 =>
          ck 4 h32 x0 <|
          (f_X5_putDraft h32 x0 x2).bind fun (h35, v36) =>
          some (h35, v36)
        )
      )
    )
abbrev rmX5_rows : Room := { frames := 5, cells := 0, slots := 0, locals := 117 }
theorem hd_X5_rows : yX5_rows.cls = RX5 ∧ yX5_rows.cls ≠ "java/lang/invoke/MethodHandle" ∧ yX5_rows.cls ≠ "java/lang/invoke/VarHandle" ∧ (parseMethodDescriptor yX5_rows.desc).map (fun d => d.parameters.length) = some 2 := by decide +kernel
set_option maxRecDepth 100000 in
set_option maxHeartbeats 4000000 in
theorem c_X5_rows (l : Launch) (D : va_G) (ad : Nat → Nat) (cy : Nat → ClassId) (h : HP) (x0 : Nat) (x1 : Int32) (x2 : Int32) {h' : HP} {r : Int32} (hf : f_X5_rows h x0 x1 x2 = some (h', r)) : Met l yX5_rows (wsM yX5_rows cX5_rows 5 (some .int)) rmX5_rows (va_Pc [.ref (ad x0), .int x1, .int x2] (PW D ad cy h)) (QV D ad cy (some (.int r)) h') 0 0 (Aw ad) := by
  refine met_of (own := RX5) (lv := [(0, .ref (ad x0)), (1, .int x1), (2, .int x2)]) (by decide) rfl (Nat.le_of_ble_eq_true rfl) rfl (fun p e s m args below meth c E hr hlk => ?_)
  unfold f_X5_rows at hf
  refine j_aload_n E 0 rfl dX5_rows_0 rfl ?_
  refine j_iload_n E 1 rfl dX5_rows_1 rfl ?_
  obtain ⟨k1, hf⟩ := ck_spec hf
  obtain ⟨v2, e3, hf⟩ := bs hf
  refine j_callV (ci := 4) (b := x0) (As := [.int x1]) (rest := []) (v := (some (va_rf (v2.map ad)))) E (c_X5_gridAt l D ad cy h x0 x1 e3) (mcw E.1.2.2.2.2 uw_1_193 uw_1_190 uw_1_192 us_1_1 uw_1_1 rfl rfl hd_X5_gridAt ⟨by decide, by decide⟩) rfl k1 rfl rfl (Nat.le_of_ble_eq_true rfl) dX5_rows_2 ⟨Nat.zero_le _, Nat.zero_le _⟩ ?_
  rcases om_spec hf with ⟨rfl, hf⟩ | ⟨a4, rfl, hf⟩
  · refine j_stk (st' := [.null]) rfl ?_
    refine j_astore_nN (lv' := [(3, .null), (0, .ref (ad x0)), (1, .int x1), (2, .int x2)]) E dX5_rows_5 rfl (by decide) rfl ?_
    refine j_aload_nN E 0 rfl dX5_rows_6 rfl ?_
    refine j_ifnullN (tgt := 17) E dX5_rows_7 (by decide) ?_
    refine j_iconst (v := (-1)) E dX5_rows_17 (by decide) ?_
    cases hf
    exact j_iret E hr hlk dX5_rows_18
  · refine j_stk (st' := [.ref (ad a4)]) rfl ?_
    refine j_astore_n (lv' := [(3, .ref (ad a4)), (0, .ref (ad x0)), (1, .int x1), (2, .int x2)]) E dX5_rows_5 rfl (by decide) rfl ?_
    refine j_aload_n E 0 rfl dX5_rows_6 rfl ?_
    refine j_ifnull E dX5_rows_7 ?_
    refine j_iload_n E 3 rfl dX5_rows_10 rfl ?_
    obtain ⟨v5, e6, hf⟩ := bs hf
    refine j_callS (As := [.int x2]) (rest := []) (v := (some (.int v5))) E (c_X5_isSlot l D ad cy h x2 e6) (mcs E.1.2.2.2.2 uw_1_132 uw_1_130 uw_1_131 uw_1_1 rfl rfl hd_X5_isSlot ⟨by decide, by decide⟩) rfl rfl (Nat.le_of_ble_eq_true rfl) dX5_rows_11 ⟨Nat.zero_le _, Nat.zero_le _⟩ ?_
    refine j_stk (st' := [.int v5]) rfl ?_
    refine j_if_ne (tgt := 19) E dX5_rows_14 (by decide) (fun z7 => ?_) (fun z7 => ?_)
    · have hf := ifn hf z7
      refine j_aload_n E 1 rfl dX5_rows_19 rfl ?_
      obtain ⟨v8, ev8, hf⟩ := bs hf
      refine j_getR (ci := 4) (k0 := 4) (T := TX5) (N := 6) E (mI inUX5) rfl (by decide) (mU uw_1_111) ev8 dX5_rows_20 ?_
      obtain ⟨v9, ev9, hf⟩ := bs hf
      refine j_getI (ci := 2) (k0 := 0) (T := TX3) (N := 2) E (mI inUX3) rfl (by decide) (mU uw_1_98) ev9 dX5_rows_23 ?_
      refine j_if_le (tgt := 47) E dX5_rows_26 (by decide) (fun z10 => ?_) (fun z10 => ?_)
      · have hf := ifp hf z10
        refine j_iconst (v := 0) E dX5_rows_47 (by decide) ?_
        refine j_istore (lv' := [(4, .int 0), (3, .ref (ad a4)), (0, .ref (ad x0)), (1, .int x1), (2, .int x2)]) E dX5_rows_48 (by decide) rfl ?_
        refine j_iload E 0 rfl dX5_rows_50 ?_
        refine j_if_eq (tgt := 67) E dX5_rows_52 (by decide) (fun _ => ?_) (fun z => absurd (by decide) z)
        refine j_aload_n E 2 rfl dX5_rows_67 rfl ?_
        obtain ⟨v11, ev11, hf⟩ := bs hf
        refine j_getR (ci := 4) (k0 := 4) (T := TX5) (N := 6) E (mI inUX5) rfl (by decide) (mU uw_1_111) ev11 dX5_rows_68 ?_
        obtain ⟨k12, hf⟩ := ck_spec hf
        obtain ⟨h13, e14, hf⟩ := bs hf
        refine j_callV (ci := 2) (b := v11) (As := []) (rest := []) (v := none) E (c_X3_clear l D ad cy h v11 e14) (mcw E.1.2.2.2.2 uw_2_123 uw_2_120 uw_2_121 uw_2_122 uw_1_5 rfl rfl hd_X3_clear ⟨by decide, by decide⟩) rfl k12 rfl rfl (Nat.le_of_ble_eq_true rfl) dX5_rows_71 ⟨Nat.zero_le _, Nat.zero_le _⟩ ?_
        refine j_stk (st' := []) rfl ?_
        refine j_iload E 0 rfl dX5_rows_74 ?_
        refine j_if_eq (tgt := 87) E dX5_rows_76 (by decide) (fun _ => ?_) (fun z => absurd (by decide) z)
        refine j_bipush (v := (-3)) E dX5_rows_87 (by decide) ?_
        cases hf
        exact j_iret E hr hlk dX5_rows_89
      · have hf := ifn hf z10
        refine j_aload_n E 1 rfl dX5_rows_29 rfl ?_
        obtain ⟨v15, ev15, hf⟩ := bs hf
        refine j_getR (ci := 4) (k0 := 4) (T := TX5) (N := 6) E (mI inUX5) rfl (by decide) (mU uw_1_111) ev15 dX5_rows_30 ?_
        refine j_aload_n E 0 rfl dX5_rows_33 rfl ?_
        obtain ⟨v16, ev16, hf⟩ := bs hf
        refine j_getI (ci := 1) (k0 := 0) (T := TX2) (N := 4) E (mI inUX2) rfl (by decide) (mU uw_1_76) ev16 dX5_rows_34 ?_
        obtain ⟨k17, hf⟩ := ck_spec hf
        obtain ⟨v18, e19, hf⟩ := bs hf
        refine j_callV (ci := 2) (b := v15) (As := [.int v16]) (rest := []) (v := (some (.int v18))) E (c_X3_areBelow l D ad cy h v15 v16 e19) (mcw E.1.2.2.2.2 uw_2_114 uw_2_111 uw_2_112 uw_2_113 uw_1_5 rfl rfl hd_X3_areBelow ⟨by decide, by decide⟩) rfl k17 rfl rfl (Nat.le_of_ble_eq_true rfl) dX5_rows_37 ⟨Nat.zero_le _, Nat.zero_le _⟩ ?_
        refine j_stk (st' := [.int v18]) rfl ?_
        refine j_if_eq (tgt := 47) E dX5_rows_40 (by decide) (fun z20 => ?_) (fun z20 => ?_)
        · have hf := ifp hf z20
          refine j_iconst (v := 0) E dX5_rows_47 (by decide) ?_
          refine j_istore (lv' := [(4, .int 0), (3, .ref (ad a4)), (0, .ref (ad x0)), (1, .int x1), (2, .int x2)]) E dX5_rows_48 (by decide) rfl ?_
          refine j_iload E 0 rfl dX5_rows_50 ?_
          refine j_if_eq (tgt := 67) E dX5_rows_52 (by decide) (fun _ => ?_) (fun z => absurd (by decide) z)
          refine j_aload_n E 2 rfl dX5_rows_67 rfl ?_
          obtain ⟨v21, ev21, hf⟩ := bs hf
          refine j_getR (ci := 4) (k0 := 4) (T := TX5) (N := 6) E (mI inUX5) rfl (by decide) (mU uw_1_111) ev21 dX5_rows_68 ?_
          obtain ⟨k22, hf⟩ := ck_spec hf
          obtain ⟨h23, e24, hf⟩ := bs hf
          refine j_callV (ci := 2) (b := v21) (As := []) (rest := []) (v := none) E (c_X3_clear l D ad cy h v21 e24) (mcw E.1.2.2.2.2 uw_2_123 uw_2_120 uw_2_121 uw_2_122 uw_1_5 rfl rfl hd_X3_clear ⟨by decide, by decide⟩) rfl k22 rfl rfl (Nat.le_of_ble_eq_true rfl) dX5_rows_71 ⟨Nat.zero_le _, Nat.zero_le _⟩ ?_
          refine j_stk (st' := []) rfl ?_
          refine j_iload E 0 rfl dX5_rows_74 ?_
          refine j_if_eq (tgt := 87) E dX5_rows_76 (by decide) (fun _ => ?_) (fun z => absurd (by decide) z)
          refine j_bipush (v := (-3)) E dX5_rows_87 (by decide) ?_
          cases hf
          exact j_iret E hr hlk dX5_rows_89
        · have hf := ifn hf z20
          refine j_iconst (v := 1) E dX5_rows_43 (by decide) ?_
          refine j_goto (tgt := 48) E dX5_rows_44 (by decide) ?_
          refine j_istore (lv' := [(4, .int 1), (3, .ref (ad a4)), (0, .ref (ad x0)), (1, .int x1), (2, .int x2)]) E dX5_rows_48 (by decide) rfl ?_
          refine j_iload E 0 rfl dX5_rows_50 ?_
          refine j_if_eq (tgt := 67) E dX5_rows_52 (by decide) (fun z => absurd z (by decide)) (fun _ => ?_)
          refine j_aload_n E 2 rfl dX5_rows_55 rfl ?_
          obtain ⟨v25, ev25, hf⟩ := bs hf
          refine j_getR (ci := 4) (k0 := 3) (T := TX5) (N := 6) E (mI inUX5) rfl (by decide) (mU uw_1_110) ev25 dX5_rows_56 ?_
          refine j_aload_n E 1 rfl dX5_rows_59 rfl ?_
          refine j_aload_n E 2 rfl dX5_rows_60 rfl ?_
          obtain ⟨v26, ev26, hf⟩ := bs hf
          refine j_getR (ci := 4) (k0 := 4) (T := TX5) (N := 6) E (mI inUX5) rfl (by decide) (mU uw_1_111) ev26 dX5_rows_61 ?_
          obtain ⟨k27, hf⟩ := ck_spec hf
          obtain ⟨h28, e29, hf⟩ := bs hf
          refine j_callV (ci := 1) (b := v25) (As := [.ref (ad a4), .ref (ad v26)]) (rest := []) (v := none) E (c_X2_becomeRows l D ad cy h v25 a4 v26 e29) (mcw E.1.2.2.2.2 uw_2_118 uw_2_115 uw_2_116 uw_2_117 uw_1_4 rfl rfl hd_X2_becomeRows ⟨by decide, by decide⟩) rfl k27 rfl rfl (Nat.le_of_ble_eq_true rfl) dX5_rows_64 ⟨Nat.zero_le _, Nat.zero_le _⟩ ?_
          refine j_stk (st' := []) rfl ?_
          refine j_aload_n E 2 rfl dX5_rows_67 rfl ?_
          obtain ⟨v30, ev30, hf⟩ := bs hf
          refine j_getR (ci := 4) (k0 := 4) (T := TX5) (N := 6) E (mI inUX5) rfl (by decide) (mU uw_1_111) ev30 dX5_rows_68 ?_
          obtain ⟨k31, hf⟩ := ck_spec hf
          obtain ⟨h32, e33, hf⟩ := bs hf
          refine j_callV (ci := 2) (b := v30) (As := []) (rest := []) (v := none) E (c_X3_clear l D ad cy h28 v30 e33) (mcw E.1.2.2.2.2 uw_2_123 uw_2_120 uw_2_121 uw_2_122 uw_1_5 rfl rfl hd_X3_clear ⟨by decide, by decide⟩) rfl k31 rfl rfl (Nat.le_of_ble_eq_true rfl) dX5_rows_71 ⟨Nat.zero_le _, Nat.zero_le _⟩ ?_
          refine j_stk (st' := []) rfl ?_
          refine j_iload E 0 rfl dX5_rows_74 ?_
          refine j_if_eq (tgt := 87) E dX5_rows_76 (by decide) (fun z => absurd z (by decide)) (fun _ => ?_)
          refine j_aload_n E 2 rfl dX5_rows_79 rfl ?_
          refine j_iload_n E 4 rfl dX5_rows_80 rfl ?_
          obtain ⟨k34, hf⟩ := ck_spec hf
          obtain ⟨⟨h35, v36⟩, e37, hf⟩ := bs hf
          refine j_callV (ci := 4) (b := x0) (As := [.int x2]) (rest := []) (v := (some (.int v36))) E (c_X5_putDraft l D ad cy h32 x0 x2 e37) (mcw E.1.2.2.2.2 uw_1_143 uw_1_140 uw_1_142 us_1_0 uw_1_1 rfl rfl hd_X5_putDraft ⟨by decide, by decide⟩) rfl k34 rfl rfl (Nat.le_of_ble_eq_true rfl) dX5_rows_81 ⟨Nat.zero_le _, Nat.zero_le _⟩ ?_
          refine j_stk (st' := [.int v36]) rfl ?_
          refine j_goto (tgt := 89) E dX5_rows_84 (by decide) ?_
          cases hf
          exact j_iret E hr hlk dX5_rows_89
    · have hf := ifp hf z7
      refine j_iconst (v := (-1)) E dX5_rows_17 (by decide) ?_
      cases hf
      exact j_iret E hr hlk dX5_rows_18
