noncomputable def f_X5_slopes (h : HP) (x0 : Nat) (x1 : Int32) (x2 : Int32) (x3 : Int32) (x4 : Int32) (x5 : Int32) : Option (HP × Int32) :=
  ck 4 h x0 <|
  (f_X5_gridAt h x0 x1).bind fun v2 =>
  om v2 (
    ck 4 h x0 <|
    (f_X5_gridAt h x0 x2).bind fun v6 =>
    om v6 (
      ck 4 h x0 <|
      (f_X5_gridAt h x0 x3).bind fun v10 =>
      om v10 (
        some (h, (-1))
      ) fun a12 =>
        some (h, (-1))
    ) fun a8 =>
      ck 4 h x0 <|
      (f_X5_gridAt h x0 x3).bind fun v14 =>
      om v14 (
        some (h, (-1))
      ) fun a16 =>
        some (h, (-1))
  ) fun a4 =>
    ck 4 h x0 <|
    (f_X5_gridAt h x0 x2).bind fun v18 =>
    om v18 (
      ck 4 h x0 <|
      (f_X5_gridAt h x0 x3).bind fun v22 =>
      om v22 (
        some (h, (-1))
      ) fun a24 =>
        some (h, (-1))
    ) fun a20 =>
      ck 4 h x0 <|
      (f_X5_gridAt h x0 x3).bind fun v26 =>
      om v26 (
        some (h, (-1))
      ) fun a28 =>
        (f_X5_isSlot x4).bind fun v29 =>
        if v29 = 0 then (
          some (h, (-1))
        ) else (
          (gI 1 h a4 1).bind fun v32 =>
          (gI 1 h a20 0).bind fun v33 =>
          if v32 = v33 then (
            (gI 1 h a28 0).bind fun v35 =>
            (gI 1 h a4 0).bind fun v36 =>
            if v35 = v36 then (
              (gI 1 h a28 1).bind fun v38 =>
              (gI 1 h a20 1).bind fun v39 =>
              if v38 = v39 then (
                if x5 = 0 then (
                  (gR 4 h x0 3).bind fun v42 =>
                  ck 1 h v42 <|
                  (f_X2_becomeSlopesOfRight h v42 a4 a20 a28).bind fun h44 =>
                  ck 4 h44 x0 <|
                  (f_X5_putDraft h44 x0 x4).bind fun (h47, v48) =>
                  some (h47, v48)
                ) else (
                  (gR 4 h x0 3).bind fun v50 =>
                  ck 1 h v50 <|
                  (f_X2_becomeSlopesOfLeft h v50 a4 a20 a28).bind fun h52 =>
                  ck 4 h52 x0 <|
                  (f_X5_putDraft h52 x0 x4).bind fun (h55, v56) =>
                  some (h55, v56)
                )
              ) else (
                some (h, (-3))
              )
            ) else (
              some (h, (-3))
            )
          ) else (
            some (h, (-3))
          )
        )
abbrev rmX5_slopes : Room := { frames := 4, cells := 0, slots := 0, locals := 93 }
theorem hd_X5_slopes : yX5_slopes.cls = RX5 ∧ yX5_slopes.cls ≠ "java/lang/invoke/MethodHandle" ∧ yX5_slopes.cls ≠ "java/lang/invoke/VarHandle" ∧ (parseMethodDescriptor yX5_slopes.desc).map (fun d => d.parameters.length) = some 5 := by decide +kernel
set_option maxRecDepth 100000 in
set_option maxHeartbeats 4000000 in
theorem c_X5_slopes (l : Launch) (D : va_G) (ad : Nat → Nat) (cy : Nat → ClassId) (h : HP) (x0 : Nat) (x1 : Int32) (x2 : Int32) (x3 : Int32) (x4 : Int32) (x5 : Int32) {h' : HP} {r : Int32} (hf : f_X5_slopes h x0 x1 x2 x3 x4 x5 = some (h', r)) : Met l yX5_slopes (wsM yX5_slopes cX5_slopes 9 (some .int)) rmX5_slopes (va_Pc [.ref (ad x0), .int x1, .int x2, .int x3, .int x4, .int x5] (PW D ad cy h)) (QV D ad cy (some (.int r)) h') 0 0 (Aw ad) := by
  refine met_of (own := RX5) (lv := [(0, .ref (ad x0)), (1, .int x1), (2, .int x2), (3, .int x3), (4, .int x4), (5, .int x5)]) (by decide) rfl (Nat.le_of_ble_eq_true rfl) rfl (fun p e s m args below meth c E hr hlk => ?_)
  unfold f_X5_slopes at hf
  refine j_aload_n E 0 rfl dX5_slopes_0 rfl ?_
  refine j_iload_n E 1 rfl dX5_slopes_1 rfl ?_
  obtain ⟨k1, hf⟩ := ck_spec hf
  obtain ⟨v2, e3, hf⟩ := bs hf
  refine j_callV (ci := 4) (b := x0) (As := [.int x1]) (rest := []) (v := (some (va_rf (v2.map ad)))) E (c_X5_gridAt l D ad cy h x0 x1 e3) (mcw E.1.2.2.2.2 uw_1_193 uw_1_190 uw_1_192 us_1_1 uw_1_1 rfl rfl hd_X5_gridAt ⟨by decide, by decide⟩) rfl k1 rfl rfl (Nat.le_of_ble_eq_true rfl) dX5_slopes_2 ⟨Nat.zero_le _, Nat.zero_le _⟩ ?_
  rcases om_spec hf with ⟨rfl, hf⟩ | ⟨a4, rfl, hf⟩
  · refine j_stk (st' := [.null]) rfl ?_
    refine j_astoreN (lv' := [(6, .null), (0, .ref (ad x0)), (1, .int x1), (2, .int x2), (3, .int x3), (4, .int x4), (5, .int x5)]) E dX5_slopes_5 (by decide) rfl ?_
    refine j_aload_n E 1 rfl dX5_slopes_7 rfl ?_
    refine j_iload_n E 3 rfl dX5_slopes_8 rfl ?_
    obtain ⟨k5, hf⟩ := ck_spec hf
    obtain ⟨v6, e7, hf⟩ := bs hf
    refine j_callV (ci := 4) (b := x0) (As := [.int x2]) (rest := []) (v := (some (va_rf (v6.map ad)))) E (c_X5_gridAt l D ad cy h x0 x2 e7) (mcw E.1.2.2.2.2 uw_1_193 uw_1_190 uw_1_192 us_1_1 uw_1_1 rfl rfl hd_X5_gridAt ⟨by decide, by decide⟩) rfl k5 rfl rfl (Nat.le_of_ble_eq_true rfl) dX5_slopes_9 ⟨Nat.zero_le _, Nat.zero_le _⟩ ?_
    rcases om_spec hf with ⟨rfl, hf⟩ | ⟨a8, rfl, hf⟩
    · refine j_stk (st' := [.null]) rfl ?_
      refine j_astoreN (lv' := [(7, .null), (6, .null), (0, .ref (ad x0)), (1, .int x1), (2, .int x2), (3, .int x3), (4, .int x4), (5, .int x5)]) E dX5_slopes_12 (by decide) rfl ?_
      refine j_aload_n E 2 rfl dX5_slopes_14 rfl ?_
      refine j_iload_n E 5 rfl dX5_slopes_15 rfl ?_
      obtain ⟨k9, hf⟩ := ck_spec hf
      obtain ⟨v10, e11, hf⟩ := bs hf
      refine j_callV (ci := 4) (b := x0) (As := [.int x3]) (rest := []) (v := (some (va_rf (v10.map ad)))) E (c_X5_gridAt l D ad cy h x0 x3 e11) (mcw E.1.2.2.2.2 uw_1_193 uw_1_190 uw_1_192 us_1_1 uw_1_1 rfl rfl hd_X5_gridAt ⟨by decide, by decide⟩) rfl k9 rfl rfl (Nat.le_of_ble_eq_true rfl) dX5_slopes_16 ⟨Nat.zero_le _, Nat.zero_le _⟩ ?_
      rcases om_spec hf with ⟨rfl, hf⟩ | ⟨a12, rfl, hf⟩
      · refine j_stk (st' := [.null]) rfl ?_
        refine j_astoreN (lv' := [(8, .null), (7, .null), (6, .null), (0, .ref (ad x0)), (1, .int x1), (2, .int x2), (3, .int x3), (4, .int x4), (5, .int x5)]) E dX5_slopes_19 (by decide) rfl ?_
        refine j_aloadN E 2 rfl dX5_slopes_21 ?_
        refine j_ifnullN (tgt := 44) E dX5_slopes_23 (by decide) ?_
        refine j_iconst (v := (-1)) E dX5_slopes_44 (by decide) ?_
        cases hf
        exact j_iret E hr hlk dX5_slopes_45
      · refine j_stk (st' := [.ref (ad a12)]) rfl ?_
        refine j_astore (lv' := [(8, .ref (ad a12)), (7, .null), (6, .null), (0, .ref (ad x0)), (1, .int x1), (2, .int x2), (3, .int x3), (4, .int x4), (5, .int x5)]) E dX5_slopes_19 (by decide) rfl ?_
        refine j_aloadN E 2 rfl dX5_slopes_21 ?_
        refine j_ifnullN (tgt := 44) E dX5_slopes_23 (by decide) ?_
        refine j_iconst (v := (-1)) E dX5_slopes_44 (by decide) ?_
        cases hf
        exact j_iret E hr hlk dX5_slopes_45
    · refine j_stk (st' := [.ref (ad a8)]) rfl ?_
      refine j_astore (lv' := [(7, .ref (ad a8)), (6, .null), (0, .ref (ad x0)), (1, .int x1), (2, .int x2), (3, .int x3), (4, .int x4), (5, .int x5)]) E dX5_slopes_12 (by decide) rfl ?_
      refine j_aload_n E 2 rfl dX5_slopes_14 rfl ?_
      refine j_iload_n E 5 rfl dX5_slopes_15 rfl ?_
      obtain ⟨k13, hf⟩ := ck_spec hf
      obtain ⟨v14, e15, hf⟩ := bs hf
      refine j_callV (ci := 4) (b := x0) (As := [.int x3]) (rest := []) (v := (some (va_rf (v14.map ad)))) E (c_X5_gridAt l D ad cy h x0 x3 e15) (mcw E.1.2.2.2.2 uw_1_193 uw_1_190 uw_1_192 us_1_1 uw_1_1 rfl rfl hd_X5_gridAt ⟨by decide, by decide⟩) rfl k13 rfl rfl (Nat.le_of_ble_eq_true rfl) dX5_slopes_16 ⟨Nat.zero_le _, Nat.zero_le _⟩ ?_
      rcases om_spec hf with ⟨rfl, hf⟩ | ⟨a16, rfl, hf⟩
      · refine j_stk (st' := [.null]) rfl ?_
        refine j_astoreN (lv' := [(8, .null), (7, .ref (ad a8)), (6, .null), (0, .ref (ad x0)), (1, .int x1), (2, .int x2), (3, .int x3), (4, .int x4), (5, .int x5)]) E dX5_slopes_19 (by decide) rfl ?_
        refine j_aloadN E 2 rfl dX5_slopes_21 ?_
        refine j_ifnullN (tgt := 44) E dX5_slopes_23 (by decide) ?_
        refine j_iconst (v := (-1)) E dX5_slopes_44 (by decide) ?_
        cases hf
        exact j_iret E hr hlk dX5_slopes_45
      · refine j_stk (st' := [.ref (ad a16)]) rfl ?_
        refine j_astore (lv' := [(8, .ref (ad a16)), (7, .ref (ad a8)), (6, .null), (0, .ref (ad x0)), (1, .int x1), (2, .int x2), (3, .int x3), (4, .int x4), (5, .int x5)]) E dX5_slopes_19 (by decide) rfl ?_
        refine j_aloadN E 2 rfl dX5_slopes_21 ?_
        refine j_ifnullN (tgt := 44) E dX5_slopes_23 (by decide) ?_
        refine j_iconst (v := (-1)) E dX5_slopes_44 (by decide) ?_
        cases hf
        exact j_iret E hr hlk dX5_slopes_45
  · refine j_stk (st' := [.ref (ad a4)]) rfl ?_
    refine j_astore (lv' := [(6, .ref (ad a4)), (0, .ref (ad x0)), (1, .int x1), (2, .int x2), (3, .int x3), (4, .int x4), (5, .int x5)]) E dX5_slopes_5 (by decide) rfl ?_
    refine j_aload_n E 1 rfl dX5_slopes_7 rfl ?_
    refine j_iload_n E 3 rfl dX5_slopes_8 rfl ?_
    obtain ⟨k17, hf⟩ := ck_spec hf
    obtain ⟨v18, e19, hf⟩ := bs hf
    refine j_callV (ci := 4) (b := x0) (As := [.int x2]) (rest := []) (v := (some (va_rf (v18.map ad)))) E (c_X5_gridAt l D ad cy h x0 x2 e19) (mcw E.1.2.2.2.2 uw_1_193 uw_1_190 uw_1_192 us_1_1 uw_1_1 rfl rfl hd_X5_gridAt ⟨by decide, by decide⟩) rfl k17 rfl rfl (Nat.le_of_ble_eq_true rfl) dX5_slopes_9 ⟨Nat.zero_le _, Nat.zero_le _⟩ ?_
    rcases om_spec hf with ⟨rfl, hf⟩ | ⟨a20, rfl, hf⟩
    · refine j_stk (st' := [.null]) rfl ?_
      refine j_astoreN (lv' := [(7, .null), (6, .ref (ad a4)), (0, .ref (ad x0)), (1, .int x1), (2, .int x2), (3, .int x3), (4, .int x4), (5, .int x5)]) E dX5_slopes_12 (by decide) rfl ?_
      refine j_aload_n E 2 rfl dX5_slopes_14 rfl ?_
      refine j_iload_n E 5 rfl dX5_slopes_15 rfl ?_
      obtain ⟨k21, hf⟩ := ck_spec hf
      obtain ⟨v22, e23, hf⟩ := bs hf
      refine j_callV (ci := 4) (b := x0) (As := [.int x3]) (rest := []) (v := (some (va_rf (v22.map ad)))) E (c_X5_gridAt l D ad cy h x0 x3 e23) (mcw E.1.2.2.2.2 uw_1_193 uw_1_190 uw_1_192 us_1_1 uw_1_1 rfl rfl hd_X5_gridAt ⟨by decide, by decide⟩) rfl k21 rfl rfl (Nat.le_of_ble_eq_true rfl) dX5_slopes_16 ⟨Nat.zero_le _, Nat.zero_le _⟩ ?_
      rcases om_spec hf with ⟨rfl, hf⟩ | ⟨a24, rfl, hf⟩
      · refine j_stk (st' := [.null]) rfl ?_
        refine j_astoreN (lv' := [(8, .null), (7, .null), (6, .ref (ad a4)), (0, .ref (ad x0)), (1, .int x1), (2, .int x2), (3, .int x3), (4, .int x4), (5, .int x5)]) E dX5_slopes_19 (by decide) rfl ?_
        refine j_aload E 2 rfl dX5_slopes_21 ?_
        refine j_ifnull E dX5_slopes_23 ?_
        refine j_aloadN E 1 rfl dX5_slopes_26 ?_
        refine j_ifnullN (tgt := 44) E dX5_slopes_28 (by decide) ?_
        refine j_iconst (v := (-1)) E dX5_slopes_44 (by decide) ?_
        cases hf
        exact j_iret E hr hlk dX5_slopes_45
      · refine j_stk (st' := [.ref (ad a24)]) rfl ?_
        refine j_astore (lv' := [(8, .ref (ad a24)), (7, .null), (6, .ref (ad a4)), (0, .ref (ad x0)), (1, .int x1), (2, .int x2), (3, .int x3), (4, .int x4), (5, .int x5)]) E dX5_slopes_19 (by decide) rfl ?_
        refine j_aload E 2 rfl dX5_slopes_21 ?_
        refine j_ifnull E dX5_slopes_23 ?_
        refine j_aloadN E 1 rfl dX5_slopes_26 ?_
        refine j_ifnullN (tgt := 44) E dX5_slopes_28 (by decide) ?_
        refine j_iconst (v := (-1)) E dX5_slopes_44 (by decide) ?_
        cases hf
        exact j_iret E hr hlk dX5_slopes_45
    · refine j_stk (st' := [.ref (ad a20)]) rfl ?_
      refine j_astore (lv' := [(7, .ref (ad a20)), (6, .ref (ad a4)), (0, .ref (ad x0)), (1, .int x1), (2, .int x2), (3, .int x3), (4, .int x4), (5, .int x5)]) E dX5_slopes_12 (by decide) rfl ?_
      refine j_aload_n E 2 rfl dX5_slopes_14 rfl ?_
      refine j_iload_n E 5 rfl dX5_slopes_15 rfl ?_
      obtain ⟨k25, hf⟩ := ck_spec hf
      obtain ⟨v26, e27, hf⟩ := bs hf
      refine j_callV (ci := 4) (b := x0) (As := [.int x3]) (rest := []) (v := (some (va_rf (v26.map ad)))) E (c_X5_gridAt l D ad cy h x0 x3 e27) (mcw E.1.2.2.2.2 uw_1_193 uw_1_190 uw_1_192 us_1_1 uw_1_1 rfl rfl hd_X5_gridAt ⟨by decide, by decide⟩) rfl k25 rfl rfl (Nat.le_of_ble_eq_true rfl) dX5_slopes_16 ⟨Nat.zero_le _, Nat.zero_le _⟩ ?_
      rcases om_spec hf with ⟨rfl, hf⟩ | ⟨a28, rfl, hf⟩
      · refine j_stk (st' := [.null]) rfl ?_
        refine j_astoreN (lv' := [(8, .null), (7, .ref (ad a20)), (6, .ref (ad a4)), (0, .ref (ad x0)), (1, .int x1), (2, .int x2), (3, .int x3), (4, .int x4), (5, .int x5)]) E dX5_slopes_19 (by decide) rfl ?_
        refine j_aload E 2 rfl dX5_slopes_21 ?_
        refine j_ifnull E dX5_slopes_23 ?_
        refine j_aload E 1 rfl dX5_slopes_26 ?_
        refine j_ifnull E dX5_slopes_28 ?_
        refine j_aloadN E 0 rfl dX5_slopes_31 ?_
        refine j_ifnullN (tgt := 44) E dX5_slopes_33 (by decide) ?_
        refine j_iconst (v := (-1)) E dX5_slopes_44 (by decide) ?_
        cases hf
        exact j_iret E hr hlk dX5_slopes_45
      · refine j_stk (st' := [.ref (ad a28)]) rfl ?_
        refine j_astore (lv' := [(8, .ref (ad a28)), (7, .ref (ad a20)), (6, .ref (ad a4)), (0, .ref (ad x0)), (1, .int x1), (2, .int x2), (3, .int x3), (4, .int x4), (5, .int x5)]) E dX5_slopes_19 (by decide) rfl ?_
        refine j_aload E 2 rfl dX5_slopes_21 ?_
        refine j_ifnull E dX5_slopes_23 ?_
        refine j_aload E 1 rfl dX5_slopes_26 ?_
        refine j_ifnull E dX5_slopes_28 ?_
        refine j_aload E 0 rfl dX5_slopes_31 ?_
        refine j_ifnull E dX5_slopes_33 ?_
        refine j_iload E 7 rfl dX5_slopes_36 ?_
        obtain ⟨v29, e30, hf⟩ := bs hf
        refine j_callS (As := [.int x4]) (rest := []) (v := (some (.int v29))) E (c_X5_isSlot l D ad cy h x4 e30) (mcs E.1.2.2.2.2 uw_1_132 uw_1_130 uw_1_131 uw_1_1 rfl rfl hd_X5_isSlot ⟨by decide, by decide⟩) rfl rfl (Nat.le_of_ble_eq_true rfl) dX5_slopes_38 ⟨Nat.zero_le _, Nat.zero_le _⟩ ?_
        refine j_stk (st' := [.int v29]) rfl ?_
        refine j_if_ne (tgt := 46) E dX5_slopes_41 (by decide) (fun z31 => ?_) (fun z31 => ?_)
        · have hf := ifn hf z31
          refine j_aload E 2 rfl dX5_slopes_46 ?_
          obtain ⟨v32, ev32, hf⟩ := bs hf
          refine j_getI (ci := 1) (k0 := 1) (T := TX2) (N := 4) E (mI inUX2) rfl (by decide) (mU uw_1_79) ev32 dX5_slopes_48 ?_
          refine j_aload E 1 rfl dX5_slopes_51 ?_
          obtain ⟨v33, ev33, hf⟩ := bs hf
          refine j_getI (ci := 1) (k0 := 0) (T := TX2) (N := 4) E (mI inUX2) rfl (by decide) (mU uw_1_76) ev33 dX5_slopes_53 ?_
          refine j_icmp_ne (tgt := 85) E dX5_slopes_56 (by decide) (fun z34 => ?_) (fun z34 => ?_)
          · have hf := ifn hf z34
            refine j_bipush (v := (-3)) E dX5_slopes_85 (by decide) ?_
            cases hf
            exact j_iret E hr hlk dX5_slopes_87
          · have hf := ifp hf z34
            refine j_aload E 0 rfl dX5_slopes_59 ?_
            obtain ⟨v35, ev35, hf⟩ := bs hf
            refine j_getI (ci := 1) (k0 := 0) (T := TX2) (N := 4) E (mI inUX2) rfl (by decide) (mU uw_1_76) ev35 dX5_slopes_61 ?_
            refine j_aload E 2 rfl dX5_slopes_64 ?_
            obtain ⟨v36, ev36, hf⟩ := bs hf
            refine j_getI (ci := 1) (k0 := 0) (T := TX2) (N := 4) E (mI inUX2) rfl (by decide) (mU uw_1_76) ev36 dX5_slopes_66 ?_
            refine j_icmp_ne (tgt := 85) E dX5_slopes_69 (by decide) (fun z37 => ?_) (fun z37 => ?_)
            · have hf := ifn hf z37
              refine j_bipush (v := (-3)) E dX5_slopes_85 (by decide) ?_
              cases hf
              exact j_iret E hr hlk dX5_slopes_87
            · have hf := ifp hf z37
              refine j_aload E 0 rfl dX5_slopes_72 ?_
              obtain ⟨v38, ev38, hf⟩ := bs hf
              refine j_getI (ci := 1) (k0 := 1) (T := TX2) (N := 4) E (mI inUX2) rfl (by decide) (mU uw_1_79) ev38 dX5_slopes_74 ?_
              refine j_aload E 1 rfl dX5_slopes_77 ?_
              obtain ⟨v39, ev39, hf⟩ := bs hf
              refine j_getI (ci := 1) (k0 := 1) (T := TX2) (N := 4) E (mI inUX2) rfl (by decide) (mU uw_1_79) ev39 dX5_slopes_79 ?_
              refine j_icmp_eq (tgt := 88) E dX5_slopes_82 (by decide) (fun z40 => ?_) (fun z40 => ?_)
              · have hf := ifp hf z40
                refine j_iload E 8 rfl dX5_slopes_88 ?_
                refine j_if_eq (tgt := 109) E dX5_slopes_90 (by decide) (fun z41 => ?_) (fun z41 => ?_)
                · have hf := ifp hf z41
                  refine j_aload_n E 3 rfl dX5_slopes_109 rfl ?_
                  obtain ⟨v42, ev42, hf⟩ := bs hf
                  refine j_getR (ci := 4) (k0 := 3) (T := TX5) (N := 6) E (mI inUX5) rfl (by decide) (mU uw_1_110) ev42 dX5_slopes_110 ?_
                  refine j_aload E 2 rfl dX5_slopes_113 ?_
                  refine j_aload E 1 rfl dX5_slopes_115 ?_
                  refine j_aload E 0 rfl dX5_slopes_117 ?_
                  obtain ⟨k43, hf⟩ := ck_spec hf
                  obtain ⟨h44, e45, hf⟩ := bs hf
                  refine j_callV (ci := 1) (b := v42) (As := [.ref (ad a4), .ref (ad a20), .ref (ad a28)]) (rest := []) (v := none) E (c_X2_becomeSlopesOfRight l D ad cy h v42 a4 a20 a28 e45) (mcw E.1.2.2.2.2 uw_2_139 uw_2_136 uw_2_137 uw_2_138 uw_1_4 rfl rfl hd_X2_becomeSlopesOfRight ⟨by decide, by decide⟩) rfl k43 rfl rfl (Nat.le_of_ble_eq_true rfl) dX5_slopes_119 ⟨Nat.zero_le _, Nat.zero_le _⟩ ?_
                  refine j_stk (st' := []) rfl ?_
                  refine j_aload_n E 3 rfl dX5_slopes_122 rfl ?_
                  refine j_iload E 7 rfl dX5_slopes_123 ?_
                  obtain ⟨k46, hf⟩ := ck_spec hf
                  obtain ⟨⟨h47, v48⟩, e49, hf⟩ := bs hf
                  refine j_callV (ci := 4) (b := x0) (As := [.int x4]) (rest := []) (v := (some (.int v48))) E (c_X5_putDraft l D ad cy h44 x0 x4 e49) (mcw E.1.2.2.2.2 uw_1_143 uw_1_140 uw_1_142 us_1_0 uw_1_1 rfl rfl hd_X5_putDraft ⟨by decide, by decide⟩) rfl k46 rfl rfl (Nat.le_of_ble_eq_true rfl) dX5_slopes_125 ⟨Nat.zero_le _, Nat.zero_le _⟩ ?_
                  refine j_stk (st' := [.int v48]) rfl ?_
                  cases hf
                  exact j_iret E hr hlk dX5_slopes_128
                · have hf := ifn hf z41
                  refine j_aload_n E 3 rfl dX5_slopes_93 rfl ?_
                  obtain ⟨v50, ev50, hf⟩ := bs hf
                  refine j_getR (ci := 4) (k0 := 3) (T := TX5) (N := 6) E (mI inUX5) rfl (by decide) (mU uw_1_110) ev50 dX5_slopes_94 ?_
                  refine j_aload E 2 rfl dX5_slopes_97 ?_
                  refine j_aload E 1 rfl dX5_slopes_99 ?_
                  refine j_aload E 0 rfl dX5_slopes_101 ?_
                  obtain ⟨k51, hf⟩ := ck_spec hf
                  obtain ⟨h52, e53, hf⟩ := bs hf
                  refine j_callV (ci := 1) (b := v50) (As := [.ref (ad a4), .ref (ad a20), .ref (ad a28)]) (rest := []) (v := none) E (c_X2_becomeSlopesOfLeft l D ad cy h v50 a4 a20 a28 e53) (mcw E.1.2.2.2.2 uw_2_131 uw_2_128 uw_2_129 uw_2_130 uw_1_4 rfl rfl hd_X2_becomeSlopesOfLeft ⟨by decide, by decide⟩) rfl k51 rfl rfl (Nat.le_of_ble_eq_true rfl) dX5_slopes_103 ⟨Nat.zero_le _, Nat.zero_le _⟩ ?_
                  refine j_stk (st' := []) rfl ?_
                  refine j_goto (tgt := 122) E dX5_slopes_106 (by decide) ?_
                  refine j_aload_n E 3 rfl dX5_slopes_122 rfl ?_
                  refine j_iload E 7 rfl dX5_slopes_123 ?_
                  obtain ⟨k54, hf⟩ := ck_spec hf
                  obtain ⟨⟨h55, v56⟩, e57, hf⟩ := bs hf
                  refine j_callV (ci := 4) (b := x0) (As := [.int x4]) (rest := []) (v := (some (.int v56))) E (c_X5_putDraft l D ad cy h52 x0 x4 e57) (mcw E.1.2.2.2.2 uw_1_143 uw_1_140 uw_1_142 us_1_0 uw_1_1 rfl rfl hd_X5_putDraft ⟨by decide, by decide⟩) rfl k54 rfl rfl (Nat.le_of_ble_eq_true rfl) dX5_slopes_125 ⟨Nat.zero_le _, Nat.zero_le _⟩ ?_
                  refine j_stk (st' := [.int v56]) rfl ?_
                  cases hf
                  exact j_iret E hr hlk dX5_slopes_128
              · have hf := ifn hf z40
                refine j_bipush (v := (-3)) E dX5_slopes_85 (by decide) ?_
                cases hf
                exact j_iret E hr hlk dX5_slopes_87
        · have hf := ifp hf z31
          refine j_iconst (v := (-1)) E dX5_slopes_44 (by decide) ?_
          cases hf
          exact j_iret E hr hlk dX5_slopes_45
noncomputable def f_X5_sum (h : HP) (x0 : Nat) (x1 : Int32) (x2 : Int32) (x3 : Int32) : Option (Int64) :=
  ck 4 h x0 <|
  (f_X5_gridAt h x0 x1).bind fun v2 =>
  om v2 (
    some 0
  ) fun a4 =>
    if x3 < 0 then (
      some 0
    ) else (
      if x2 = 0 then (
        (gI 1 h a4 1).bind fun v7 =>
        if x3 < v7 then (
          if x2 = 0 then (
            ck 1 h a4 <|
            (f_X2_columnSum h a4 x3).bind fun v11 =>
            some v11
          ) else (
            ck 1 h a4 <|
            (f_X2_rowSum h a4 x3).bind fun v14 =>
            some v14
          )
        ) else (
          some 0
        )
      ) else (
        (gI 1 h a4 0).bind fun v16 =>
        if x3 < v16 then (
          if x2 = 0 then (
            ck 1 h a4 <|
            (f_X2_columnSum h a4 x3).bind fun v20 =>
            some v20
          ) else (
            ck 1 h a4 <|
            (f_X2_rowSum h a4 x3).bind fun v23 =>
            some v23
          )
        ) else (
          some 0
        )
      )
    )
abbrev rmX5_sum : Room := { frames := 3, cells := 0, slots := 0, locals := 66 }
theorem hd_X5_sum : yX5_sum.cls = RX5 ∧ yX5_sum.cls ≠ "java/lang/invoke/MethodHandle" ∧ yX5_sum.cls ≠ "java/lang/invoke/VarHandle" ∧ (parseMethodDescriptor yX5_sum.desc).map (fun d => d.parameters.length) = some 3 := by decide +kernel
set_option maxRecDepth 100000 in
set_option maxHeartbeats 4000000 in
theorem c_X5_sum (l : Launch) (D : va_G) (ad : Nat → Nat) (cy : Nat → ClassId) (h : HP) (x0 : Nat) (x1 : Int32) (x2 : Int32) (x3 : Int32) {r : Int64} (hf : f_X5_sum h x0 x1 x2 x3 = some r) : Met l yX5_sum (wsM yX5_sum cX5_sum 5 (some .long)) rmX5_sum (va_Pc [.ref (ad x0), .int x1, .int x2, .int x3] (PW D ad cy h)) (QV D ad cy (some (.long r)) h) 0 0 (Aw ad) := by
  refine met_of (own := RX5) (lv := [(0, .ref (ad x0)), (1, .int x1), (2, .int x2), (3, .int x3)]) (by decide) rfl (Nat.le_of_ble_eq_true rfl) rfl (fun p e s m args below meth c E hr hlk => ?_)
  unfold f_X5_sum at hf
  refine j_aload_n E 0 rfl dX5_sum_0 rfl ?_
  refine j_iload_n E 1 rfl dX5_sum_1 rfl ?_
  obtain ⟨k1, hf⟩ := ck_spec hf
  obtain ⟨v2, e3, hf⟩ := bs hf
  refine j_callV (ci := 4) (b := x0) (As := [.int x1]) (rest := []) (v := (some (va_rf (v2.map ad)))) E (c_X5_gridAt l D ad cy h x0 x1 e3) (mcw E.1.2.2.2.2 uw_1_193 uw_1_190 uw_1_192 us_1_1 uw_1_1 rfl rfl hd_X5_gridAt ⟨by decide, by decide⟩) rfl k1 rfl rfl (Nat.le_of_ble_eq_true rfl) dX5_sum_2 ⟨Nat.zero_le _, Nat.zero_le _⟩ ?_
  rcases om_spec hf with ⟨rfl, hf⟩ | ⟨a4, rfl, hf⟩
  · refine j_stk (st' := [.null]) rfl ?_
    refine j_astoreN (lv' := [(4, .null), (0, .ref (ad x0)), (1, .int x1), (2, .int x2), (3, .int x3)]) E dX5_sum_5 (by decide) rfl ?_
    refine j_aloadN E 0 rfl dX5_sum_7 ?_
    refine j_ifnullN (tgt := 37) E dX5_sum_9 (by decide) ?_
    refine j_lconst (v := 0) E dX5_sum_37 (by decide) ?_
    cases hf
    exact j_lret E hr hlk dX5_sum_38
  · refine j_stk (st' := [.ref (ad a4)]) rfl ?_
    refine j_astore (lv' := [(4, .ref (ad a4)), (0, .ref (ad x0)), (1, .int x1), (2, .int x2), (3, .int x3)]) E dX5_sum_5 (by decide) rfl ?_
    refine j_aload E 0 rfl dX5_sum_7 ?_
    refine j_ifnull E dX5_sum_9 ?_
    refine j_iload_n E 4 rfl dX5_sum_12 rfl ?_
    refine j_if_lt (tgt := 37) E dX5_sum_13 (by decide) (fun z5 => ?_) (fun z5 => ?_)
    · have hf := ifp hf z5
      refine j_lconst (v := 0) E dX5_sum_37 (by decide) ?_
      cases hf
      exact j_lret E hr hlk dX5_sum_38
    · have hf := ifn hf z5
      refine j_iload_n E 4 rfl dX5_sum_16 rfl ?_
      refine j_iload_n E 3 rfl dX5_sum_17 rfl ?_
      refine j_if_eq (tgt := 29) E dX5_sum_18 (by decide) (fun z6 => ?_) (fun z6 => ?_)
      · have hf := ifp hf z6
        refine j_aload E 0 rfl dX5_sum_29 ?_
        obtain ⟨v7, ev7, hf⟩ := bs hf
        refine j_getI (ci := 1) (k0 := 1) (T := TX2) (N := 4) E (mI inUX2) rfl (by decide) (mU uw_1_79) ev7 dX5_sum_31 ?_
        refine j_icmp_lt (tgt := 39) E dX5_sum_34 (by decide) (fun z8 => ?_) (fun z8 => ?_)
        · have hf := ifp hf z8
          refine j_iload_n E 3 rfl dX5_sum_39 rfl ?_
          refine j_if_eq (tgt := 52) E dX5_sum_40 (by decide) (fun z9 => ?_) (fun z9 => ?_)
          · have hf := ifp hf z9
            refine j_aload E 0 rfl dX5_sum_52 ?_
            refine j_iload_n E 4 rfl dX5_sum_54 rfl ?_
            obtain ⟨k10, hf⟩ := ck_spec hf
            obtain ⟨v11, e12, hf⟩ := bs hf
            refine j_callV (ci := 1) (b := a4) (As := [.int x3]) (rest := []) (v := (some (.long v11))) E (c_X2_columnSum l D ad cy h a4 x3 e12) (mcw E.1.2.2.2.2 uw_2_155 uw_2_152 uw_2_153 uw_2_154 uw_1_4 rfl rfl hd_X2_columnSum ⟨by decide, by decide⟩) rfl k10 rfl rfl (Nat.le_of_ble_eq_true rfl) dX5_sum_55 ⟨Nat.zero_le _, Nat.zero_le _⟩ ?_
            refine j_stk (st' := [.long v11]) rfl ?_
            cases hf
            exact j_lret E hr hlk dX5_sum_58
          · have hf := ifn hf z9
            refine j_aload E 0 rfl dX5_sum_43 ?_
            refine j_iload_n E 4 rfl dX5_sum_45 rfl ?_
            obtain ⟨k13, hf⟩ := ck_spec hf
            obtain ⟨v14, e15, hf⟩ := bs hf
            refine j_callV (ci := 1) (b := a4) (As := [.int x3]) (rest := []) (v := (some (.long v14))) E (c_X2_rowSum l D ad cy h a4 x3 e15) (mcw E.1.2.2.2.2 uw_2_151 uw_2_148 uw_2_149 uw_2_150 uw_1_4 rfl rfl hd_X2_rowSum ⟨by decide, by decide⟩) rfl k13 rfl rfl (Nat.le_of_ble_eq_true rfl) dX5_sum_46 ⟨Nat.zero_le _, Nat.zero_le _⟩ ?_
            refine j_stk (st' := [.long v14]) rfl ?_
            refine j_goto (tgt := 58) E dX5_sum_49 (by decide) ?_
            cases hf
            exact j_lret E hr hlk dX5_sum_58
        · have hf := ifn hf z8
          refine j_lconst (v := 0) E dX5_sum_37 (by decide) ?_
          cases hf
          exact j_lret E hr hlk dX5_sum_38
      · have hf := ifn hf z6
        refine j_aload E 0 rfl dX5_sum_21 ?_
        obtain ⟨v16, ev16, hf⟩ := bs hf
        refine j_getI (ci := 1) (k0 := 0) (T := TX2) (N := 4) E (mI inUX2) rfl (by decide) (mU uw_1_76) ev16 dX5_sum_23 ?_
        refine j_goto (tgt := 34) E dX5_sum_26 (by decide) ?_
        refine j_icmp_lt (tgt := 39) E dX5_sum_34 (by decide) (fun z17 => ?_) (fun z17 => ?_)
        · have hf := ifp hf z17
          refine j_iload_n E 3 rfl dX5_sum_39 rfl ?_
          refine j_if_eq (tgt := 52) E dX5_sum_40 (by decide) (fun z18 => ?_) (fun z18 => ?_)
          · have hf := ifp hf z18
            refine j_aload E 0 rfl dX5_sum_52 ?_
            refine j_iload_n E 4 rfl dX5_sum_54 rfl ?_
            obtain ⟨k19, hf⟩ := ck_spec hf
            obtain ⟨v20, e21, hf⟩ := bs hf
            refine j_callV (ci := 1) (b := a4) (As := [.int x3]) (rest := []) (v := (some (.long v20))) E (c_X2_columnSum l D ad cy h a4 x3 e21) (mcw E.1.2.2.2.2 uw_2_155 uw_2_152 uw_2_153 uw_2_154 uw_1_4 rfl rfl hd_X2_columnSum ⟨by decide, by decide⟩) rfl k19 rfl rfl (Nat.le_of_ble_eq_true rfl) dX5_sum_55 ⟨Nat.zero_le _, Nat.zero_le _⟩ ?_
            refine j_stk (st' := [.long v20]) rfl ?_
            cases hf
            exact j_lret E hr hlk dX5_sum_58
          · have hf := ifn hf z18
            refine j_aload E 0 rfl dX5_sum_43 ?_
            refine j_iload_n E 4 rfl dX5_sum_45 rfl ?_
            obtain ⟨k22, hf⟩ := ck_spec hf
            obtain ⟨v23, e24, hf⟩ := bs hf
            refine j_callV (ci := 1) (b := a4) (As := [.int x3]) (rest := []) (v := (some (.long v23))) E (c_X2_rowSum l D ad cy h a4 x3 e24) (mcw E.1.2.2.2.2 uw_2_151 uw_2_148 uw_2_149 uw_2_150 uw_1_4 rfl rfl hd_X2_rowSum ⟨by decide, by decide⟩) rfl k22 rfl rfl (Nat.le_of_ble_eq_true rfl) dX5_sum_46 ⟨Nat.zero_le _, Nat.zero_le _⟩ ?_
            refine j_stk (st' := [.long v23]) rfl ?_
            refine j_goto (tgt := 58) E dX5_sum_49 (by decide) ?_
            cases hf
            exact j_lret E hr hlk dX5_sum_58
        · have hf := ifn hf z17
          refine j_lconst (v := 0) E dX5_sum_37 (by decide) ?_
          cases hf
          exact j_lret E hr hlk dX5_sum_38
noncomputable def f_X5_cost (h : HP) (x0 : Nat) (x1 : Int32) (x2 : Int32) (x3 : Int32) : Option (HP × Int32) :=
  ck 4 h x0 <|
  (f_X5_gridAt h x0 x1).bind fun v2 =>
  om v2 (
    some (h, (-1))
  ) fun a4 =>
    (f_X0_isForm x2 x3).bind fun v5 =>
    if v5 = 0 then (
      some (h, (-2))
    ) else (
      (gR 4 h x0 3).bind fun v8 =>
      (f_X0_cellCount h a4 x2 x3 v8).bind fun (h9, v10) =>
      some (h9, v10)
    )
abbrev rmX5_cost : Room := { frames := 5, cells := 0, slots := 0, locals := 111 }
theorem hd_X5_cost : yX5_cost.cls = RX5 ∧ yX5_cost.cls ≠ "java/lang/invoke/MethodHandle" ∧ yX5_cost.cls ≠ "java/lang/invoke/VarHandle" ∧ (parseMethodDescriptor yX5_cost.desc).map (fun d => d.parameters.length) = some 3 := by decide +kernel
set_option maxRecDepth 100000 in
set_option maxHeartbeats 4000000 in
theorem c_X5_cost (l : Launch) (D : va_G) (ad : Nat → Nat) (cy : Nat → ClassId) (h : HP) (x0 : Nat) (x1 : Int32) (x2 : Int32) (x3 : Int32) {h' : HP} {r : Int32} (hf : f_X5_cost h x0 x1 x2 x3 = some (h', r)) : Met l yX5_cost (wsM yX5_cost cX5_cost 5 (some .int)) rmX5_cost (va_Pc [.ref (ad x0), .int x1, .int x2, .int x3] (PW D ad cy h)) (QV D ad cy (some (.int r)) h') 0 0 (Aw ad) := by
  refine met_of (own := RX5) (lv := [(0, .ref (ad x0)), (1, .int x1), (2, .int x2), (3, .int x3)]) (by decide) rfl (Nat.le_of_ble_eq_true rfl) rfl (fun p e s m args below meth c E hr hlk => ?_)
  unfold f_X5_cost at hf
  refine j_aload_n E 0 rfl dX5_cost_0 rfl ?_
  refine j_iload_n E 1 rfl dX5_cost_1 rfl ?_
  obtain ⟨k1, hf⟩ := ck_spec hf
  obtain ⟨v2, e3, hf⟩ := bs hf
  refine j_callV (ci := 4) (b := x0) (As := [.int x1]) (rest := []) (v := (some (va_rf (v2.map ad)))) E (c_X5_gridAt l D ad cy h x0 x1 e3) (mcw E.1.2.2.2.2 uw_1_193 uw_1_190 uw_1_192 us_1_1 uw_1_1 rfl rfl hd_X5_gridAt ⟨by decide, by decide⟩) rfl k1 rfl rfl (Nat.le_of_ble_eq_true rfl) dX5_cost_2 ⟨Nat.zero_le _, Nat.zero_le _⟩ ?_
  rcases om_spec hf with ⟨rfl, hf⟩ | ⟨a4, rfl, hf⟩
  · refine j_stk (st' := [.null]) rfl ?_
    refine j_astoreN (lv' := [(4, .null), (0, .ref (ad x0)), (1, .int x1), (2, .int x2), (3, .int x3)]) E dX5_cost_5 (by decide) rfl ?_
    refine j_aloadN E 0 rfl dX5_cost_7 ?_
    refine j_ifnonnullN E dX5_cost_9 ?_
    refine j_iconst (v := (-1)) E dX5_cost_12 (by decide) ?_
    cases hf
    exact j_iret E hr hlk dX5_cost_13
  · refine j_stk (st' := [.ref (ad a4)]) rfl ?_
    refine j_astore (lv' := [(4, .ref (ad a4)), (0, .ref (ad x0)), (1, .int x1), (2, .int x2), (3, .int x3)]) E dX5_cost_5 (by decide) rfl ?_
    refine j_aload E 0 rfl dX5_cost_7 ?_
    refine j_ifnonnull (tgt := 14) E dX5_cost_9 (by decide) ?_
    refine j_iload_n E 3 rfl dX5_cost_14 rfl ?_
    refine j_iload_n E 4 rfl dX5_cost_15 rfl ?_
    obtain ⟨v5, e6, hf⟩ := bs hf
    refine j_callS (As := [.int x2, .int x3]) (rest := []) (v := (some (.int v5))) E (c_X0_isForm l D ad cy h x2 x3 e6) (mcs E.1.2.2.2.2 uw_2_162 uw_2_160 uw_2_161 uw_1_9 rfl rfl hd_X0_isForm ⟨by decide, by decide⟩) rfl rfl (Nat.le_of_ble_eq_true rfl) dX5_cost_16 ⟨Nat.zero_le _, Nat.zero_le _⟩ ?_
    refine j_stk (st' := [.int v5]) rfl ?_
    refine j_if_ne (tgt := 25) E dX5_cost_19 (by decide) (fun z7 => ?_) (fun z7 => ?_)
    · have hf := ifn hf z7
      refine j_aload E 0 rfl dX5_cost_25 ?_
      refine j_iload_n E 3 rfl dX5_cost_27 rfl ?_
      refine j_iload_n E 4 rfl dX5_cost_28 rfl ?_
      refine j_aload_n E 1 rfl dX5_cost_29 rfl ?_
      obtain ⟨v8, ev8, hf⟩ := bs hf
      refine j_getR (ci := 4) (k0 := 3) (T := TX5) (N := 6) E (mI inUX5) rfl (by decide) (mU uw_1_110) ev8 dX5_cost_30 ?_
      obtain ⟨⟨h9, v10⟩, e11, hf⟩ := bs hf
      refine j_callS (As := [.ref (ad a4), .int x2, .int x3, .ref (ad v8)]) (rest := []) (v := (some (.int v10))) E (c_X0_cellCount l D ad cy h a4 x2 x3 v8 e11) (mcs E.1.2.2.2.2 uw_2_168 uw_2_166 uw_2_167 uw_1_9 rfl rfl hd_X0_cellCount ⟨by decide, by decide⟩) rfl rfl (Nat.le_of_ble_eq_true rfl) dX5_cost_33 ⟨Nat.zero_le _, Nat.zero_le _⟩ ?_
      refine j_stk (st' := [.int v10]) rfl ?_
      cases hf
      exact j_iret E hr hlk dX5_cost_36
    · have hf := ifp hf z7
      refine j_bipush (v := (-2)) E dX5_cost_22 (by decide) ?_
      cases hf
      exact j_iret E hr hlk dX5_cost_24
noncomputable def L_X5_cheapest_41 (x0 : Nat) (x2 : Int32) (x3 : Nat) : Nat → (HP → Int32 → Option (HP × Int32)) → HP → Int32 → Int32 → Int32 → Option (HP × Int32)
  | 0, _, _, _, _, _ => none
  | n + 1, k, h, x4, x5, x6 =>
      if 5 < x6 then (
        k h x4
      ) else (
        (gR 4 h x0 3).bind fun v13 =>
        (f_X0_cellCount h x3 x6 x2 v13).bind fun (h14, v15) =>
        if x5 ≤ v15 then (
          L_X5_cheapest_41 x0 x2 x3 n k h14 x4 x5 (x6 + 1)
        ) else (
          L_X5_cheapest_41 x0 x2 x3 n k h14 x6 v15 (x6 + 1)
        )
      )
noncomputable def f_X5_cheapest (h : HP) (x0 : Nat) (x1 : Int32) (x2 : Int32) : Option (HP × Int32) :=
  ck 4 h x0 <|
  (f_X5_gridAt h x0 x1).bind fun v2 =>
  om v2 (
    some (h, (-1))
  ) fun a4 =>
    (f_X0_isBlockSide x2).bind fun v5 =>
    if v5 = 0 then (
      some (h, (-2))
    ) else (
      (gR 4 h x0 3).bind fun v8 =>
      (f_X0_cellCount h a4 0 x2 v8).bind fun (h9, v10) =>
      L_X5_cheapest_41 x0 x2 a4 FU (fun h18 x19 =>
        some (h18, x19)) h9 0 v10 1
    )
abbrev rmX5_cheapest : Room := { frames := 5, cells := 0, slots := 0, locals := 111 }
theorem hd_X5_cheapest : yX5_cheapest.cls = RX5 ∧ yX5_cheapest.cls ≠ "java/lang/invoke/MethodHandle" ∧ yX5_cheapest.cls ≠ "java/lang/invoke/VarHandle" ∧ (parseMethodDescriptor yX5_cheapest.desc).map (fun d => d.parameters.length) = some 2 := by decide +kernel
set_option maxRecDepth 100000 in
set_option maxHeartbeats 4000000 in
theorem w_X5_cheapest_41 {p : Program} {l : Launch} {e : Env} {s : State} {m : MethodId} {args : Array Value} {below : List Frame} {meth : Method} {c : Code} {D : va_G} {ad : Nat → Nat} {cy : Nat → ClassId} (E : EE p s m args c cX5_cheapest 8 (wsM yX5_cheapest cX5_cheapest 8 (some .int)) RX5 D cy) (hr : meth.sig.returnType = (some .int)) (hlk : meth.locks = false) {h' : HP} {r : Int32} (x0 : Nat) (x2 : Int32) (x3 : Nat) : ∀ (n : Nat) (k : (HP → Int32 → Option (HP × Int32))) (h : HP) (x4 : Int32) (x5 : Int32) (x6 : Int32), (∀ (h : HP) (x4 : Int32), k h x4 = some (h', r) → JJ p l e rmX5_cheapest s m args below meth c 0 0 (MQ below (QV D ad cy (some (.int r)) h') args s 0 0 (Aw ad)) D ad cy (Aw ad) 8 h [(4, .int x4)] 81 []) → L_X5_cheapest_41 x0 x2 x3 n k h x4 x5 x6 = some (h', r) → JJ p l e rmX5_cheapest s m args below meth c 0 0 (MQ below (QV D ad cy (some (.int r)) h') args s 0 0 (Aw ad)) D ad cy (Aw ad) 8 h [(0, .ref (ad x0)), (2, .int x2), (3, .ref (ad x3)), (4, .int x4), (5, .int x5), (6, .int x6)] 41 [] := by
  intro n
  induction n with
  | zero => intro k h x4 x5 x6 hk hf; cases hf
  | succ n ih =>
    intro k h x4 x5 x6 hk hf
    unfold L_X5_cheapest_41 at hf
    refine j_iload E 5 rfl dX5_cheapest_41 ?_
    refine j_iconst (v := 5) E dX5_cheapest_43 (by decide) ?_
    refine j_icmp_gt (tgt := 81) E dX5_cheapest_44 (by decide) (fun z12 => ?_) (fun z12 => ?_)
    · have hf := ifp hf z12
      refine j_perm (lv' := [(4, .int x4)]) [3] rfl ?_
      exact hk h x4 hf
    · have hf := ifn hf z12
      refine j_aload_n E 2 rfl dX5_cheapest_47 rfl ?_
      refine j_iload E 5 rfl dX5_cheapest_48 ?_
      refine j_iload_n E 1 rfl dX5_cheapest_50 rfl ?_
      refine j_aload_n E 0 rfl dX5_cheapest_51 rfl ?_
      obtain ⟨v13, ev13, hf⟩ := bs hf
      refine j_getR (ci := 4) (k0 := 3) (T := TX5) (N := 6) E (mI inUX5) rfl (by decide) (mU uw_1_110) ev13 dX5_cheapest_52 ?_
      obtain ⟨⟨h14, v15⟩, e16, hf⟩ := bs hf
      refine j_callS (As := [.ref (ad x3), .int x6, .int x2, .ref (ad v13)]) (rest := []) (v := (some (.int v15))) E (c_X0_cellCount l D ad cy h x3 x6 x2 v13 e16) (mcs E.1.2.2.2.2 uw_2_168 uw_2_166 uw_2_167 uw_1_9 rfl rfl hd_X0_cellCount ⟨by decide, by decide⟩) rfl rfl (Nat.le_of_ble_eq_true rfl) dX5_cheapest_55 ⟨Nat.zero_le _, Nat.zero_le _⟩ ?_
      refine j_stk (st' := [.int v15]) rfl ?_
      refine j_istore (lv' := [(7, .int v15), (0, .ref (ad x0)), (2, .int x2), (3, .ref (ad x3)), (4, .int x4), (5, .int x5), (6, .int x6)]) E dX5_cheapest_58 (by decide) rfl ?_
      refine j_iload E 0 rfl dX5_cheapest_60 ?_
      refine j_iload E 5 rfl dX5_cheapest_62 ?_
      refine j_icmp_ge (tgt := 75) E dX5_cheapest_64 (by decide) (fun z17 => ?_) (fun z17 => ?_)
      · have hf := ifp hf z17
        refine j_iinc (v := (x6 + 1)) (k0 := 6) (lv' := [(6, .int (x6 + 1)), (7, .int v15), (0, .ref (ad x0)), (2, .int x2), (3, .ref (ad x3)), (4, .int x4), (5, .int x5)]) E dX5_cheapest_75 rfl (congrArg (fun z => x6 + z) (by decide)) (by decide) rfl ?_
        refine j_goto (tgt := 41) E dX5_cheapest_78 (by decide) ?_
        refine j_perm (lv' := [(0, .ref (ad x0)), (2, .int x2), (3, .ref (ad x3)), (4, .int x4), (5, .int x5), (6, .int (x6 + 1))]) [2, 3, 4, 5, 6, 0] rfl ?_
        exact ih k h14 x4 x5 (x6 + 1) hk hf
      · have hf := ifn hf z17
        refine j_iload E 6 rfl dX5_cheapest_67 ?_
        refine j_istore (lv' := [(4, .int x6), (7, .int v15), (0, .ref (ad x0)), (2, .int x2), (3, .ref (ad x3)), (5, .int x5), (6, .int x6)]) E dX5_cheapest_69 (by decide) rfl ?_
        refine j_iload E 1 rfl dX5_cheapest_71 ?_
        refine j_istore (lv' := [(5, .int v15), (4, .int x6), (7, .int v15), (0, .ref (ad x0)), (2, .int x2), (3, .ref (ad x3)), (6, .int x6)]) E dX5_cheapest_73 (by decide) rfl ?_
        refine j_iinc (v := (x6 + 1)) (k0 := 6) (lv' := [(6, .int (x6 + 1)), (5, .int v15), (4, .int x6), (7, .int v15), (0, .ref (ad x0)), (2, .int x2), (3, .ref (ad x3))]) E dX5_cheapest_75 rfl (congrArg (fun z => x6 + z) (by decide)) (by decide) rfl ?_
        refine j_goto (tgt := 41) E dX5_cheapest_78 (by decide) ?_
        refine j_perm (lv' := [(0, .ref (ad x0)), (2, .int x2), (3, .ref (ad x3)), (4, .int x6), (5, .int v15), (6, .int (x6 + 1))]) [4, 5, 6, 2, 1, 0] rfl ?_
        exact ih k h14 x6 v15 (x6 + 1) hk hf
set_option maxRecDepth 100000 in
set_option maxHeartbeats 4000000 in
theorem c_X5_cheapest (l : Launch) (D : va_G) (ad : Nat → Nat) (cy : Nat → ClassId) (h : HP) (x0 : Nat) (x1 : Int32) (x2 : Int32) {h' : HP} {r : Int32} (hf : f_X5_cheapest h x0 x1 x2 = some (h', r)) : Met l yX5_cheapest (wsM yX5_cheapest cX5_cheapest 8 (some .int)) rmX5_cheapest (va_Pc [.ref (ad x0), .int x1, .int x2] (PW D ad cy h)) (QV D ad cy (some (.int r)) h') 0 0 (Aw ad) := by
  refine met_of (own := RX5) (lv := [(0, .ref (ad x0)), (1, .int x1), (2, .int x2)]) (by decide) rfl (Nat.le_of_ble_eq_true rfl) rfl (fun p e s m args below meth c E hr hlk => ?_)
  unfold f_X5_cheapest at hf
  refine j_aload_n E 0 rfl dX5_cheapest_0 rfl ?_
  refine j_iload_n E 1 rfl dX5_cheapest_1 rfl ?_
  obtain ⟨k1, hf⟩ := ck_spec hf
  obtain ⟨v2, e3, hf⟩ := bs hf
  refine j_callV (ci := 4) (b := x0) (As := [.int x1]) (rest := []) (v := (some (va_rf (v2.map ad)))) E (c_X5_gridAt l D ad cy h x0 x1 e3) (mcw E.1.2.2.2.2 uw_1_193 uw_1_190 uw_1_192 us_1_1 uw_1_1 rfl rfl hd_X5_gridAt ⟨by decide, by decide⟩) rfl k1 rfl rfl (Nat.le_of_ble_eq_true rfl) dX5_cheapest_2 ⟨Nat.zero_le _, Nat.zero_le _⟩ ?_
  rcases om_spec hf with ⟨rfl, hf⟩ | ⟨a4, rfl, hf⟩
  · refine j_stk (st' := [.null]) rfl ?_
    refine j_astore_nN (lv' := [(3, .null), (0, .ref (ad x0)), (1, .int x1), (2, .int x2)]) E dX5_cheapest_5 rfl (by decide) rfl ?_
    refine j_aload_nN E 0 rfl dX5_cheapest_6 rfl ?_
    refine j_ifnonnullN E dX5_cheapest_7 ?_
    refine j_iconst (v := (-1)) E dX5_cheapest_10 (by decide) ?_
    cases hf
    exact j_iret E hr hlk dX5_cheapest_11
  · refine j_stk (st' := [.ref (ad a4)]) rfl ?_
    refine j_astore_n (lv' := [(3, .ref (ad a4)), (0, .ref (ad x0)), (1, .int x1), (2, .int x2)]) E dX5_cheapest_5 rfl (by decide) rfl ?_
    refine j_aload_n E 0 rfl dX5_cheapest_6 rfl ?_
    refine j_ifnonnull (tgt := 12) E dX5_cheapest_7 (by decide) ?_
    refine j_iload_n E 3 rfl dX5_cheapest_12 rfl ?_
    obtain ⟨v5, e6, hf⟩ := bs hf
    refine j_callS (As := [.int x2]) (rest := []) (v := (some (.int v5))) E (c_X0_isBlockSide l D ad cy h x2 e6) (mcs E.1.2.2.2.2 uw_2_165 uw_2_188 uw_2_164 uw_1_9 rfl rfl hd_X0_isBlockSide ⟨by decide, by decide⟩) rfl rfl (Nat.le_of_ble_eq_true rfl) dX5_cheapest_13 ⟨Nat.zero_le _, Nat.zero_le _⟩ ?_
    refine j_stk (st' := [.int v5]) rfl ?_
    refine j_if_ne (tgt := 22) E dX5_cheapest_16 (by decide) (fun z7 => ?_) (fun z7 => ?_)
    · have hf := ifn hf z7
      refine j_iconst (v := 0) E dX5_cheapest_22 (by decide) ?_
      refine j_istore (lv' := [(4, .int 0), (3, .ref (ad a4)), (0, .ref (ad x0)), (1, .int x1), (2, .int x2)]) E dX5_cheapest_23 (by decide) rfl ?_
      refine j_aload_n E 1 rfl dX5_cheapest_25 rfl ?_
      refine j_iload E 0 rfl dX5_cheapest_26 ?_
      refine j_iload_n E 4 rfl dX5_cheapest_28 rfl ?_
      refine j_aload_n E 2 rfl dX5_cheapest_29 rfl ?_
      obtain ⟨v8, ev8, hf⟩ := bs hf
      refine j_getR (ci := 4) (k0 := 3) (T := TX5) (N := 6) E (mI inUX5) rfl (by decide) (mU uw_1_110) ev8 dX5_cheapest_30 ?_
      obtain ⟨⟨h9, v10⟩, e11, hf⟩ := bs hf
      refine j_callS (As := [.ref (ad a4), .int 0, .int x2, .ref (ad v8)]) (rest := []) (v := (some (.int v10))) E (c_X0_cellCount l D ad cy h a4 0 x2 v8 e11) (mcs E.1.2.2.2.2 uw_2_168 uw_2_166 uw_2_167 uw_1_9 rfl rfl hd_X0_cellCount ⟨by decide, by decide⟩) rfl rfl (Nat.le_of_ble_eq_true rfl) dX5_cheapest_33 ⟨Nat.zero_le _, Nat.zero_le _⟩ ?_
      refine j_stk (st' := [.int v10]) rfl ?_
      refine j_istore (lv' := [(5, .int v10), (4, .int 0), (3, .ref (ad a4)), (0, .ref (ad x0)), (1, .int x1), (2, .int x2)]) E dX5_cheapest_36 (by decide) rfl ?_
      refine j_iconst (v := 1) E dX5_cheapest_38 (by decide) ?_
      refine j_istore (lv' := [(6, .int 1), (5, .int v10), (4, .int 0), (3, .ref (ad a4)), (0, .ref (ad x0)), (1, .int x1), (2, .int x2)]) E dX5_cheapest_39 (by decide) rfl ?_
      refine j_perm (lv' := [(0, .ref (ad x0)), (2, .int x2), (3, .ref (ad a4)), (4, .int 0), (5, .int v10), (6, .int 1)]) [4, 6, 3, 2, 1, 0] rfl ?_
      refine w_X5_cheapest_41 E hr hlk x0 x2 a4 FU _ h9 0 v10 1 (fun h18 x19 hf => ?_) hf
      refine j_iload E 0 rfl dX5_cheapest_81 ?_
      cases hf
      exact j_iret E hr hlk dX5_cheapest_83
    · have hf := ifp hf z7
      refine j_bipush (v := (-2)) E dX5_cheapest_19 (by decide) ?_
      cases hf
      exact j_iret E hr hlk dX5_cheapest_21
noncomputable def f_X5_cell (h : HP) (x0 : Nat) (x1 : Int32) (x2 : Int32) (x3 : Int32) (x4 : Int32) : Option (HP × Int64) :=
  ck 4 h x0 <|
  (f_X5_gridAt h x0 x1).bind fun v2 =>
  om v2 (
    some (h, 0)
  ) fun a4 =>
    (f_X0_isForm x2 x3).bind fun v5 =>
    if v5 = 0 then (
      some (h, 0)
    ) else (
      if x4 < 0 then (
        some (h, 0)
      ) else (
        (gR 4 h x0 3).bind fun v9 =>
        (f_X0_cellCount h a4 x2 x3 v9).bind fun (h10, v11) =>
        if x4 < v11 then (
          (gR 4 h10 x0 3).bind fun v14 =>
          (f_X0_cellValue h10 a4 x2 x3 x4 v14).bind fun (h15, v16) =>
          some (h15, v16)
        ) else (
          some (h10, 0)
        )
      )
    )
abbrev rmX5_cell : Room := { frames := 6, cells := 0, slots := 0, locals := 140 }
theorem hd_X5_cell : yX5_cell.cls = RX5 ∧ yX5_cell.cls ≠ "java/lang/invoke/MethodHandle" ∧ yX5_cell.cls ≠ "java/lang/invoke/VarHandle" ∧ (parseMethodDescriptor yX5_cell.desc).map (fun d => d.parameters.length) = some 4 := by decide +kernel
set_option maxRecDepth 100000 in
set_option maxHeartbeats 4000000 in
theorem c_X5_cell (l : Launch) (D : va_G) (ad : Nat → Nat) (cy : Nat → ClassId) (h : HP) (x0 : Nat) (x1 : Int32) (x2 : Int32) (x3 : Int32) (x4 : Int32) {h' : HP} {r : Int64} (hf : f_X5_cell h x0 x1 x2 x3 x4 = some (h', r)) : Met l yX5_cell (wsM yX5_cell cX5_cell 6 (some .long)) rmX5_cell (va_Pc [.ref (ad x0), .int x1, .int x2, .int x3, .int x4] (PW D ad cy h)) (QV D ad cy (some (.long r)) h') 0 0 (Aw ad) := by
  refine met_of (own := RX5) (lv := [(0, .ref (ad x0)), (1, .int x1), (2, .int x2), (3, .int x3), (4, .int x4)]) (by decide) rfl (Nat.le_of_ble_eq_true rfl) rfl (fun p e s m args below meth c E hr hlk => ?_)
  unfold f_X5_cell at hf
  refine j_aload_n E 0 rfl dX5_cell_0 rfl ?_
  refine j_iload_n E 1 rfl dX5_cell_1 rfl ?_
  obtain ⟨k1, hf⟩ := ck_spec hf
  obtain ⟨v2, e3, hf⟩ := bs hf
  refine j_callV (ci := 4) (b := x0) (As := [.int x1]) (rest := []) (v := (some (va_rf (v2.map ad)))) E (c_X5_gridAt l D ad cy h x0 x1 e3) (mcw E.1.2.2.2.2 uw_1_193 uw_1_190 uw_1_192 us_1_1 uw_1_1 rfl rfl hd_X5_gridAt ⟨by decide, by decide⟩) rfl k1 rfl rfl (Nat.le_of_ble_eq_true rfl) dX5_cell_2 ⟨Nat.zero_le _, Nat.zero_le _⟩ ?_
  rcases om_spec hf with ⟨rfl, hf⟩ | ⟨a4, rfl, hf⟩
  · refine j_stk (st' := [.null]) rfl ?_
    refine j_astoreN (lv' := [(5, .null), (0, .ref (ad x0)), (1, .int x1), (2, .int x2), (3, .int x3), (4, .int x4)]) E dX5_cell_5 (by decide) rfl ?_
    refine j_aloadN E 0 rfl dX5_cell_7 ?_
    refine j_ifnullN (tgt := 20) E dX5_cell_9 (by decide) ?_
    refine j_lconst (v := 0) E dX5_cell_20 (by decide) ?_
    cases hf
    exact j_lret E hr hlk dX5_cell_21
  · refine j_stk (st' := [.ref (ad a4)]) rfl ?_
    refine j_astore (lv' := [(5, .ref (ad a4)), (0, .ref (ad x0)), (1, .int x1), (2, .int x2), (3, .int x3), (4, .int x4)]) E dX5_cell_5 (by decide) rfl ?_
    refine j_aload E 0 rfl dX5_cell_7 ?_
    refine j_ifnull E dX5_cell_9 ?_
    refine j_iload_n E 3 rfl dX5_cell_12 rfl ?_
    refine j_iload_n E 4 rfl dX5_cell_13 rfl ?_
    obtain ⟨v5, e6, hf⟩ := bs hf
    refine j_callS (As := [.int x2, .int x3]) (rest := []) (v := (some (.int v5))) E (c_X0_isForm l D ad cy h x2 x3 e6) (mcs E.1.2.2.2.2 uw_2_162 uw_2_160 uw_2_161 uw_1_9 rfl rfl hd_X0_isForm ⟨by decide, by decide⟩) rfl rfl (Nat.le_of_ble_eq_true rfl) dX5_cell_14 ⟨Nat.zero_le _, Nat.zero_le _⟩ ?_
    refine j_stk (st' := [.int v5]) rfl ?_
    refine j_if_ne (tgt := 22) E dX5_cell_17 (by decide) (fun z7 => ?_) (fun z7 => ?_)
    · have hf := ifn hf z7
      refine j_iload E 5 rfl dX5_cell_22 ?_
      refine j_if_lt (tgt := 43) E dX5_cell_24 (by decide) (fun z8 => ?_) (fun z8 => ?_)
      · have hf := ifp hf z8
        refine j_lconst (v := 0) E dX5_cell_43 (by decide) ?_
        cases hf
        exact j_lret E hr hlk dX5_cell_44
      · have hf := ifn hf z8
        refine j_iload E 5 rfl dX5_cell_27 ?_
        refine j_aload E 0 rfl dX5_cell_29 ?_
        refine j_iload_n E 3 rfl dX5_cell_31 rfl ?_
        refine j_iload_n E 4 rfl dX5_cell_32 rfl ?_
        refine j_aload_n E 1 rfl dX5_cell_33 rfl ?_
        obtain ⟨v9, ev9, hf⟩ := bs hf
        refine j_getR (ci := 4) (k0 := 3) (T := TX5) (N := 6) E (mI inUX5) rfl (by decide) (mU uw_1_110) ev9 dX5_cell_34 ?_
        obtain ⟨⟨h10, v11⟩, e12, hf⟩ := bs hf
        refine j_callS (As := [.ref (ad a4), .int x2, .int x3, .ref (ad v9)]) (rest := [.int x4]) (v := (some (.int v11))) E (c_X0_cellCount l D ad cy h a4 x2 x3 v9 e12) (mcs E.1.2.2.2.2 uw_2_168 uw_2_166 uw_2_167 uw_1_9 rfl rfl hd_X0_cellCount ⟨by decide, by decide⟩) rfl rfl (Nat.le_of_ble_eq_true rfl) dX5_cell_37 ⟨Nat.zero_le _, Nat.zero_le _⟩ ?_
        refine j_stk (st' := [.int v11, .int x4]) rfl ?_
        refine j_icmp_lt (tgt := 45) E dX5_cell_40 (by decide) (fun z13 => ?_) (fun z13 => ?_)
        · have hf := ifp hf z13
          refine j_aload E 0 rfl dX5_cell_45 ?_
          refine j_iload_n E 3 rfl dX5_cell_47 rfl ?_
          refine j_iload_n E 4 rfl dX5_cell_48 rfl ?_
          refine j_iload E 5 rfl dX5_cell_49 ?_
          refine j_aload_n E 1 rfl dX5_cell_51 rfl ?_
          obtain ⟨v14, ev14, hf⟩ := bs hf
          refine j_getR (ci := 4) (k0 := 3) (T := TX5) (N := 6) E (mI inUX5) rfl (by decide) (mU uw_1_110) ev14 dX5_cell_52 ?_
          obtain ⟨⟨h15, v16⟩, e17, hf⟩ := bs hf
          refine j_callS (As := [.ref (ad a4), .int x2, .int x3, .int x4, .ref (ad v14)]) (rest := []) (v := (some (.long v16))) E (c_X0_cellValue l D ad cy h10 a4 x2 x3 x4 v14 e17) (mcs E.1.2.2.2.2 uw_2_195 uw_2_193 uw_2_194 uw_1_9 rfl rfl hd_X0_cellValue ⟨by decide, by decide⟩) rfl rfl (Nat.le_of_ble_eq_true rfl) dX5_cell_55 ⟨Nat.zero_le _, Nat.zero_le _⟩ ?_
          refine j_stk (st' := [.long v16]) rfl ?_
          cases hf
          exact j_lret E hr hlk dX5_cell_58
        · have hf := ifn hf z13
          refine j_lconst (v := 0) E dX5_cell_43 (by decide) ?_
          cases hf
          exact j_lret E hr hlk dX5_cell_44
    · have hf := ifp hf z7
      refine j_lconst (v := 0) E dX5_cell_20 (by decide) ?_
      cases hf
      exact j_lret E hr hlk dX5_cell_21
noncomputable def f_X5_walks (h : HP) (x0 : Nat) (x1 : Int32) (x2 : Int32) (x3 : Int32) (x4 : Int32) : Option (HP × Int64) :=
  ck 4 h x0 <|
  (f_X5_gridAt h x0 x1).bind fun v2 =>
  om v2 (
    some (h, 0)
  ) fun a4 =>
    ck 1 h a4 <|
    (f_X2_isSquare h a4).bind fun v6 =>
    if v6 = 0 then (
      some (h, 0)
    ) else (
      ck 1 h a4 <|
      (f_X2_covers h a4 x2 x3).bind fun v10 =>
      if v10 = 0 then (
        some (h, 0)
      ) else (
        if x4 < 0 then (
          some (h, 0)
        ) else (
          if x4 ≤ 60 then (
            (gR 4 h x0 2).bind fun v15 =>
            ck 0 h v15 <|
            (f_X1_walkSum h v15 a4 x2 x3 x4).bind fun (h17, v18) =>
            some (h17, v18)
          ) else (
            some (h, 0)
          )
        )
      )
    )
abbrev rmX5_walks : Room := { frames := 4, cells := 0, slots := 0, locals := 90 }
theorem hd_X5_walks : yX5_walks.cls = RX5 ∧ yX5_walks.cls ≠ "java/lang/invoke/MethodHandle" ∧ yX5_walks.cls ≠ "java/lang/invoke/VarHandle" ∧ (parseMethodDescriptor yX5_walks.desc).map (fun d => d.parameters.length) = some 4 := by decide +kernel
set_option maxRecDepth 100000 in
set_option maxHeartbeats 4000000 in
theorem c_X5_walks (l : Launch) (D : va_G) (ad : Nat → Nat) (cy : Nat → ClassId) (h : HP) (x0 : Nat) (x1 : Int32) (x2 : Int32) (x3 : Int32) (x4 : Int32) {h' : HP} {r : Int64} (hf : f_X5_walks h x0 x1 x2 x3 x4 = some (h', r)) : Met l yX5_walks (wsM yX5_walks cX5_walks 6 (some .long)) rmX5_walks (va_Pc [.ref (ad x0), .int x1, .int x2, .int x3, .int x4] (PW D ad cy h)) (QV D ad cy (some (.long r)) h') 0 0 (Aw ad) := by
  refine met_of (own := RX5) (lv := [(0, .ref (ad x0)), (1, .int x1), (2, .int x2), (3, .int x3), (4, .int x4)]) (by decide) rfl (Nat.le_of_ble_eq_true rfl) rfl (fun p e s m args below meth c E hr hlk => ?_)
  unfold f_X5_walks at hf
  refine j_aload_n E 0 rfl dX5_walks_0 rfl ?_
  refine j_iload_n E 1 rfl dX5_walks_1 rfl ?_
  obtain ⟨k1, hf⟩ := ck_spec hf
  obtain ⟨v2, e3, hf⟩ := bs hf
  refine j_callV (ci := 4) (b := x0) (As := [.int x1]) (rest := []) (v := (some (va_rf (v2.map ad)))) E (c_X5_gridAt l D ad cy h x0 x1 e3) (mcw E.1.2.2.2.2 uw_1_193 uw_1_190 uw_1_192 us_1_1 uw_1_1 rfl rfl hd_X5_gridAt ⟨by decide, by decide⟩) rfl k1 rfl rfl (Nat.le_of_ble_eq_true rfl) dX5_walks_2 ⟨Nat.zero_le _, Nat.zero_le _⟩ ?_
  rcases om_spec hf with ⟨rfl, hf⟩ | ⟨a4, rfl, hf⟩
  · refine j_stk (st' := [.null]) rfl ?_
    refine j_astoreN (lv' := [(5, .null), (0, .ref (ad x0)), (1, .int x1), (2, .int x2), (3, .int x3), (4, .int x4)]) E dX5_walks_5 (by decide) rfl ?_
    refine j_aloadN E 0 rfl dX5_walks_7 ?_
    refine j_ifnullN (tgt := 30) E dX5_walks_9 (by decide) ?_
    refine j_lconst (v := 0) E dX5_walks_30 (by decide) ?_
    cases hf
    exact j_lret E hr hlk dX5_walks_31
  · refine j_stk (st' := [.ref (ad a4)]) rfl ?_
    refine j_astore (lv' := [(5, .ref (ad a4)), (0, .ref (ad x0)), (1, .int x1), (2, .int x2), (3, .int x3), (4, .int x4)]) E dX5_walks_5 (by decide) rfl ?_
    refine j_aload E 0 rfl dX5_walks_7 ?_
    refine j_ifnull E dX5_walks_9 ?_
    refine j_aload E 0 rfl dX5_walks_12 ?_
    obtain ⟨k5, hf⟩ := ck_spec hf
    obtain ⟨v6, e7, hf⟩ := bs hf
    refine j_callV (ci := 1) (b := a4) (As := []) (rest := []) (v := (some (.int v6))) E (c_X2_isSquare l D ad cy h a4 e7) (mcw E.1.2.2.2.2 uw_2_225 uw_2_222 uw_2_223 uw_2_224 uw_1_4 rfl rfl hd_X2_isSquare ⟨by decide, by decide⟩) rfl k5 rfl rfl (Nat.le_of_ble_eq_true rfl) dX5_walks_14 ⟨Nat.zero_le _, Nat.zero_le _⟩ ?_
    refine j_stk (st' := [.int v6]) rfl ?_
    refine j_if_eq (tgt := 30) E dX5_walks_17 (by decide) (fun z8 => ?_) (fun z8 => ?_)
    · have hf := ifp hf z8
      refine j_lconst (v := 0) E dX5_walks_30 (by decide) ?_
      cases hf
      exact j_lret E hr hlk dX5_walks_31
    · have hf := ifn hf z8
      refine j_aload E 0 rfl dX5_walks_20 ?_
      refine j_iload_n E 3 rfl dX5_walks_22 rfl ?_
      refine j_iload_n E 4 rfl dX5_walks_23 rfl ?_
      obtain ⟨k9, hf⟩ := ck_spec hf
      obtain ⟨v10, e11, hf⟩ := bs hf
      refine j_callV (ci := 1) (b := a4) (As := [.int x2, .int x3]) (rest := []) (v := (some (.int v10))) E (c_X2_covers l D ad cy h a4 x2 x3 e11) (mcw E.1.2.2.2.2 uw_1_201 uw_2_13 uw_1_199 uw_1_200 uw_1_4 rfl rfl hd_X2_covers ⟨by decide, by decide⟩) rfl k9 rfl rfl (Nat.le_of_ble_eq_true rfl) dX5_walks_24 ⟨Nat.zero_le _, Nat.zero_le _⟩ ?_
      refine j_stk (st' := [.int v10]) rfl ?_
      refine j_if_ne (tgt := 32) E dX5_walks_27 (by decide) (fun z12 => ?_) (fun z12 => ?_)
      · have hf := ifn hf z12
        refine j_iload E 5 rfl dX5_walks_32 ?_
        refine j_if_lt (tgt := 44) E dX5_walks_34 (by decide) (fun z13 => ?_) (fun z13 => ?_)
        · have hf := ifp hf z13
          refine j_lconst (v := 0) E dX5_walks_44 (by decide) ?_
          cases hf
          exact j_lret E hr hlk dX5_walks_45
        · have hf := ifn hf z13
          refine j_iload E 5 rfl dX5_walks_37 ?_
          refine j_bipush (v := 60) E dX5_walks_39 (by decide) ?_
          refine j_icmp_le (tgt := 46) E dX5_walks_41 (by decide) (fun z14 => ?_) (fun z14 => ?_)
          · have hf := ifp hf z14
            refine j_aload_n E 1 rfl dX5_walks_46 rfl ?_
            obtain ⟨v15, ev15, hf⟩ := bs hf
            refine j_getR (ci := 4) (k0 := 2) (T := TX5) (N := 6) E (mI inUX5) rfl (by decide) (mU uw_1_109) ev15 dX5_walks_47 ?_
            refine j_aload E 0 rfl dX5_walks_50 ?_
            refine j_iload_n E 3 rfl dX5_walks_52 rfl ?_
            refine j_iload_n E 4 rfl dX5_walks_53 rfl ?_
            refine j_iload E 5 rfl dX5_walks_54 ?_
            obtain ⟨k16, hf⟩ := ck_spec hf
            obtain ⟨⟨h17, v18⟩, e19, hf⟩ := bs hf
            refine j_callV (ci := 0) (b := v15) (As := [.ref (ad a4), .int x2, .int x3, .int x4]) (rest := []) (v := (some (.long v18))) E (c_X1_walkSum l D ad cy h v15 a4 x2 x3 x4 e19) (mcw E.1.2.2.2.2 uw_2_229 uw_2_226 uw_2_227 uw_2_228 uw_1_3 rfl rfl hd_X1_walkSum ⟨by decide, by decide⟩) rfl k16 rfl rfl (Nat.le_of_ble_eq_true rfl) dX5_walks_56 ⟨Nat.zero_le _, Nat.zero_le _⟩ ?_
            refine j_stk (st' := [.long v18]) rfl ?_
            cases hf
            exact j_lret E hr hlk dX5_walks_59
          · have hf := ifn hf z14
            refine j_lconst (v := 0) E dX5_walks_44 (by decide) ?_
            cases hf
            exact j_lret E hr hlk dX5_walks_45
      · have hf := ifp hf z12
        refine j_lconst (v := 0) E dX5_walks_30 (by decide) ?_
        cases hf
        exact j_lret E hr hlk dX5_walks_31
noncomputable def f_X5_way (h : HP) (x0 : Nat) (x1 : Int32) (x2 : Int32) (x3 : Int32) : Option (HP × Int32) :=
  ck 4 h x0 <|
  (f_X5_gridAt h x0 x1).bind fun v2 =>
  om v2 (
    some (h, (-1))
  ) fun a4 =>
    ck 1 h a4 <|
    (f_X2_hasRow h a4 x2).bind fun v6 =>
    if v6 = 0 then (
      some (h, (-2))
    ) else (
      ck 1 h a4 <|
      (f_X2_hasRow h a4 x3).bind fun v10 =>
      if v10 = 0 then (
        some (h, (-2))
      ) else (
        ck 1 h a4 <|
        (f_X2_isSquare h a4).bind fun v14 =>
        if v14 = 0 then (
          some (h, (-3))
        ) else (
          (gR 4 h x0 2).bind fun v17 =>
          ck 0 h v17 <|
          (f_X1_read h v17 a4).bind fun h19 =>
          (gR 4 h19 x0 2).bind fun v21 =>
          ck 0 h19 v21 <|
          (f_X1_wayLength h19 v21 x2 x3).bind fun v23 =>
          some (h19, v23)
        )
      )
    )
abbrev rmX5_way : Room := { frames := 3, cells := 0, slots := 0, locals := 68 }
theorem hd_X5_way : yX5_way.cls = RX5 ∧ yX5_way.cls ≠ "java/lang/invoke/MethodHandle" ∧ yX5_way.cls ≠ "java/lang/invoke/VarHandle" ∧ (parseMethodDescriptor yX5_way.desc).map (fun d => d.parameters.length) = some 3 := by decide +kernel
set_option maxRecDepth 100000 in
set_option maxHeartbeats 4000000 in
theorem c_X5_way (l : Launch) (D : va_G) (ad : Nat → Nat) (cy : Nat → ClassId) (h : HP) (x0 : Nat) (x1 : Int32) (x2 : Int32) (x3 : Int32) {h' : HP} {r : Int32} (hf : f_X5_way h x0 x1 x2 x3 = some (h', r)) : Met l yX5_way (wsM yX5_way cX5_way 5 (some .int)) rmX5_way (va_Pc [.ref (ad x0), .int x1, .int x2, .int x3] (PW D ad cy h)) (QV D ad cy (some (.int r)) h') 0 0 (Aw ad) := by
  refine met_of (own := RX5) (lv := [(0, .ref (ad x0)), (1, .int x1), (2, .int x2), (3, .int x3)]) (by decide) rfl (Nat.le_of_ble_eq_true rfl) rfl (fun p e s m args below meth c E hr hlk => ?_)
  unfold f_X5_way at hf
  refine j_aload_n E 0 rfl dX5_way_0 rfl ?_
  refine j_iload_n E 1 rfl dX5_way_1 rfl ?_
  obtain ⟨k1, hf⟩ := ck_spec hf
  obtain ⟨v2, e3, hf⟩ := bs hf
  refine j_callV (ci := 4) (b := x0) (As := [.int x1]) (rest := []) (v := (some (va_rf (v2.map ad)))) E (c_X5_gridAt l D ad cy h x0 x1 e3) (mcw E.1.2.2.2.2 uw_1_193 uw_1_190 uw_1_192 us_1_1 uw_1_1 rfl rfl hd_X5_gridAt ⟨by decide, by decide⟩) rfl k1 rfl rfl (Nat.le_of_ble_eq_true rfl) dX5_way_2 ⟨Nat.zero_le _, Nat.zero_le _⟩ ?_
  rcases om_spec hf with ⟨rfl, hf⟩ | ⟨a4, rfl, hf⟩
  · refine j_stk (st' := [.null]) rfl ?_
    refine j_astoreN (lv' := [(4, .null), (0, .ref (ad x0)), (1, .int x1), (2, .int x2), (3, .int x3)]) E dX5_way_5 (by decide) rfl ?_
    refine j_aloadN E 0 rfl dX5_way_7 ?_
    refine j_ifnonnullN E dX5_way_9 ?_
    refine j_iconst (v := (-1)) E dX5_way_12 (by decide) ?_
    cases hf
    exact j_iret E hr hlk dX5_way_13
  · refine j_stk (st' := [.ref (ad a4)]) rfl ?_
    refine j_astore (lv' := [(4, .ref (ad a4)), (0, .ref (ad x0)), (1, .int x1), (2, .int x2), (3, .int x3)]) E dX5_way_5 (by decide) rfl ?_
    refine j_aload E 0 rfl dX5_way_7 ?_
    refine j_ifnonnull (tgt := 14) E dX5_way_9 (by decide) ?_
    refine j_aload E 0 rfl dX5_way_14 ?_
    refine j_iload_n E 3 rfl dX5_way_16 rfl ?_
    obtain ⟨k5, hf⟩ := ck_spec hf
    obtain ⟨v6, e7, hf⟩ := bs hf
    refine j_callV (ci := 1) (b := a4) (As := [.int x2]) (rest := []) (v := (some (.int v6))) E (c_X2_hasRow l D ad cy h a4 x2 e7) (mcw E.1.2.2.2.2 uw_1_205 uw_3_0 uw_1_203 uw_1_204 uw_1_4 rfl rfl hd_X2_hasRow ⟨by decide, by decide⟩) rfl k5 rfl rfl (Nat.le_of_ble_eq_true rfl) dX5_way_17 ⟨Nat.zero_le _, Nat.zero_le _⟩ ?_
    refine j_stk (st' := [.int v6]) rfl ?_
    refine j_if_eq (tgt := 32) E dX5_way_20 (by decide) (fun z8 => ?_) (fun z8 => ?_)
    · have hf := ifp hf z8
      refine j_bipush (v := (-2)) E dX5_way_32 (by decide) ?_
      cases hf
      exact j_iret E hr hlk dX5_way_34
    · have hf := ifn hf z8
      refine j_aload E 0 rfl dX5_way_23 ?_
      refine j_iload_n E 4 rfl dX5_way_25 rfl ?_
      obtain ⟨k9, hf⟩ := ck_spec hf
      obtain ⟨v10, e11, hf⟩ := bs hf
      refine j_callV (ci := 1) (b := a4) (As := [.int x3]) (rest := []) (v := (some (.int v10))) E (c_X2_hasRow l D ad cy h a4 x3 e11) (mcw E.1.2.2.2.2 uw_1_205 uw_3_0 uw_1_203 uw_1_204 uw_1_4 rfl rfl hd_X2_hasRow ⟨by decide, by decide⟩) rfl k9 rfl rfl (Nat.le_of_ble_eq_true rfl) dX5_way_26 ⟨Nat.zero_le _, Nat.zero_le _⟩ ?_
      refine j_stk (st' := [.int v10]) rfl ?_
      refine j_if_ne (tgt := 35) E dX5_way_29 (by decide) (fun z12 => ?_) (fun z12 => ?_)
      · have hf := ifn hf z12
        refine j_aload E 0 rfl dX5_way_35 ?_
        obtain ⟨k13, hf⟩ := ck_spec hf
        obtain ⟨v14, e15, hf⟩ := bs hf
        refine j_callV (ci := 1) (b := a4) (As := []) (rest := []) (v := (some (.int v14))) E (c_X2_isSquare l D ad cy h a4 e15) (mcw E.1.2.2.2.2 uw_2_225 uw_2_222 uw_2_223 uw_2_224 uw_1_4 rfl rfl hd_X2_isSquare ⟨by decide, by decide⟩) rfl k13 rfl rfl (Nat.le_of_ble_eq_true rfl) dX5_way_37 ⟨Nat.zero_le _, Nat.zero_le _⟩ ?_
        refine j_stk (st' := [.int v14]) rfl ?_
        refine j_if_ne (tgt := 46) E dX5_way_40 (by decide) (fun z16 => ?_) (fun z16 => ?_)
        · have hf := ifn hf z16
          refine j_aload_n E 1 rfl dX5_way_46 rfl ?_
          obtain ⟨v17, ev17, hf⟩ := bs hf
          refine j_getR (ci := 4) (k0 := 2) (T := TX5) (N := 6) E (mI inUX5) rfl (by decide) (mU uw_1_109) ev17 dX5_way_47 ?_
          refine j_aload E 0 rfl dX5_way_50 ?_
          obtain ⟨k18, hf⟩ := ck_spec hf
          obtain ⟨h19, e20, hf⟩ := bs hf
          refine j_callV (ci := 0) (b := v17) (As := [.ref (ad a4)]) (rest := []) (v := none) E (c_X1_read l D ad cy h v17 a4 e20) (mcw E.1.2.2.2.2 uw_3_4 uw_3_1 uw_3_2 uw_3_3 uw_1_3 rfl rfl hd_X1_read ⟨by decide, by decide⟩) rfl k18 rfl rfl (Nat.le_of_ble_eq_true rfl) dX5_way_52 ⟨Nat.zero_le _, Nat.zero_le _⟩ ?_
          refine j_stk (st' := []) rfl ?_
          refine j_aload_n E 1 rfl dX5_way_55 rfl ?_
          obtain ⟨v21, ev21, hf⟩ := bs hf
          refine j_getR (ci := 4) (k0 := 2) (T := TX5) (N := 6) E (mI inUX5) rfl (by decide) (mU uw_1_109) ev21 dX5_way_56 ?_
          refine j_iload_n E 3 rfl dX5_way_59 rfl ?_
          refine j_iload_n E 4 rfl dX5_way_60 rfl ?_
          obtain ⟨k22, hf⟩ := ck_spec hf
          obtain ⟨v23, e24, hf⟩ := bs hf
          refine j_callV (ci := 0) (b := v21) (As := [.int x2, .int x3]) (rest := []) (v := (some (.int v23))) E (c_X1_wayLength l D ad cy h19 v21 x2 x3 e24) (mcw E.1.2.2.2.2 uw_3_14 uw_3_11 uw_3_12 uw_3_13 uw_1_3 rfl rfl hd_X1_wayLength ⟨by decide, by decide⟩) rfl k22 rfl rfl (Nat.le_of_ble_eq_true rfl) dX5_way_61 ⟨Nat.zero_le _, Nat.zero_le _⟩ ?_
          refine j_stk (st' := [.int v23]) rfl ?_
          cases hf
          exact j_iret E hr hlk dX5_way_64
        · have hf := ifp hf z16
          refine j_bipush (v := (-3)) E dX5_way_43 (by decide) ?_
          cases hf
          exact j_iret E hr hlk dX5_way_45
      · have hf := ifp hf z12
        refine j_bipush (v := (-2)) E dX5_way_32 (by decide) ?_
        cases hf
        exact j_iret E hr hlk dX5_way_34
noncomputable def f_X5_ring (h : HP) (x0 : Nat) (x1 : Int32) (x2 : Int32) : Option (HP × Int32) :=
  ck 4 h x0 <|
  (f_X5_gridAt h x0 x1).bind fun v2 =>
  om v2 (
    some (h, (-1))
  ) fun a4 =>
    if x2 = (-1) then (
      ck 1 h a4 <|
      (f_X2_isSquare h a4).bind fun v7 =>
      if v7 = 0 then (
        some (h, (-3))
      ) else (
        (gR 4 h x0 2).bind fun v10 =>
        ck 0 h v10 <|
        (f_X1_read h v10 a4).bind fun h12 =>
        (gR 4 h12 x0 2).bind fun v14 =>
        ck 0 h12 v14 <|
        (f_X1_closeReach h12 v14).bind fun h16 =>
        (gR 4 h16 x0 2).bind fun v18 =>
        if x2 = (-1) then (
          (gI 1 h16 a4 0).bind fun v20 =>
          ck 0 h16 v18 <|
          (f_X1_ringsBelow h16 v18 v20).bind fun v22 =>
          some (h16, v22)
        ) else (
          (gR 4 h16 x0 2).bind fun v24 =>
          ck 0 h16 v24 <|
          (f_X1_leastOfRing h16 v24 x2).bind fun v26 =>
          ck 0 h16 v18 <|
          (f_X1_ringsBelow h16 v18 v26).bind fun v29 =>
          some (h16, v29)
        )
      )
    ) else (
      ck 1 h a4 <|
      (f_X2_hasRow h a4 x2).bind fun v32 =>
      if v32 = 0 then (
        some (h, (-2))
      ) else (
        ck 1 h a4 <|
        (f_X2_isSquare h a4).bind fun v36 =>
        if v36 = 0 then (
          some (h, (-3))
        ) else (
          (gR 4 h x0 2).bind fun v39 =>
          ck 0 h v39 <|
          (f_X1_read h v39 a4).bind fun h41 =>
          (gR 4 h41 x0 2).bind fun v43 =>
          ck 0 h41 v43 <|
          (f_X1_closeReach h41 v43).bind fun h45 =>
          (gR 4 h45 x0 2).bind fun v47 =>
          if x2 = (-1) then (
            (gI 1 h45 a4 0).bind fun v49 =>
            ck 0 h45 v47 <|
            (f_X1_ringsBelow h45 v47 v49).bind fun v51 =>
            some (h45, v51)
          ) else (
            (gR 4 h45 x0 2).bind fun v53 =>
            ck 0 h45 v53 <|
            (f_X1_leastOfRing h45 v53 x2).bind fun v55 =>
            ck 0 h45 v47 <|
            (f_X1_ringsBelow h45 v47 v55).bind fun v58 =>
            some (h45, v58)
          )
        )
      )
    )
abbrev rmX5_ring : Room := { frames := 3, cells := 0, slots := 0, locals := 66 }
theorem hd_X5_ring : yX5_ring.cls = RX5 ∧ yX5_ring.cls ≠ "java/lang/invoke/MethodHandle" ∧ yX5_ring.cls ≠ "java/lang/invoke/VarHandle" ∧ (parseMethodDescriptor yX5_ring.desc).map (fun d => d.parameters.length) = some 2 := by decide +kernel
set_option maxRecDepth 100000 in
set_option maxHeartbeats 4000000 in
theorem c_X5_ring (l : Launch) (D : va_G) (ad : Nat → Nat) (cy : Nat → ClassId) (h : HP) (x0 : Nat) (x1 : Int32) (x2 : Int32) {h' : HP} {r : Int32} (hf : f_X5_ring h x0 x1 x2 = some (h', r)) : Met l yX5_ring (wsM yX5_ring cX5_ring 4 (some .int)) rmX5_ring (va_Pc [.ref (ad x0), .int x1, .int x2] (PW D ad cy h)) (QV D ad cy (some (.int r)) h') 0 0 (Aw ad) := by
  refine met_of (own := RX5) (lv := [(0, .ref (ad x0)), (1, .int x1), (2, .int x2)]) (by decide) rfl (Nat.le_of_ble_eq_true rfl) rfl (fun p e s m args below meth c E hr hlk => ?_)
  unfold f_X5_ring at hf
  refine j_aload_n E 0 rfl dX5_ring_0 rfl ?_
  refine j_iload_n E 1 rfl dX5_ring_1 rfl ?_
  obtain ⟨k1, hf⟩ := ck_spec hf
  obtain ⟨v2, e3, hf⟩ := bs hf
  refine j_callV (ci := 4) (b := x0) (As := [.int x1]) (rest := []) (v := (some (va_rf (v2.map ad)))) E (c_X5_gridAt l D ad cy h x0 x1 e3) (mcw E.1.2.2.2.2 uw_1_193 uw_1_190 uw_1_192 us_1_1 uw_1_1 rfl rfl hd_X5_gridAt ⟨by decide, by decide⟩) rfl k1 rfl rfl (Nat.le_of_ble_eq_true rfl) dX5_ring_2 ⟨Nat.zero_le _, Nat.zero_le _⟩ ?_
  rcases om_spec hf with ⟨rfl, hf⟩ | ⟨a4, rfl, hf⟩
  · refine j_stk (st' := [.null]) rfl ?_
    refine j_astore_nN (lv' := [(3, .null), (0, .ref (ad x0)), (1, .int x1), (2, .int x2)]) E dX5_ring_5 rfl (by decide) rfl ?_
    refine j_aload_nN E 0 rfl dX5_ring_6 rfl ?_
    refine j_ifnonnullN E dX5_ring_7 ?_
    refine j_iconst (v := (-1)) E dX5_ring_10 (by decide) ?_
    cases hf
    exact j_iret E hr hlk dX5_ring_11
  · refine j_stk (st' := [.ref (ad a4)]) rfl ?_
    refine j_astore_n (lv' := [(3, .ref (ad a4)), (0, .ref (ad x0)), (1, .int x1), (2, .int x2)]) E dX5_ring_5 rfl (by decide) rfl ?_
    refine j_aload_n E 0 rfl dX5_ring_6 rfl ?_
    refine j_ifnonnull (tgt := 12) E dX5_ring_7 (by decide) ?_
    refine j_iload_n E 3 rfl dX5_ring_12 rfl ?_
    refine j_iconst (v := (-1)) E dX5_ring_13 (by decide) ?_
    refine j_icmp_eq (tgt := 28) E dX5_ring_14 (by decide) (fun z5 => ?_) (fun z5 => ?_)
    · have hf := ifp hf z5
      refine j_aload_n E 0 rfl dX5_ring_28 rfl ?_
      obtain ⟨k6, hf⟩ := ck_spec hf
      obtain ⟨v7, e8, hf⟩ := bs hf
      refine j_callV (ci := 1) (b := a4) (As := []) (rest := []) (v := (some (.int v7))) E (c_X2_isSquare l D ad cy h a4 e8) (mcw E.1.2.2.2.2 uw_2_225 uw_2_222 uw_2_223 uw_2_224 uw_1_4 rfl rfl hd_X2_isSquare ⟨by decide, by decide⟩) rfl k6 rfl rfl (Nat.le_of_ble_eq_true rfl) dX5_ring_29 ⟨Nat.zero_le _, Nat.zero_le _⟩ ?_
      refine j_stk (st' := [.int v7]) rfl ?_
      refine j_if_ne (tgt := 38) E dX5_ring_32 (by decide) (fun z9 => ?_) (fun z9 => ?_)
      · have hf := ifn hf z9
        refine j_aload_n E 1 rfl dX5_ring_38 rfl ?_
        obtain ⟨v10, ev10, hf⟩ := bs hf
        refine j_getR (ci := 4) (k0 := 2) (T := TX5) (N := 6) E (mI inUX5) rfl (by decide) (mU uw_1_109) ev10 dX5_ring_39 ?_
        refine j_aload_n E 0 rfl dX5_ring_42 rfl ?_
        obtain ⟨k11, hf⟩ := ck_spec hf
        obtain ⟨h12, e13, hf⟩ := bs hf
        refine j_callV (ci := 0) (b := v10) (As := [.ref (ad a4)]) (rest := []) (v := none) E (c_X1_read l D ad cy h v10 a4 e13) (mcw E.1.2.2.2.2 uw_3_4 uw_3_1 uw_3_2 uw_3_3 uw_1_3 rfl rfl hd_X1_read ⟨by decide, by decide⟩) rfl k11 rfl rfl (Nat.le_of_ble_eq_true rfl) dX5_ring_43 ⟨Nat.zero_le _, Nat.zero_le _⟩ ?_
        refine j_stk (st' := []) rfl ?_
        refine j_aload_n E 1 rfl dX5_ring_46 rfl ?_
        obtain ⟨v14, ev14, hf⟩ := bs hf
        refine j_getR (ci := 4) (k0 := 2) (T := TX5) (N := 6) E (mI inUX5) rfl (by decide) (mU uw_1_109) ev14 dX5_ring_47 ?_
        obtain ⟨k15, hf⟩ := ck_spec hf
        obtain ⟨h16, e17, hf⟩ := bs hf
        refine j_callV (ci := 0) (b := v14) (As := []) (rest := []) (v := none) E (c_X1_closeReach l D ad cy h12 v14 e17) (mcw E.1.2.2.2.2 uw_3_26 uw_3_23 uw_3_24 uw_3_25 uw_1_3 rfl rfl hd_X1_closeReach ⟨by decide, by decide⟩) rfl k15 rfl rfl (Nat.le_of_ble_eq_true rfl) dX5_ring_50 ⟨Nat.zero_le _, Nat.zero_le _⟩ ?_
        refine j_stk (st' := []) rfl ?_
        refine j_aload_n E 1 rfl dX5_ring_53 rfl ?_
        obtain ⟨v18, ev18, hf⟩ := bs hf
        refine j_getR (ci := 4) (k0 := 2) (T := TX5) (N := 6) E (mI inUX5) rfl (by decide) (mU uw_1_109) ev18 dX5_ring_54 ?_
        refine j_iload_n E 3 rfl dX5_ring_57 rfl ?_
        refine j_iconst (v := (-1)) E dX5_ring_58 (by decide) ?_
        refine j_icmp_ne (tgt := 69) E dX5_ring_59 (by decide) (fun z19 => ?_) (fun z19 => ?_)
        · have hf := ifn hf z19
          refine j_aload_n E 1 rfl dX5_ring_69 rfl ?_
          obtain ⟨v24, ev24, hf⟩ := bs hf
          refine j_getR (ci := 4) (k0 := 2) (T := TX5) (N := 6) E (mI inUX5) rfl (by decide) (mU uw_1_109) ev24 dX5_ring_70 ?_
          refine j_iload_n E 3 rfl dX5_ring_73 rfl ?_
          obtain ⟨k25, hf⟩ := ck_spec hf
          obtain ⟨v26, e27, hf⟩ := bs hf
          refine j_callV (ci := 0) (b := v24) (As := [.int x2]) (rest := [.ref (ad v18)]) (v := (some (.int v26))) E (c_X1_leastOfRing l D ad cy h16 v24 x2 e27) (mcw E.1.2.2.2.2 uw_3_30 uw_3_27 uw_3_28 uw_3_29 uw_1_3 rfl rfl hd_X1_leastOfRing ⟨by decide, by decide⟩) rfl k25 rfl rfl (Nat.le_of_ble_eq_true rfl) dX5_ring_74 ⟨Nat.zero_le _, Nat.zero_le _⟩ ?_
          refine j_stk (st' := [.int v26, .ref (ad v18)]) rfl ?_
          obtain ⟨k28, hf⟩ := ck_spec hf
          obtain ⟨v29, e30, hf⟩ := bs hf
          refine j_callV (ci := 0) (b := v18) (As := [.int v26]) (rest := []) (v := (some (.int v29))) E (c_X1_ringsBelow l D ad cy h16 v18 v26 e30) (mcw E.1.2.2.2.2 uw_3_34 uw_3_31 uw_3_32 uw_3_33 uw_1_3 rfl rfl hd_X1_ringsBelow ⟨by decide, by decide⟩) rfl k28 rfl rfl (Nat.le_of_ble_eq_true rfl) dX5_ring_77 ⟨Nat.zero_le _, Nat.zero_le _⟩ ?_
          refine j_stk (st' := [.int v29]) rfl ?_
          cases hf
          exact j_iret E hr hlk dX5_ring_80
        · have hf := ifp hf z19
          refine j_aload_n E 0 rfl dX5_ring_62 rfl ?_
          obtain ⟨v20, ev20, hf⟩ := bs hf
          refine j_getI (ci := 1) (k0 := 0) (T := TX2) (N := 4) E (mI inUX2) rfl (by decide) (mU uw_1_76) ev20 dX5_ring_63 ?_
          refine j_goto (tgt := 77) E dX5_ring_66 (by decide) ?_
          obtain ⟨k21, hf⟩ := ck_spec hf
          obtain ⟨v22, e23, hf⟩ := bs hf
          refine j_callV (ci := 0) (b := v18) (As := [.int v20]) (rest := []) (v := (some (.int v22))) E (c_X1_ringsBelow l D ad cy h16 v18 v20 e23) (mcw E.1.2.2.2.2 uw_3_34 uw_3_31 uw_3_32 uw_3_33 uw_1_3 rfl rfl hd_X1_ringsBelow ⟨by decide, by decide⟩) rfl k21 rfl rfl (Nat.le_of_ble_eq_true rfl) dX5_ring_77 ⟨Nat.zero_le _, Nat.zero_le _⟩ ?_
          refine j_stk (st' := [.int v22]) rfl ?_
          cases hf
          exact j_iret E hr hlk dX5_ring_80
      · have hf := ifp hf z9
        refine j_bipush (v := (-3)) E dX5_ring_35 (by decide) ?_
        cases hf
        exact j_iret E hr hlk dX5_ring_37
    · have hf := ifn hf z5
      refine j_aload_n E 0 rfl dX5_ring_17 rfl ?_
      refine j_iload_n E 3 rfl dX5_ring_18 rfl ?_
      obtain ⟨k31, hf⟩ := ck_spec hf
      obtain ⟨v32, e33, hf⟩ := bs hf
      refine j_callV (ci := 1) (b := a4) (As := [.int x2]) (rest := []) (v := (some (.int v32))) E (c_X2_hasRow l D ad cy h a4 x2 e33) (mcw E.1.2.2.2.2 uw_1_205 uw_3_0 uw_1_203 uw_1_204 uw_1_4 rfl rfl hd_X2_hasRow ⟨by decide, by decide⟩) rfl k31 rfl rfl (Nat.le_of_ble_eq_true rfl) dX5_ring_19 ⟨Nat.zero_le _, Nat.zero_le _⟩ ?_
      refine j_stk (st' := [.int v32]) rfl ?_
      refine j_if_ne (tgt := 28) E dX5_ring_22 (by decide) (fun z34 => ?_) (fun z34 => ?_)
      · have hf := ifn hf z34
        refine j_aload_n E 0 rfl dX5_ring_28 rfl ?_
        obtain ⟨k35, hf⟩ := ck_spec hf
        obtain ⟨v36, e37, hf⟩ := bs hf
        refine j_callV (ci := 1) (b := a4) (As := []) (rest := []) (v := (some (.int v36))) E (c_X2_isSquare l D ad cy h a4 e37) (mcw E.1.2.2.2.2 uw_2_225 uw_2_222 uw_2_223 uw_2_224 uw_1_4 rfl rfl hd_X2_isSquare ⟨by decide, by decide⟩) rfl k35 rfl rfl (Nat.le_of_ble_eq_true rfl) dX5_ring_29 ⟨Nat.zero_le _, Nat.zero_le _⟩ ?_
        refine j_stk (st' := [.int v36]) rfl ?_
        refine j_if_ne (tgt := 38) E dX5_ring_32 (by decide) (fun z38 => ?_) (fun z38 => ?_)
        · have hf := ifn hf z38
          refine j_aload_n E 1 rfl dX5_ring_38 rfl ?_
          obtain ⟨v39, ev39, hf⟩ := bs hf
          refine j_getR (ci := 4) (k0 := 2) (T := TX5) (N := 6) E (mI inUX5) rfl (by decide) (mU uw_1_109) ev39 dX5_ring_39 ?_
          refine j_aload_n E 0 rfl dX5_ring_42 rfl ?_
          obtain ⟨k40, hf⟩ := ck_spec hf
          obtain ⟨h41, e42, hf⟩ := bs hf
          refine j_callV (ci := 0) (b := v39) (As := [.ref (ad a4)]) (rest := []) (v := none) E (c_X1_read l D ad cy h v39 a4 e42) (mcw E.1.2.2.2.2 uw_3_4 uw_3_1 uw_3_2 uw_3_3 uw_1_3 rfl rfl hd_X1_read ⟨by decide, by decide⟩) rfl k40 rfl rfl (Nat.le_of_ble_eq_true rfl) dX5_ring_43 ⟨Nat.zero_le _, Nat.zero_le _⟩ ?_
          refine j_stk (st' := []) rfl ?_
          refine j_aload_n E 1 rfl dX5_ring_46 rfl ?_
          obtain ⟨v43, ev43, hf⟩ := bs hf
          refine j_getR (ci := 4) (k0 := 2) (T := TX5) (N := 6) E (mI inUX5) rfl (by decide) (mU uw_1_109) ev43 dX5_ring_47 ?_
          obtain ⟨k44, hf⟩ := ck_spec hf
          obtain ⟨h45, e46, hf⟩ := bs hf
          refine j_callV (ci := 0) (b := v43) (As := []) (rest := []) (v := none) E (c_X1_closeReach l D ad cy h41 v43 e46) (mcw E.1.2.2.2.2 uw_3_26 uw_3_23 uw_3_24 uw_3_25 uw_1_3 rfl rfl hd_X1_closeReach ⟨by decide, by decide⟩) rfl k44 rfl rfl (Nat.le_of_ble_eq_true rfl) dX5_ring_50 ⟨Nat.zero_le _, Nat.zero_le _⟩ ?_
          refine j_stk (st' := []) rfl ?_
          refine j_aload_n E 1 rfl dX5_ring_53 rfl ?_
          obtain ⟨v47, ev47, hf⟩ := bs hf
          refine j_getR (ci := 4) (k0 := 2) (T := TX5) (N := 6) E (mI inUX5) rfl (by decide) (mU uw_1_109) ev47 dX5_ring_54 ?_
          refine j_iload_n E 3 rfl dX5_ring_57 rfl ?_
          refine j_iconst (v := (-1)) E dX5_ring_58 (by decide) ?_
          refine j_icmp_ne (tgt := 69) E dX5_ring_59 (by decide) (fun z48 => ?_) (fun z48 => ?_)
          · have hf := ifn hf z48
            refine j_aload_n E 1 rfl dX5_ring_69 rfl ?_
            obtain ⟨v53, ev53, hf⟩ := bs hf
            refine j_getR (ci := 4) (k0 := 2) (T := TX5) (N := 6) E (mI inUX5) rfl (by decide) (mU uw_1_109) ev53 dX5_ring_70 ?_
            refine j_iload_n E 3 rfl dX5_ring_73 rfl ?_
            obtain ⟨k54, hf⟩ := ck_spec hf
            obtain ⟨v55, e56, hf⟩ := bs hf
            refine j_callV (ci := 0) (b := v53) (As := [.int x2]) (rest := [.ref (ad v47)]) (v := (some (.int v55))) E (c_X1_leastOfRing l D ad cy h45 v53 x2 e56) (mcw E.1.2.2.2.2 uw_3_30 uw_3_27 uw_3_28 uw_3_29 uw_1_3 rfl rfl hd_X1_leastOfRing ⟨by decide, by decide⟩) rfl k54 rfl rfl (Nat.le_of_ble_eq_true rfl) dX5_ring_74 ⟨Nat.zero_le _, Nat.zero_le _⟩ ?_
            refine j_stk (st' := [.int v55, .ref (ad v47)]) rfl ?_
            obtain ⟨k57, hf⟩ := ck_spec hf
            obtain ⟨v58, e59, hf⟩ := bs hf
            refine j_callV (ci := 0) (b := v47) (As := [.int v55]) (rest := []) (v := (some (.int v58))) E (c_X1_ringsBelow l D ad cy h45 v47 v55 e59) (mcw E.1.2.2.2.2 uw_3_34 uw_3_31 uw_3_32 uw_3_33 uw_1_3 rfl rfl hd_X1_ringsBelow ⟨by decide, by decide⟩) rfl k57 rfl rfl (Nat.le_of_ble_eq_true rfl) dX5_ring_77 ⟨Nat.zero_le _, Nat.zero_le _⟩ ?_
            refine j_stk (st' := [.int v58]) rfl ?_
            cases hf
            exact j_iret E hr hlk dX5_ring_80
          · have hf := ifp hf z48
            refine j_aload_n E 0 rfl dX5_ring_62 rfl ?_
            obtain ⟨v49, ev49, hf⟩ := bs hf
            refine j_getI (ci := 1) (k0 := 0) (T := TX2) (N := 4) E (mI inUX2) rfl (by decide) (mU uw_1_76) ev49 dX5_ring_63 ?_
            refine j_goto (tgt := 77) E dX5_ring_66 (by decide) ?_
            obtain ⟨k50, hf⟩ := ck_spec hf
            obtain ⟨v51, e52, hf⟩ := bs hf
            refine j_callV (ci := 0) (b := v47) (As := [.int v49]) (rest := []) (v := (some (.int v51))) E (c_X1_ringsBelow l D ad cy h45 v47 v49 e52) (mcw E.1.2.2.2.2 uw_3_34 uw_3_31 uw_3_32 uw_3_33 uw_1_3 rfl rfl hd_X1_ringsBelow ⟨by decide, by decide⟩) rfl k50 rfl rfl (Nat.le_of_ble_eq_true rfl) dX5_ring_77 ⟨Nat.zero_le _, Nat.zero_le _⟩ ?_
            refine j_stk (st' := [.int v51]) rfl ?_
            cases hf
            exact j_iret E hr hlk dX5_ring_80
        · have hf := ifp hf z38
          refine j_bipush (v := (-3)) E dX5_ring_35 (by decide) ?_
          cases hf
          exact j_iret E hr hlk dX5_ring_37
      · have hf := ifp hf z34
        refine j_bipush (v := (-2)) E dX5_ring_25 (by decide) ?_
        cases hf
        exact j_iret E hr hlk dX5_ring_27
noncomputable def f_X5_putDraftNumbers (h : HP) (x0 : Nat) : Option (HP) :=
  (gR 4 h x0 4).bind fun v1 =>
  (gR 4 h x0 5).bind fun v2 =>
  (pR 4 h x0 4 (some v2)).bind fun h3 =>
  (pR 4 h3 x0 5 (some v1)).bind fun h4 =>
  some h4
abbrev rmX5_putDraftNumbers : Room := { frames := 0, cells := 0, slots := 0, locals := 0 }
theorem hd_X5_putDraftNumbers : yX5_putDraftNumbers.cls = RX5 ∧ yX5_putDraftNumbers.cls ≠ "java/lang/invoke/MethodHandle" ∧ yX5_putDraftNumbers.cls ≠ "java/lang/invoke/VarHandle" ∧ (parseMethodDescriptor yX5_putDraftNumbers.desc).map (fun d => d.parameters.length) = some 0 := by decide +kernel
set_option maxRecDepth 100000 in
set_option maxHeartbeats 4000000 in
theorem c_X5_putDraftNumbers (l : Launch) (D : va_G) (ad : Nat → Nat) (cy : Nat → ClassId) (h : HP) (x0 : Nat) {h' : HP} (hf : f_X5_putDraftNumbers h x0 = some h') : Met l yX5_putDraftNumbers (wsM yX5_putDraftNumbers cX5_putDraftNumbers 2 none) rmX5_putDraftNumbers (va_Pc [.ref (ad x0)] (PW D ad cy h)) (QV D ad cy none h') 0 0 (Aw ad) := by
  refine met_of (own := RX5) (lv := [(0, .ref (ad x0))]) (by decide) rfl (Nat.le_of_ble_eq_true rfl) rfl (fun p e s m args below meth c E hr hlk => ?_)
  unfold f_X5_putDraftNumbers at hf
  refine j_aload_n E 0 rfl dX5_putDraftNumbers_0 rfl ?_
  obtain ⟨v1, ev1, hf⟩ := bs hf
  refine j_getR (ci := 4) (k0 := 4) (T := TX5) (N := 6) E (mI inUX5) rfl (by decide) (mU uw_1_111) ev1 dX5_putDraftNumbers_1 ?_
  refine j_astore_n (lv' := [(1, .ref (ad v1)), (0, .ref (ad x0))]) E dX5_putDraftNumbers_4 rfl (by decide) rfl ?_
  refine j_aload_n E 1 rfl dX5_putDraftNumbers_5 rfl ?_
  refine j_aload_n E 1 rfl dX5_putDraftNumbers_6 rfl ?_
  obtain ⟨v2, ev2, hf⟩ := bs hf
  refine j_getR (ci := 4) (k0 := 5) (T := TX5) (N := 6) E (mI inUX5) rfl (by decide) (mU uw_1_112) ev2 dX5_putDraftNumbers_7 ?_
  obtain ⟨h3, eh3, hf⟩ := bs hf
  refine j_putR (ci := 4) (k0 := 4) (T := TX5) (N := 6) E (mI inUX5) rfl (by decide) (mU uw_1_111) tyX5 tyX5_ok nmX5 rfl (tyX5_ok 4 (by decide)) (Or.inl ⟨_, rfl⟩) eh3 dX5_putDraftNumbers_10 ?_
  refine j_aload_n E 1 rfl dX5_putDraftNumbers_13 rfl ?_
  refine j_aload_n E 0 rfl dX5_putDraftNumbers_14 rfl ?_
  obtain ⟨h4, eh4, hf⟩ := bs hf
  refine j_putR (ci := 4) (k0 := 5) (T := TX5) (N := 6) E (mI inUX5) rfl (by decide) (mU uw_1_112) tyX5 tyX5_ok nmX5 rfl (tyX5_ok 5 (by decide)) (Or.inl ⟨_, rfl⟩) eh4 dX5_putDraftNumbers_15 ?_
  cases hf
  exact j_vret E hr hlk dX5_putDraftNumbers_18
noncomputable def f_X5_sort (h : HP) (x0 : Nat) (x1 : Int32) : Option (HP × Int32) :=
  ck 4 h x0 <|
  (f_X5_gridAt h x0 x1).bind fun v2 =>
  om v2 (
    some (h, (-1))
  ) fun a4 =>
    ck 1 h a4 <|
    (f_X2_isSquare h a4).bind fun v6 =>
    if v6 = 0 then (
      some (h, (-3))
    ) else (
      (gR 4 h x0 2).bind fun v9 =>
      ck 0 h v9 <|
      (f_X1_read h v9 a4).bind fun h11 =>
      (gR 4 h11 x0 2).bind fun v13 =>
      (gR 4 h11 x0 5).bind fun v14 =>
      ck 0 h11 v13 <|
      (f_X1_sortInto h11 v13 v14).bind fun (h16, v17) =>
      if v17 = 0 then (
        some (h16, (-3))
      ) else (
        ck 4 h16 x0 <|
        (f_X5_putDraftNumbers h16 x0).bind fun h21 =>
        (gR 4 h21 x0 4).bind fun v23 =>
        (gI 2 h21 v23 0).bind fun v24 =>
        some (h21, v24)
      )
    )
abbrev rmX5_sort : Room := { frames := 4, cells := 0, slots := 0, locals := 91 }
theorem hd_X5_sort : yX5_sort.cls = RX5 ∧ yX5_sort.cls ≠ "java/lang/invoke/MethodHandle" ∧ yX5_sort.cls ≠ "java/lang/invoke/VarHandle" ∧ (parseMethodDescriptor yX5_sort.desc).map (fun d => d.parameters.length) = some 1 := by decide +kernel
set_option maxRecDepth 100000 in
set_option maxHeartbeats 4000000 in
theorem c_X5_sort (l : Launch) (D : va_G) (ad : Nat → Nat) (cy : Nat → ClassId) (h : HP) (x0 : Nat) (x1 : Int32) {h' : HP} {r : Int32} (hf : f_X5_sort h x0 x1 = some (h', r)) : Met l yX5_sort (wsM yX5_sort cX5_sort 3 (some .int)) rmX5_sort (va_Pc [.ref (ad x0), .int x1] (PW D ad cy h)) (QV D ad cy (some (.int r)) h') 0 0 (Aw ad) := by
  refine met_of (own := RX5) (lv := [(0, .ref (ad x0)), (1, .int x1)]) (by decide) rfl (Nat.le_of_ble_eq_true rfl) rfl (fun p e s m args below meth c E hr hlk => ?_)
  unfold f_X5_sort at hf
  refine j_aload_n E 0 rfl dX5_sort_0 rfl ?_
  refine j_iload_n E 1 rfl dX5_sort_1 rfl ?_
  obtain ⟨k1, hf⟩ := ck_spec hf
  obtain ⟨v2, e3, hf⟩ := bs hf
  refine j_callV (ci := 4) (b := x0) (As := [.int x1]) (rest := []) (v := (some (va_rf (v2.map ad)))) E (c_X5_gridAt l D ad cy h x0 x1 e3) (mcw E.1.2.2.2.2 uw_1_193 uw_1_190 uw_1_192 us_1_1 uw_1_1 rfl rfl hd_X5_gridAt ⟨by decide, by decide⟩) rfl k1 rfl rfl (Nat.le_of_ble_eq_true rfl) dX5_sort_2 ⟨Nat.zero_le _, Nat.zero_le _⟩ ?_
  rcases om_spec hf with ⟨rfl, hf⟩ | ⟨a4, rfl, hf⟩
  · refine j_stk (st' := [.null]) rfl ?_
    refine j_astore_nN (lv' := [(2, .null), (0, .ref (ad x0)), (1, .int x1)]) E dX5_sort_5 rfl (by decide) rfl ?_
    refine j_aload_nN E 0 rfl dX5_sort_6 rfl ?_
    refine j_ifnonnullN E dX5_sort_7 ?_
    refine j_iconst (v := (-1)) E dX5_sort_10 (by decide) ?_
    cases hf
    exact j_iret E hr hlk dX5_sort_11
  · refine j_stk (st' := [.ref (ad a4)]) rfl ?_
    refine j_astore_n (lv' := [(2, .ref (ad a4)), (0, .ref (ad x0)), (1, .int x1)]) E dX5_sort_5 rfl (by decide) rfl ?_
    refine j_aload_n E 0 rfl dX5_sort_6 rfl ?_
    refine j_ifnonnull (tgt := 12) E dX5_sort_7 (by decide) ?_
    refine j_aload_n E 0 rfl dX5_sort_12 rfl ?_
    obtain ⟨k5, hf⟩ := ck_spec hf
    obtain ⟨v6, e7, hf⟩ := bs hf
    refine j_callV (ci := 1) (b := a4) (As := []) (rest := []) (v := (some (.int v6))) E (c_X2_isSquare l D ad cy h a4 e7) (mcw E.1.2.2.2.2 uw_2_225 uw_2_222 uw_2_223 uw_2_224 uw_1_4 rfl rfl hd_X2_isSquare ⟨by decide, by decide⟩) rfl k5 rfl rfl (Nat.le_of_ble_eq_true rfl) dX5_sort_13 ⟨Nat.zero_le _, Nat.zero_le _⟩ ?_
    refine j_stk (st' := [.int v6]) rfl ?_
    refine j_if_ne (tgt := 22) E dX5_sort_16 (by decide) (fun z8 => ?_) (fun z8 => ?_)
    · have hf := ifn hf z8
      refine j_aload_n E 1 rfl dX5_sort_22 rfl ?_
      obtain ⟨v9, ev9, hf⟩ := bs hf
      refine j_getR (ci := 4) (k0 := 2) (T := TX5) (N := 6) E (mI inUX5) rfl (by decide) (mU uw_1_109) ev9 dX5_sort_23 ?_
      refine j_aload_n E 0 rfl dX5_sort_26 rfl ?_
      obtain ⟨k10, hf⟩ := ck_spec hf
      obtain ⟨h11, e12, hf⟩ := bs hf
      refine j_callV (ci := 0) (b := v9) (As := [.ref (ad a4)]) (rest := []) (v := none) E (c_X1_read l D ad cy h v9 a4 e12) (mcw E.1.2.2.2.2 uw_3_4 uw_3_1 uw_3_2 uw_3_3 uw_1_3 rfl rfl hd_X1_read ⟨by decide, by decide⟩) rfl k10 rfl rfl (Nat.le_of_ble_eq_true rfl) dX5_sort_27 ⟨Nat.zero_le _, Nat.zero_le _⟩ ?_
      refine j_stk (st' := []) rfl ?_
      refine j_aload_n E 1 rfl dX5_sort_30 rfl ?_
      obtain ⟨v13, ev13, hf⟩ := bs hf
      refine j_getR (ci := 4) (k0 := 2) (T := TX5) (N := 6) E (mI inUX5) rfl (by decide) (mU uw_1_109) ev13 dX5_sort_31 ?_
      refine j_aload_n E 1 rfl dX5_sort_34 rfl ?_
      obtain ⟨v14, ev14, hf⟩ := bs hf
      refine j_getR (ci := 4) (k0 := 5) (T := TX5) (N := 6) E (mI inUX5) rfl (by decide) (mU uw_1_112) ev14 dX5_sort_35 ?_
      obtain ⟨k15, hf⟩ := ck_spec hf
      obtain ⟨⟨h16, v17⟩, e18, hf⟩ := bs hf
      refine j_callV (ci := 0) (b := v13) (As := [.ref (ad v14)]) (rest := []) (v := (some (.int v17))) E (c_X1_sortInto l D ad cy h11 v13 v14 e18) (mcw E.1.2.2.2.2 uw_3_43 uw_3_40 uw_3_41 uw_3_42 uw_1_3 rfl rfl hd_X1_sortInto ⟨by decide, by decide⟩) rfl k15 rfl rfl (Nat.le_of_ble_eq_true rfl) dX5_sort_38 ⟨Nat.zero_le _, Nat.zero_le _⟩ ?_
      refine j_stk (st' := [.int v17]) rfl ?_
      refine j_if_ne (tgt := 47) E dX5_sort_41 (by decide) (fun z19 => ?_) (fun z19 => ?_)
      · have hf := ifn hf z19
        refine j_aload_n E 1 rfl dX5_sort_47 rfl ?_
        obtain ⟨k20, hf⟩ := ck_spec hf
        obtain ⟨h21, e22, hf⟩ := bs hf
        refine j_callV (ci := 4) (b := x0) (As := []) (rest := []) (v := none) E (c_X5_putDraftNumbers l D ad cy h16 x0 e22) (mcw E.1.2.2.2.2 uw_3_58 uw_3_55 uw_3_57 us_1_11 uw_1_1 rfl rfl hd_X5_putDraftNumbers ⟨by decide, by decide⟩) rfl k20 rfl rfl (Nat.le_of_ble_eq_true rfl) dX5_sort_48 ⟨Nat.zero_le _, Nat.zero_le _⟩ ?_
        refine j_stk (st' := []) rfl ?_
        refine j_aload_n E 1 rfl dX5_sort_51 rfl ?_
        obtain ⟨v23, ev23, hf⟩ := bs hf
        refine j_getR (ci := 4) (k0 := 4) (T := TX5) (N := 6) E (mI inUX5) rfl (by decide) (mU uw_1_111) ev23 dX5_sort_52 ?_
        obtain ⟨v24, ev24, hf⟩ := bs hf
        refine j_getI (ci := 2) (k0 := 0) (T := TX3) (N := 2) E (mI inUX3) rfl (by decide) (mU uw_1_98) ev24 dX5_sort_55 ?_
        cases hf
        exact j_iret E hr hlk dX5_sort_58
      · have hf := ifp hf z19
        refine j_bipush (v := (-3)) E dX5_sort_44 (by decide) ?_
        cases hf
        exact j_iret E hr hlk dX5_sort_46
    · have hf := ifp hf z8
      refine j_bipush (v := (-3)) E dX5_sort_19 (by decide) ?_
      cases hf
      exact j_iret E hr hlk dX5_sort_21
