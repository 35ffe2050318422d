noncomputable def L_X6_way_44 (h : HP) (x0 : Nat) (x1 : Int32) (x2 : Int32) (x3 : Int32) : Nat → (Option (Int32)) → Int32 → Option (Int32)
  | 0, _, _ => none
  | n + 1, k, x4 =>
      if 16 ≤ x4 then (
        k
      ) else (
        ck 5 h x0 <|
        (f_X6_isGraph h x0 x1).bind fun v15 =>
        if v15 = 0 then (
          k
        ) else (
          ck 5 h x0 <|
          (f_X6_reach h x0 x1 x2 x4).bind fun v19 =>
          if ((v19 >>> (x3 &&& 31)) &&& 1) = 1 then (
            some x4
          ) else (
            L_X6_way_44 h x0 x1 x2 x3 n k (x4 + 1)
          )
        )
      )
noncomputable def f_X6_way (h : HP) (x0 : Nat) (x1 : Int32) (x2 : Int32) (x3 : Int32) : Option (Int32) :=
  ck 5 h x0 <|
  (f_X6_isTable h x0 x1).bind fun v2 =>
  if v2 = 0 then (
    some (-1)
  ) else (
    if x2 < 0 then (
      some (-2)
    ) else (
      (gR 5 h x0 1).bind fun v6 =>
      (aI h v6 x1).bind fun v7 =>
      if v7 ≤ x2 then (
        some (-2)
      ) else (
        if x3 < 0 then (
          some (-2)
        ) else (
          (gR 5 h x0 1).bind fun v10 =>
          (aI h v10 x1).bind fun v11 =>
          if x3 < v11 then (
            L_X6_way_44 h x0 x1 x2 x3 FU (
              some (-3)) 0
          ) else (
            some (-2)
          )
        )
      )
    )
  )
abbrev rmX6_way : Room := { frames := 3, cells := 0, slots := 0, locals := 73 }
theorem hd_X6_way : yX6_way.cls = RX6 ∧ yX6_way.cls ≠ "java/lang/invoke/MethodHandle" ∧ yX6_way.cls ≠ "java/lang/invoke/VarHandle" ∧ (parseMethodDescriptor yX6_way.desc).map (fun d => d.parameters.length) = some 3 := by decide +kernel
set_option maxRecDepth 100000 in
set_option maxHeartbeats 4000000 in
theorem w_X6_way_44 {p : Program} {l : Launch} {e : Env} {s : State} {m : MethodId} {args : Array Value} {below : List Frame} {meth : Method} {c : Code} {D : va_G} {ad : Nat → Nat} {cy : Nat → ClassId} (E : EE p s m args c cX6_way 5 (wsM yX6_way cX6_way 5 (some .int)) RX6 D cy) (hr : meth.sig.returnType = (some .int)) (hlk : meth.locks = false) {r : Int32} (h : HP) (x0 : Nat) (x1 : Int32) (x2 : Int32) (x3 : Int32) : ∀ (n : Nat) (k : (Option (Int32))) (x4 : Int32), (k = some r → JJ p l e rmX6_way s m args below meth c 0 0 (MQ below (QV D ad cy (some (.int r)) h) args s 0 0 (Aw ad)) D ad cy (Aw ad) 5 h [] 84 []) → L_X6_way_44 h x0 x1 x2 x3 n k x4 = some r → JJ p l e rmX6_way s m args below meth c 0 0 (MQ below (QV D ad cy (some (.int r)) h) args s 0 0 (Aw ad)) D ad cy (Aw ad) 5 h [(0, .ref (ad x0)), (1, .int x1), (2, .int x2), (3, .int x3), (4, .int x4)] 44 [] := by
  intro n
  induction n with
  | zero => intro k x4 hk hf; cases hf
  | succ n ih =>
    intro k x4 hk hf
    unfold L_X6_way_44 at hf
    refine j_iload E 4 rfl dX6_way_44 ?_
    refine j_bipush (v := 16) E dX6_way_46 (by decide) ?_
    refine j_icmp_ge (tgt := 84) E dX6_way_48 (by decide) (fun z13 => ?_) (fun z13 => ?_)
    · have hf := ifp hf z13
      refine j_perm (lv' := []) [] rfl ?_
      exact hk hf
    · have hf := ifn hf z13
      refine j_aload_n E 0 rfl dX6_way_51 rfl ?_
      refine j_iload_n E 1 rfl dX6_way_52 rfl ?_
      obtain ⟨k14, hf⟩ := ck_spec hf
      obtain ⟨v15, e16, hf⟩ := bs hf
      refine j_callV (ci := 5) (b := x0) (As := [.int x1]) (rest := []) (v := (some (.int v15))) E (c_X6_isGraph l D ad cy h x0 x1 e16) (mcw E.1.2.2.2.2 uw_4_85 uw_4_82 uw_4_84 us_3_1 uw_1_6 rfl rfl hd_X6_isGraph ⟨by decide, by decide⟩) rfl k14 rfl rfl (Nat.le_of_ble_eq_true rfl) dX6_way_53 ⟨Nat.zero_le _, Nat.zero_le _⟩ ?_
      refine j_stk (st' := [.int v15]) rfl ?_
      refine j_if_eq (tgt := 84) E dX6_way_56 (by decide) (fun z17 => ?_) (fun z17 => ?_)
      · have hf := ifp hf z17
        refine j_perm (lv' := []) [] rfl ?_
        exact hk hf
      · have hf := ifn hf z17
        refine j_aload_n E 0 rfl dX6_way_59 rfl ?_
        refine j_iload_n E 1 rfl dX6_way_60 rfl ?_
        refine j_iload_n E 2 rfl dX6_way_61 rfl ?_
        refine j_iload E 4 rfl dX6_way_62 ?_
        obtain ⟨k18, hf⟩ := ck_spec hf
        obtain ⟨v19, e20, hf⟩ := bs hf
        refine j_callV (ci := 5) (b := x0) (As := [.int x1, .int x2, .int x4]) (rest := []) (v := (some (.int v19))) E (c_X6_reach l D ad cy h x0 x1 x2 x4 e20) (mcw E.1.2.2.2.2 uw_4_93 uw_4_90 uw_4_92 us_3_2 uw_1_6 rfl rfl hd_X6_reach ⟨by decide, by decide⟩) rfl k18 rfl rfl (Nat.le_of_ble_eq_true rfl) dX6_way_64 ⟨Nat.zero_le _, Nat.zero_le _⟩ ?_
        refine j_stk (st' := [.int v19]) rfl ?_
        refine j_iload_n E 3 rfl dX6_way_67 rfl ?_
        refine j_ishr E dX6_way_68 ?_
        refine j_iconst (v := 1) E dX6_way_69 (by decide) ?_
        refine j_iand E dX6_way_70 ?_
        refine j_iconst (v := 1) E dX6_way_71 (by decide) ?_
        refine j_icmp_ne (tgt := 78) E dX6_way_72 (by decide) (fun z21 => ?_) (fun z21 => ?_)
        · have hf := ifn hf z21
          refine j_iinc (v := (x4 + 1)) (k0 := 4) (lv' := [(4, .int (x4 + 1)), (0, .ref (ad x0)), (1, .int x1), (2, .int x2), (3, .int x3)]) E dX6_way_78 rfl (congrArg (fun z => x4 + z) (by decide)) (by decide) rfl ?_
          refine j_goto (tgt := 44) E dX6_way_81 (by decide) ?_
          refine j_perm (lv' := [(0, .ref (ad x0)), (1, .int x1), (2, .int x2), (3, .int x3), (4, .int (x4 + 1))]) [1, 2, 3, 4, 0] rfl ?_
          exact ih k (x4 + 1) hk hf
        · have hf := ifp hf z21
          refine j_iload E 4 rfl dX6_way_75 ?_
          cases hf
          exact j_iret E hr hlk dX6_way_77
set_option maxRecDepth 100000 in
set_option maxHeartbeats 4000000 in
theorem c_X6_way (l : Launch) (D : va_G) (ad : Nat → Nat) (cy : Nat → ClassId) (h : HP) (x0 : Nat) (x1 : Int32) (x2 : Int32) (x3 : Int32) {r : Int32} (hf : f_X6_way h x0 x1 x2 x3 = some r) : Met l yX6_way (wsM yX6_way cX6_way 5 (some .int)) rmX6_way (va_Pc [.ref (ad x0), .int x1, .int x2, .int x3] (PW D ad cy h)) (QV D ad cy (some (.int r)) h) 0 0 (Aw ad) := by
  refine met_of (own := RX6) (lv := [(0, .ref (ad x0)), (1, .int x1), (2, .int x2), (3, .int x3)]) (by decide) rfl (Nat.le_of_ble_eq_true rfl) rfl (fun p e s m args below meth c E hr hlk => ?_)
  unfold f_X6_way at hf
  refine j_aload_n E 0 rfl dX6_way_0 rfl ?_
  refine j_iload_n E 1 rfl dX6_way_1 rfl ?_
  obtain ⟨k1, hf⟩ := ck_spec hf
  obtain ⟨v2, e3, hf⟩ := bs hf
  refine j_callV (ci := 5) (b := x0) (As := [.int x1]) (rest := []) (v := (some (.int v2))) E (c_X6_isTable l D ad cy h x0 x1 e3) (mcw E.1.2.2.2.2 uw_3_186 uw_3_183 uw_3_185 us_2_2 uw_1_6 rfl rfl hd_X6_isTable ⟨by decide, by decide⟩) rfl k1 rfl rfl (Nat.le_of_ble_eq_true rfl) dX6_way_2 ⟨Nat.zero_le _, Nat.zero_le _⟩ ?_
  refine j_stk (st' := [.int v2]) rfl ?_
  refine j_if_ne (tgt := 10) E dX6_way_5 (by decide) (fun z4 => ?_) (fun z4 => ?_)
  · have hf := ifn hf z4
    refine j_iload_n E 2 rfl dX6_way_10 rfl ?_
    refine j_if_lt (tgt := 38) E dX6_way_11 (by decide) (fun z5 => ?_) (fun z5 => ?_)
    · have hf := ifp hf z5
      refine j_bipush (v := (-2)) E dX6_way_38 (by decide) ?_
      cases hf
      exact j_iret E hr hlk dX6_way_40
    · have hf := ifn hf z5
      refine j_iload_n E 2 rfl dX6_way_14 rfl ?_
      refine j_aload_n E 0 rfl dX6_way_15 rfl ?_
      obtain ⟨v6, ev6, hf⟩ := bs hf
      refine j_getR (ci := 5) (k0 := 1) (T := TX6) (N := 14) E (mI inUX6) rfl (by decide) (mU uw_3_105) ev6 dX6_way_16 ?_
      refine j_iload_n E 1 rfl dX6_way_19 rfl ?_
      obtain ⟨v7, ev7, hf⟩ := bs hf
      refine j_aI E ev7 dX6_way_20 ?_
      refine j_icmp_ge (tgt := 38) E dX6_way_21 (by decide) (fun z8 => ?_) (fun z8 => ?_)
      · have hf := ifp hf z8
        refine j_bipush (v := (-2)) E dX6_way_38 (by decide) ?_
        cases hf
        exact j_iret E hr hlk dX6_way_40
      · have hf := ifn hf z8
        refine j_iload_n E 3 rfl dX6_way_24 rfl ?_
        refine j_if_lt (tgt := 38) E dX6_way_25 (by decide) (fun z9 => ?_) (fun z9 => ?_)
        · have hf := ifp hf z9
          refine j_bipush (v := (-2)) E dX6_way_38 (by decide) ?_
          cases hf
          exact j_iret E hr hlk dX6_way_40
        · have hf := ifn hf z9
          refine j_iload_n E 3 rfl dX6_way_28 rfl ?_
          refine j_aload_n E 0 rfl dX6_way_29 rfl ?_
          obtain ⟨v10, ev10, hf⟩ := bs hf
          refine j_getR (ci := 5) (k0 := 1) (T := TX6) (N := 14) E (mI inUX6) rfl (by decide) (mU uw_3_105) ev10 dX6_way_30 ?_
          refine j_iload_n E 1 rfl dX6_way_33 rfl ?_
          obtain ⟨v11, ev11, hf⟩ := bs hf
          refine j_aI E ev11 dX6_way_34 ?_
          refine j_icmp_lt (tgt := 41) E dX6_way_35 (by decide) (fun z12 => ?_) (fun z12 => ?_)
          · have hf := ifp hf z12
            refine j_iconst (v := 0) E dX6_way_41 (by decide) ?_
            refine j_istore (lv' := [(4, .int 0), (0, .ref (ad x0)), (1, .int x1), (2, .int x2), (3, .int x3)]) E dX6_way_42 (by decide) rfl ?_
            refine j_perm (lv' := [(0, .ref (ad x0)), (1, .int x1), (2, .int x2), (3, .int x3), (4, .int 0)]) [1, 2, 3, 4, 0] rfl ?_
            refine w_X6_way_44 E hr hlk h x0 x1 x2 x3 FU _ 0 (fun hf => ?_) hf
            refine j_bipush (v := (-3)) E dX6_way_84 (by decide) ?_
            cases hf
            exact j_iret E hr hlk dX6_way_86
          · have hf := ifn hf z12
            refine j_bipush (v := (-2)) E dX6_way_38 (by decide) ?_
            cases hf
            exact j_iret E hr hlk dX6_way_40
  · have hf := ifp hf z4
    refine j_iconst (v := (-1)) E dX6_way_8 (by decide) ?_
    cases hf
    exact j_iret E hr hlk dX6_way_9
noncomputable def f_X6_isRing (h : HP) (x0 : Nat) (x1 : Int32) (x2 : Int32) (x3 : Int32) : Option (Int32) :=
  ck 5 h x0 <|
  (f_X6_reach h x0 x1 x2 16).bind fun v2 =>
  if ((v2 >>> (x3 &&& 31)) &&& 1) = 1 then (
    ck 5 h x0 <|
    (f_X6_reach h x0 x1 x3 16).bind fun v6 =>
    if ((v6 >>> (x2 &&& 31)) &&& 1) = 1 then (
      some 1
    ) else (
      some 0
    )
  ) else (
    some 0
  )
abbrev rmX6_isRing : Room := { frames := 3, cells := 0, slots := 0, locals := 73 }
theorem hd_X6_isRing : yX6_isRing.cls = RX6 ∧ yX6_isRing.cls ≠ "java/lang/invoke/MethodHandle" ∧ yX6_isRing.cls ≠ "java/lang/invoke/VarHandle" ∧ (parseMethodDescriptor yX6_isRing.desc).map (fun d => d.parameters.length) = some 3 := by decide +kernel
set_option maxRecDepth 100000 in
set_option maxHeartbeats 4000000 in
theorem c_X6_isRing (l : Launch) (D : va_G) (ad : Nat → Nat) (cy : Nat → ClassId) (h : HP) (x0 : Nat) (x1 : Int32) (x2 : Int32) (x3 : Int32) {r : Int32} (hf : f_X6_isRing h x0 x1 x2 x3 = some r) : Met l yX6_isRing (wsM yX6_isRing cX6_isRing 4 (some .boolean)) rmX6_isRing (va_Pc [.ref (ad x0), .int x1, .int x2, .int x3] (PW D ad cy h)) (QV D ad cy (some (.int r)) h) 0 0 (Aw ad) := by
  refine met_of (own := RX6) (lv := [(0, .ref (ad x0)), (1, .int x1), (2, .int x2), (3, .int x3)]) (by decide) rfl (Nat.le_of_ble_eq_true rfl) rfl (fun p e s m args below meth c E hr hlk => ?_)
  unfold f_X6_isRing at hf
  refine j_aload_n E 0 rfl dX6_isRing_0 rfl ?_
  refine j_iload_n E 1 rfl dX6_isRing_1 rfl ?_
  refine j_iload_n E 2 rfl dX6_isRing_2 rfl ?_
  refine j_bipush (v := 16) E dX6_isRing_3 (by decide) ?_
  obtain ⟨k1, hf⟩ := ck_spec hf
  obtain ⟨v2, e3, hf⟩ := bs hf
  refine j_callV (ci := 5) (b := x0) (As := [.int x1, .int x2, .int 16]) (rest := []) (v := (some (.int v2))) E (c_X6_reach l D ad cy h x0 x1 x2 16 e3) (mcw E.1.2.2.2.2 uw_4_93 uw_4_90 uw_4_92 us_3_2 uw_1_6 rfl rfl hd_X6_reach ⟨by decide, by decide⟩) rfl k1 rfl rfl (Nat.le_of_ble_eq_true rfl) dX6_isRing_5 ⟨Nat.zero_le _, Nat.zero_le _⟩ ?_
  refine j_stk (st' := [.int v2]) rfl ?_
  refine j_iload_n E 3 rfl dX6_isRing_8 rfl ?_
  refine j_ishr E dX6_isRing_9 ?_
  refine j_iconst (v := 1) E dX6_isRing_10 (by decide) ?_
  refine j_iand E dX6_isRing_11 ?_
  refine j_iconst (v := 1) E dX6_isRing_12 (by decide) ?_
  refine j_icmp_ne (tgt := 36) E dX6_isRing_13 (by decide) (fun z4 => ?_) (fun z4 => ?_)
  · have hf := ifn hf z4
    refine j_iconst (v := 0) E dX6_isRing_36 (by decide) ?_
    cases hf
    exact j_zret E hr hlk rfl dX6_isRing_37
  · have hf := ifp hf z4
    refine j_aload_n E 0 rfl dX6_isRing_16 rfl ?_
    refine j_iload_n E 1 rfl dX6_isRing_17 rfl ?_
    refine j_iload_n E 3 rfl dX6_isRing_18 rfl ?_
    refine j_bipush (v := 16) E dX6_isRing_19 (by decide) ?_
    obtain ⟨k5, hf⟩ := ck_spec hf
    obtain ⟨v6, e7, hf⟩ := bs hf
    refine j_callV (ci := 5) (b := x0) (As := [.int x1, .int x3, .int 16]) (rest := []) (v := (some (.int v6))) E (c_X6_reach l D ad cy h x0 x1 x3 16 e7) (mcw E.1.2.2.2.2 uw_4_93 uw_4_90 uw_4_92 us_3_2 uw_1_6 rfl rfl hd_X6_reach ⟨by decide, by decide⟩) rfl k5 rfl rfl (Nat.le_of_ble_eq_true rfl) dX6_isRing_21 ⟨Nat.zero_le _, Nat.zero_le _⟩ ?_
    refine j_stk (st' := [.int v6]) rfl ?_
    refine j_iload_n E 2 rfl dX6_isRing_24 rfl ?_
    refine j_ishr E dX6_isRing_25 ?_
    refine j_iconst (v := 1) E dX6_isRing_26 (by decide) ?_
    refine j_iand E dX6_isRing_27 ?_
    refine j_iconst (v := 1) E dX6_isRing_28 (by decide) ?_
    refine j_icmp_ne (tgt := 36) E dX6_isRing_29 (by decide) (fun z8 => ?_) (fun z8 => ?_)
    · have hf := ifn hf z8
      refine j_iconst (v := 0) E dX6_isRing_36 (by decide) ?_
      cases hf
      exact j_zret E hr hlk rfl dX6_isRing_37
    · have hf := ifp hf z8
      refine j_iconst (v := 1) E dX6_isRing_32 (by decide) ?_
      refine j_goto (tgt := 37) E dX6_isRing_33 (by decide) ?_
      cases hf
      exact j_zret E hr hlk rfl dX6_isRing_37
noncomputable def L_X6_leader_2 (h : HP) (x0 : Nat) (x1 : Int32) (x2 : Int32) : Nat → (Int32 → Option (Int32)) → Int32 → Option (Int32)
  | 0, _, _ => none
  | n + 1, k, x3 =>
      ck 5 h x0 <|
      (f_X6_isRing h x0 x1 x2 x3).bind fun v2 =>
      if v2 = 0 then (
        L_X6_leader_2 h x0 x1 x2 n k (x3 + 1)
      ) else (
        k x3
      )
noncomputable def f_X6_leader (h : HP) (x0 : Nat) (x1 : Int32) (x2 : Int32) : Option (Int32) :=
  L_X6_leader_2 h x0 x1 x2 FU (fun x5 =>
    some x5) 0
abbrev rmX6_leader : Room := { frames := 4, cells := 0, slots := 0, locals := 96 }
theorem hd_X6_leader : yX6_leader.cls = RX6 ∧ yX6_leader.cls ≠ "java/lang/invoke/MethodHandle" ∧ yX6_leader.cls ≠ "java/lang/invoke/VarHandle" ∧ (parseMethodDescriptor yX6_leader.desc).map (fun d => d.parameters.length) = some 2 := by decide +kernel
set_option maxRecDepth 100000 in
set_option maxHeartbeats 4000000 in
theorem w_X6_leader_2 {p : Program} {l : Launch} {e : Env} {s : State} {m : MethodId} {args : Array Value} {below : List Frame} {meth : Method} {c : Code} {D : va_G} {ad : Nat → Nat} {cy : Nat → ClassId} (E : EE p s m args c cX6_leader 4 (wsM yX6_leader cX6_leader 4 (some .int)) RX6 D cy) (hr : meth.sig.returnType = (some .int)) (hlk : meth.locks = false) {r : Int32} (h : HP) (x0 : Nat) (x1 : Int32) (x2 : Int32) : ∀ (n : Nat) (k : (Int32 → Option (Int32))) (x3 : Int32), (∀ (x3 : Int32), k x3 = some r → JJ p l e rmX6_leader s m args below meth c 0 0 (MQ below (QV D ad cy (some (.int r)) h) args s 0 0 (Aw ad)) D ad cy (Aw ad) 4 h [(3, .int x3)] 18 []) → L_X6_leader_2 h x0 x1 x2 n k x3 = some r → JJ p l e rmX6_leader s m args below meth c 0 0 (MQ below (QV D ad cy (some (.int r)) h) args s 0 0 (Aw ad)) D ad cy (Aw ad) 4 h [(0, .ref (ad x0)), (1, .int x1), (2, .int x2), (3, .int x3)] 2 [] := by
  intro n
  induction n with
  | zero => intro k x3 hk hf; cases hf
  | succ n ih =>
    intro k x3 hk hf
    unfold L_X6_leader_2 at hf
    refine j_aload_n E 0 rfl dX6_leader_2 rfl ?_
    refine j_iload_n E 1 rfl dX6_leader_3 rfl ?_
    refine j_iload_n E 2 rfl dX6_leader_4 rfl ?_
    refine j_iload_n E 3 rfl dX6_leader_5 rfl ?_
    obtain ⟨k1, hf⟩ := ck_spec hf
    obtain ⟨v2, e3, hf⟩ := bs hf
    refine j_callV (ci := 5) (b := x0) (As := [.int x1, .int x2, .int x3]) (rest := []) (v := (some (.int v2))) E (c_X6_isRing l D ad cy h x0 x1 x2 x3 e3) (mcw E.1.2.2.2.2 uw_4_105 uw_4_102 uw_4_104 us_3_4 uw_1_6 rfl rfl hd_X6_isRing ⟨by decide, by decide⟩) rfl k1 rfl rfl (Nat.le_of_ble_eq_true rfl) dX6_leader_6 ⟨Nat.zero_le _, Nat.zero_le _⟩ ?_
    refine j_stk (st' := [.int v2]) rfl ?_
    refine j_if_ne (tgt := 18) E dX6_leader_9 (by decide) (fun z4 => ?_) (fun z4 => ?_)
    · have hf := ifn hf z4
      refine j_perm (lv' := [(3, .int x3)]) [3] rfl ?_
      exact hk x3 hf
    · have hf := ifp hf z4
      refine j_iinc (v := (x3 + 1)) (k0 := 3) (lv' := [(3, .int (x3 + 1)), (0, .ref (ad x0)), (1, .int x1), (2, .int x2)]) E dX6_leader_12 rfl (congrArg (fun z => x3 + z) (by decide)) (by decide) rfl ?_
      refine j_goto (tgt := 2) E dX6_leader_15 (by decide) ?_
      refine j_perm (lv' := [(0, .ref (ad x0)), (1, .int x1), (2, .int x2), (3, .int (x3 + 1))]) [1, 2, 3, 0] rfl ?_
      exact ih k (x3 + 1) hk hf
set_option maxRecDepth 100000 in
set_option maxHeartbeats 4000000 in
theorem c_X6_leader (l : Launch) (D : va_G) (ad : Nat → Nat) (cy : Nat → ClassId) (h : HP) (x0 : Nat) (x1 : Int32) (x2 : Int32) {r : Int32} (hf : f_X6_leader h x0 x1 x2 = some r) : Met l yX6_leader (wsM yX6_leader cX6_leader 4 (some .int)) rmX6_leader (va_Pc [.ref (ad x0), .int x1, .int x2] (PW D ad cy h)) (QV D ad cy (some (.int r)) h) 0 0 (Aw ad) := by
  refine met_of (own := RX6) (lv := [(0, .ref (ad x0)), (1, .int x1), (2, .int x2)]) (by decide) rfl (Nat.le_of_ble_eq_true rfl) rfl (fun p e s m args below meth c E hr hlk => ?_)
  unfold f_X6_leader at hf
  refine j_iconst (v := 0) E dX6_leader_0 (by decide) ?_
  refine j_istore_n (lv' := [(3, .int 0), (0, .ref (ad x0)), (1, .int x1), (2, .int x2)]) E dX6_leader_1 rfl (by decide) rfl ?_
  refine j_perm (lv' := [(0, .ref (ad x0)), (1, .int x1), (2, .int x2), (3, .int 0)]) [1, 2, 3, 0] rfl ?_
  refine w_X6_leader_2 E hr hlk h x0 x1 x2 FU _ 0 (fun x5 hf => ?_) hf
  refine j_iload_n E 0 rfl dX6_leader_18 rfl ?_
  cases hf
  exact j_iret E hr hlk dX6_leader_19
noncomputable def L_X6_ring_65 (h : HP) (x0 : Nat) (x1 : Int32) (x3 : Int32) : Nat → (Int32 → Option (Int32)) → Int32 → Int32 → Option (Int32)
  | 0, _, _, _ => none
  | n + 1, k, x4, x5 =>
      if x3 ≤ x5 then (
        k x4
      ) else (
        ck 5 h x0 <|
        (f_X6_leader h x0 x1 x5).bind fun v19 =>
        if v19 = x5 then (
          L_X6_ring_65 h x0 x1 x3 n k (x4 + 1) (x5 + 1)
        ) else (
          L_X6_ring_65 h x0 x1 x3 n k (x4 + 0) (x5 + 1)
        )
      )
noncomputable def f_X6_ring (h : HP) (x0 : Nat) (x1 : Int32) (x2 : Int32) : Option (Int32) :=
  ck 5 h x0 <|
  (f_X6_isTable h x0 x1).bind fun v2 =>
  if v2 = 0 then (
    some (-1)
  ) else (
    if x2 < (-1) then (
      some (-2)
    ) else (
      (gR 5 h x0 1).bind fun v6 =>
      (aI h v6 x1).bind fun v7 =>
      if x2 < v7 then (
        ck 5 h x0 <|
        (f_X6_isGraph h x0 x1).bind fun v10 =>
        if v10 = 0 then (
          some (-3)
        ) else (
          if 0 ≤ x2 then (
            ck 5 h x0 <|
            (f_X6_leader h x0 x1 x2).bind fun v15 =>
            L_X6_ring_65 h x0 x1 v15 FU (fun x22 =>
              some x22) 0 0
          ) else (
            (gR 5 h x0 1).bind fun v23 =>
            (aI h v23 x1).bind fun v24 =>
            L_X6_ring_65 h x0 x1 v24 FU (fun x25 =>
              some x25) 0 0
          )
        )
      ) else (
        some (-2)
      )
    )
  )
abbrev rmX6_ring : Room := { frames := 5, cells := 0, slots := 0, locals := 119 }
theorem hd_X6_ring : yX6_ring.cls = RX6 ∧ yX6_ring.cls ≠ "java/lang/invoke/MethodHandle" ∧ yX6_ring.cls ≠ "java/lang/invoke/VarHandle" ∧ (parseMethodDescriptor yX6_ring.desc).map (fun d => d.parameters.length) = some 2 := by decide +kernel
set_option maxRecDepth 100000 in
set_option maxHeartbeats 4000000 in
theorem w_X6_ring_65 {p : Program} {l : Launch} {e : Env} {s : State} {m : MethodId} {args : Array Value} {below : List Frame} {meth : Method} {c : Code} {D : va_G} {ad : Nat → Nat} {cy : Nat → ClassId} (E : EE p s m args c cX6_ring 6 (wsM yX6_ring cX6_ring 6 (some .int)) RX6 D cy) (hr : meth.sig.returnType = (some .int)) (hlk : meth.locks = false) {r : Int32} (h : HP) (x0 : Nat) (x1 : Int32) (x3 : Int32) : ∀ (n : Nat) (k : (Int32 → Option (Int32))) (x4 : Int32) (x5 : Int32), (∀ (x4 : Int32), k x4 = some r → JJ p l e rmX6_ring s m args below meth c 0 0 (MQ below (QV D ad cy (some (.int r)) h) args s 0 0 (Aw ad)) D ad cy (Aw ad) 6 h [(4, .int x4)] 99 []) → L_X6_ring_65 h x0 x1 x3 n k x4 x5 = some r → JJ p l e rmX6_ring s m args below meth c 0 0 (MQ below (QV D ad cy (some (.int r)) h) args s 0 0 (Aw ad)) D ad cy (Aw ad) 6 h [(0, .ref (ad x0)), (1, .int x1), (3, .int x3), (4, .int x4), (5, .int x5)] 65 [] := by
  intro n
  induction n with
  | zero => intro k x4 x5 hk hf; cases hf
  | succ n ih =>
    intro k x4 x5 hk hf
    unfold L_X6_ring_65 at hf
    refine j_iload E 4 rfl dX6_ring_65 ?_
    refine j_iload_n E 2 rfl dX6_ring_67 rfl ?_
    refine j_icmp_ge (tgt := 99) E dX6_ring_68 (by decide) (fun z17 => ?_) (fun z17 => ?_)
    · have hf := ifp hf z17
      refine j_perm (lv' := [(4, .int x4)]) [3] rfl ?_
      exact hk x4 hf
    · have hf := ifn hf z17
      refine j_iload E 3 rfl dX6_ring_71 ?_
      refine j_aload_n E 0 rfl dX6_ring_73 rfl ?_
      refine j_iload_n E 1 rfl dX6_ring_74 rfl ?_
      refine j_iload E 4 rfl dX6_ring_75 ?_
      obtain ⟨k18, hf⟩ := ck_spec hf
      obtain ⟨v19, e20, hf⟩ := bs hf
      refine j_callV (ci := 5) (b := x0) (As := [.int x1, .int x5]) (rest := [.int x4]) (v := (some (.int v19))) E (c_X6_leader l D ad cy h x0 x1 x5 e20) (mcw E.1.2.2.2.2 uw_4_101 uw_4_98 uw_4_100 us_3_3 uw_1_6 rfl rfl hd_X6_leader ⟨by decide, by decide⟩) rfl k18 rfl rfl (Nat.le_of_ble_eq_true rfl) dX6_ring_77 ⟨Nat.zero_le _, Nat.zero_le _⟩ ?_
      refine j_stk (st' := [.int v19, .int x4]) rfl ?_
      refine j_iload E 4 rfl dX6_ring_80 ?_
      refine j_icmp_ne (tgt := 89) E dX6_ring_82 (by decide) (fun z21 => ?_) (fun z21 => ?_)
      · have hf := ifn hf z21
        refine j_iconst (v := 0) E dX6_ring_89 (by decide) ?_
        refine j_iadd E dX6_ring_90 ?_
        refine j_istore (lv' := [(4, .int (x4 + 0)), (0, .ref (ad x0)), (1, .int x1), (3, .int x3), (5, .int x5)]) E dX6_ring_91 (by decide) rfl ?_
        refine j_iinc (v := (x5 + 1)) (k0 := 4) (lv' := [(5, .int (x5 + 1)), (4, .int (x4 + 0)), (0, .ref (ad x0)), (1, .int x1), (3, .int x3)]) E dX6_ring_93 rfl (congrArg (fun z => x5 + z) (by decide)) (by decide) rfl ?_
        refine j_goto (tgt := 65) E dX6_ring_96 (by decide) ?_
        refine j_perm (lv' := [(0, .ref (ad x0)), (1, .int x1), (3, .int x3), (4, .int (x4 + 0)), (5, .int (x5 + 1))]) [2, 3, 4, 1, 0] rfl ?_
        exact ih k (x4 + 0) (x5 + 1) hk hf
      · have hf := ifp hf z21
        refine j_iconst (v := 1) E dX6_ring_85 (by decide) ?_
        refine j_goto (tgt := 90) E dX6_ring_86 (by decide) ?_
        refine j_iadd E dX6_ring_90 ?_
        refine j_istore (lv' := [(4, .int (x4 + 1)), (0, .ref (ad x0)), (1, .int x1), (3, .int x3), (5, .int x5)]) E dX6_ring_91 (by decide) rfl ?_
        refine j_iinc (v := (x5 + 1)) (k0 := 4) (lv' := [(5, .int (x5 + 1)), (4, .int (x4 + 1)), (0, .ref (ad x0)), (1, .int x1), (3, .int x3)]) E dX6_ring_93 rfl (congrArg (fun z => x5 + z) (by decide)) (by decide) rfl ?_
        refine j_goto (tgt := 65) E dX6_ring_96 (by decide) ?_
        refine j_perm (lv' := [(0, .ref (ad x0)), (1, .int x1), (3, .int x3), (4, .int (x4 + 1)), (5, .int (x5 + 1))]) [2, 3, 4, 1, 0] rfl ?_
        exact ih k (x4 + 1) (x5 + 1) hk hf
set_option maxRecDepth 100000 in
set_option maxHeartbeats 4000000 in
theorem c_X6_ring (l : Launch) (D : va_G) (ad : Nat → Nat) (cy : Nat → ClassId) (h : HP) (x0 : Nat) (x1 : Int32) (x2 : Int32) {r : Int32} (hf : f_X6_ring h x0 x1 x2 = some r) : Met l yX6_ring (wsM yX6_ring cX6_ring 6 (some .int)) rmX6_ring (va_Pc [.ref (ad x0), .int x1, .int x2] (PW D ad cy h)) (QV D ad cy (some (.int r)) h) 0 0 (Aw ad) := by
  refine met_of (own := RX6) (lv := [(0, .ref (ad x0)), (1, .int x1), (2, .int x2)]) (by decide) rfl (Nat.le_of_ble_eq_true rfl) rfl (fun p e s m args below meth c E hr hlk => ?_)
  unfold f_X6_ring at hf
  refine j_aload_n E 0 rfl dX6_ring_0 rfl ?_
  refine j_iload_n E 1 rfl dX6_ring_1 rfl ?_
  obtain ⟨k1, hf⟩ := ck_spec hf
  obtain ⟨v2, e3, hf⟩ := bs hf
  refine j_callV (ci := 5) (b := x0) (As := [.int x1]) (rest := []) (v := (some (.int v2))) E (c_X6_isTable l D ad cy h x0 x1 e3) (mcw E.1.2.2.2.2 uw_3_186 uw_3_183 uw_3_185 us_2_2 uw_1_6 rfl rfl hd_X6_isTable ⟨by decide, by decide⟩) rfl k1 rfl rfl (Nat.le_of_ble_eq_true rfl) dX6_ring_2 ⟨Nat.zero_le _, Nat.zero_le _⟩ ?_
  refine j_stk (st' := [.int v2]) rfl ?_
  refine j_if_ne (tgt := 10) E dX6_ring_5 (by decide) (fun z4 => ?_) (fun z4 => ?_)
  · have hf := ifn hf z4
    refine j_iload_n E 2 rfl dX6_ring_10 rfl ?_
    refine j_iconst (v := (-1)) E dX6_ring_11 (by decide) ?_
    refine j_icmp_lt (tgt := 25) E dX6_ring_12 (by decide) (fun z5 => ?_) (fun z5 => ?_)
    · have hf := ifp hf z5
      refine j_bipush (v := (-2)) E dX6_ring_25 (by decide) ?_
      cases hf
      exact j_iret E hr hlk dX6_ring_27
    · have hf := ifn hf z5
      refine j_iload_n E 2 rfl dX6_ring_15 rfl ?_
      refine j_aload_n E 0 rfl dX6_ring_16 rfl ?_
      obtain ⟨v6, ev6, hf⟩ := bs hf
      refine j_getR (ci := 5) (k0 := 1) (T := TX6) (N := 14) E (mI inUX6) rfl (by decide) (mU uw_3_105) ev6 dX6_ring_17 ?_
      refine j_iload_n E 1 rfl dX6_ring_20 rfl ?_
      obtain ⟨v7, ev7, hf⟩ := bs hf
      refine j_aI E ev7 dX6_ring_21 ?_
      refine j_icmp_lt (tgt := 28) E dX6_ring_22 (by decide) (fun z8 => ?_) (fun z8 => ?_)
      · have hf := ifp hf z8
        refine j_aload_n E 0 rfl dX6_ring_28 rfl ?_
        refine j_iload_n E 1 rfl dX6_ring_29 rfl ?_
        obtain ⟨k9, hf⟩ := ck_spec hf
        obtain ⟨v10, e11, hf⟩ := bs hf
        refine j_callV (ci := 5) (b := x0) (As := [.int x1]) (rest := []) (v := (some (.int v10))) E (c_X6_isGraph l D ad cy h x0 x1 e11) (mcw E.1.2.2.2.2 uw_4_85 uw_4_82 uw_4_84 us_3_1 uw_1_6 rfl rfl hd_X6_isGraph ⟨by decide, by decide⟩) rfl k9 rfl rfl (Nat.le_of_ble_eq_true rfl) dX6_ring_30 ⟨Nat.zero_le _, Nat.zero_le _⟩ ?_
        refine j_stk (st' := [.int v10]) rfl ?_
        refine j_if_ne (tgt := 39) E dX6_ring_33 (by decide) (fun z12 => ?_) (fun z12 => ?_)
        · have hf := ifn hf z12
          refine j_iload_n E 2 rfl dX6_ring_39 rfl ?_
          refine j_if_ge (tgt := 52) E dX6_ring_40 (by decide) (fun z13 => ?_) (fun z13 => ?_)
          · have hf := ifp hf z13
            refine j_aload_n E 0 rfl dX6_ring_52 rfl ?_
            refine j_iload_n E 1 rfl dX6_ring_53 rfl ?_
            refine j_iload_n E 2 rfl dX6_ring_54 rfl ?_
            obtain ⟨k14, hf⟩ := ck_spec hf
            obtain ⟨v15, e16, hf⟩ := bs hf
            refine j_callV (ci := 5) (b := x0) (As := [.int x1, .int x2]) (rest := []) (v := (some (.int v15))) E (c_X6_leader l D ad cy h x0 x1 x2 e16) (mcw E.1.2.2.2.2 uw_4_101 uw_4_98 uw_4_100 us_3_3 uw_1_6 rfl rfl hd_X6_leader ⟨by decide, by decide⟩) rfl k14 rfl rfl (Nat.le_of_ble_eq_true rfl) dX6_ring_55 ⟨Nat.zero_le _, Nat.zero_le _⟩ ?_
            refine j_stk (st' := [.int v15]) rfl ?_
            refine j_istore_n (lv' := [(3, .int v15), (0, .ref (ad x0)), (1, .int x1), (2, .int x2)]) E dX6_ring_58 rfl (by decide) rfl ?_
            refine j_iconst (v := 0) E dX6_ring_59 (by decide) ?_
            refine j_istore (lv' := [(4, .int 0), (3, .int v15), (0, .ref (ad x0)), (1, .int x1), (2, .int x2)]) E dX6_ring_60 (by decide) rfl ?_
            refine j_iconst (v := 0) E dX6_ring_62 (by decide) ?_
            refine j_istore (lv' := [(5, .int 0), (4, .int 0), (3, .int v15), (0, .ref (ad x0)), (1, .int x1), (2, .int x2)]) E dX6_ring_63 (by decide) rfl ?_
            refine j_perm (lv' := [(0, .ref (ad x0)), (1, .int x1), (3, .int v15), (4, .int 0), (5, .int 0)]) [3, 4, 2, 1, 0] rfl ?_
            refine w_X6_ring_65 E hr hlk h x0 x1 v15 FU _ 0 0 (fun x22 hf => ?_) hf
            refine j_iload E 0 rfl dX6_ring_99 ?_
            cases hf
            exact j_iret E hr hlk dX6_ring_101
          · have hf := ifn hf z13
            refine j_aload_n E 0 rfl dX6_ring_43 rfl ?_
            obtain ⟨v23, ev23, hf⟩ := bs hf
            refine j_getR (ci := 5) (k0 := 1) (T := TX6) (N := 14) E (mI inUX6) rfl (by decide) (mU uw_3_105) ev23 dX6_ring_44 ?_
            refine j_iload_n E 1 rfl dX6_ring_47 rfl ?_
            obtain ⟨v24, ev24, hf⟩ := bs hf
            refine j_aI E ev24 dX6_ring_48 ?_
            refine j_goto (tgt := 58) E dX6_ring_49 (by decide) ?_
            refine j_istore_n (lv' := [(3, .int v24), (0, .ref (ad x0)), (1, .int x1), (2, .int x2)]) E dX6_ring_58 rfl (by decide) rfl ?_
            refine j_iconst (v := 0) E dX6_ring_59 (by decide) ?_
            refine j_istore (lv' := [(4, .int 0), (3, .int v24), (0, .ref (ad x0)), (1, .int x1), (2, .int x2)]) E dX6_ring_60 (by decide) rfl ?_
            refine j_iconst (v := 0) E dX6_ring_62 (by decide) ?_
            refine j_istore (lv' := [(5, .int 0), (4, .int 0), (3, .int v24), (0, .ref (ad x0)), (1, .int x1), (2, .int x2)]) E dX6_ring_63 (by decide) rfl ?_
            refine j_perm (lv' := [(0, .ref (ad x0)), (1, .int x1), (3, .int v24), (4, .int 0), (5, .int 0)]) [3, 4, 2, 1, 0] rfl ?_
            refine w_X6_ring_65 E hr hlk h x0 x1 v24 FU _ 0 0 (fun x25 hf => ?_) hf
            refine j_iload E 0 rfl dX6_ring_99 ?_
            cases hf
            exact j_iret E hr hlk dX6_ring_101
        · have hf := ifp hf z12
          refine j_bipush (v := (-3)) E dX6_ring_36 (by decide) ?_
          cases hf
          exact j_iret E hr hlk dX6_ring_38
      · have hf := ifn hf z8
        refine j_bipush (v := (-2)) E dX6_ring_25 (by decide) ?_
        cases hf
        exact j_iret E hr hlk dX6_ring_27
  · have hf := ifp hf z4
    refine j_iconst (v := (-1)) E dX6_ring_8 (by decide) ?_
    cases hf
    exact j_iret E hr hlk dX6_ring_9
noncomputable def L_X6_isLed_6 (h : HP) (x0 : Nat) (x1 : Int32) (x2 : Int32) (x3 : Int32) : Nat → (Int32 → Option (Int32)) → Int32 → Int32 → Option (Int32)
  | 0, _, _, _ => none
  | n + 1, k, x4, x5 =>
      (gR 5 h x0 1).bind fun v1 =>
      (aI h v1 x1).bind fun v2 =>
      if v2 ≤ x5 then (
        k x4
      ) else (
        if x4 = 0 then (
          if x5 = x2 then (
            L_X6_isLed_6 h x0 x1 x2 x3 n k 0 (x5 + 1)
          ) else (
            if ((x3 >>> (x5 &&& 31)) &&& 1) = 0 then (
              ck 5 h x0 <|
              (f_X6_has h x0 x1 x5 x2).bind fun v8 =>
              if v8 = 0 then (
                L_X6_isLed_6 h x0 x1 x2 x3 n k 0 (x5 + 1)
              ) else (
                L_X6_isLed_6 h x0 x1 x2 x3 n k 1 (x5 + 1)
              )
            ) else (
              L_X6_isLed_6 h x0 x1 x2 x3 n k 0 (x5 + 1)
            )
          )
        ) else (
          L_X6_isLed_6 h x0 x1 x2 x3 n k 1 (x5 + 1)
        )
      )
noncomputable def f_X6_isLed (h : HP) (x0 : Nat) (x1 : Int32) (x2 : Int32) (x3 : Int32) : Option (Int32) :=
  L_X6_isLed_6 h x0 x1 x2 x3 FU (fun x11 =>
    cz x11 <|
    some x11) 0 0
abbrev rmX6_isLed : Room := { frames := 2, cells := 0, slots := 0, locals := 45 }
theorem hd_X6_isLed : yX6_isLed.cls = RX6 ∧ yX6_isLed.cls ≠ "java/lang/invoke/MethodHandle" ∧ yX6_isLed.cls ≠ "java/lang/invoke/VarHandle" ∧ (parseMethodDescriptor yX6_isLed.desc).map (fun d => d.parameters.length) = some 3 := by decide +kernel
set_option maxRecDepth 100000 in
set_option maxHeartbeats 4000000 in
theorem w_X6_isLed_6 {p : Program} {l : Launch} {e : Env} {s : State} {m : MethodId} {args : Array Value} {below : List Frame} {meth : Method} {c : Code} {D : va_G} {ad : Nat → Nat} {cy : Nat → ClassId} (E : EE p s m args c cX6_isLed 6 (wsM yX6_isLed cX6_isLed 6 (some .boolean)) RX6 D cy) (hr : meth.sig.returnType = (some .boolean)) (hlk : meth.locks = false) {r : Int32} (h : HP) (x0 : Nat) (x1 : Int32) (x2 : Int32) (x3 : Int32) : ∀ (n : Nat) (k : (Int32 → Option (Int32))) (x4 : Int32) (x5 : Int32), (∀ (x4 : Int32), k x4 = some r → JJ p l e rmX6_isLed s m args below meth c 0 0 (MQ below (QV D ad cy (some (.int r)) h) args s 0 0 (Aw ad)) D ad cy (Aw ad) 6 h [(4, .int x4)] 61 []) → L_X6_isLed_6 h x0 x1 x2 x3 n k x4 x5 = some r → JJ p l e rmX6_isLed s m args below meth c 0 0 (MQ below (QV D ad cy (some (.int r)) h) args s 0 0 (Aw ad)) D ad cy (Aw ad) 6 h [(0, .ref (ad x0)), (1, .int x1), (2, .int x2), (3, .int x3), (4, .int x4), (5, .int x5)] 6 [] := by
  intro n
  induction n with
  | zero => intro k x4 x5 hk hf; cases hf
  | succ n ih =>
    intro k x4 x5 hk hf
    unfold L_X6_isLed_6 at hf
    refine j_iload E 5 rfl dX6_isLed_6 ?_
    refine j_aload_n E 0 rfl dX6_isLed_8 rfl ?_
    obtain ⟨v1, ev1, hf⟩ := bs hf
    refine j_getR (ci := 5) (k0 := 1) (T := TX6) (N := 14) E (mI inUX6) rfl (by decide) (mU uw_3_105) ev1 dX6_isLed_9 ?_
    refine j_iload_n E 1 rfl dX6_isLed_12 rfl ?_
    obtain ⟨v2, ev2, hf⟩ := bs hf
    refine j_aI E ev2 dX6_isLed_13 ?_
    refine j_icmp_ge (tgt := 61) E dX6_isLed_14 (by decide) (fun z3 => ?_) (fun z3 => ?_)
    · have hf := ifp hf z3
      refine j_perm (lv' := [(4, .int x4)]) [4] rfl ?_
      exact hk x4 hf
    · have hf := ifn hf z3
      refine j_iload E 4 rfl dX6_isLed_17 ?_
      refine j_if_ne (tgt := 48) E dX6_isLed_19 (by decide) (fun z4 => ?_) (fun z4 => ?_)
      · have hf := ifn hf z4
        refine j_iconst (v := 1) E dX6_isLed_48 (by decide) ?_
        refine j_goto (tgt := 53) E dX6_isLed_49 (by decide) ?_
        refine j_istore (lv' := [(4, .int 1), (0, .ref (ad x0)), (1, .int x1), (2, .int x2), (3, .int x3), (5, .int x5)]) E dX6_isLed_53 (by decide) rfl ?_
        refine j_iinc (v := (x5 + 1)) (k0 := 5) (lv' := [(5, .int (x5 + 1)), (4, .int 1), (0, .ref (ad x0)), (1, .int x1), (2, .int x2), (3, .int x3)]) E dX6_isLed_55 rfl (congrArg (fun z => x5 + z) (by decide)) (by decide) rfl ?_
        refine j_goto (tgt := 6) E dX6_isLed_58 (by decide) ?_
        refine j_perm (lv' := [(0, .ref (ad x0)), (1, .int x1), (2, .int x2), (3, .int x3), (4, .int 1), (5, .int (x5 + 1))]) [2, 3, 4, 5, 1, 0] rfl ?_
        exact ih k 1 (x5 + 1) hk hf
      · have hf := ifp hf z4
        refine j_iload E 5 rfl dX6_isLed_22 ?_
        refine j_iload_n E 2 rfl dX6_isLed_24 rfl ?_
        refine j_icmp_eq (tgt := 52) E dX6_isLed_25 (by decide) (fun z5 => ?_) (fun z5 => ?_)
        · have hf := ifp hf z5
          refine j_iconst (v := 0) E dX6_isLed_52 (by decide) ?_
          refine j_istore (lv' := [(4, .int 0), (0, .ref (ad x0)), (1, .int x1), (2, .int x2), (3, .int x3), (5, .int x5)]) E dX6_isLed_53 (by decide) rfl ?_
          refine j_iinc (v := (x5 + 1)) (k0 := 5) (lv' := [(5, .int (x5 + 1)), (4, .int 0), (0, .ref (ad x0)), (1, .int x1), (2, .int x2), (3, .int x3)]) E dX6_isLed_55 rfl (congrArg (fun z => x5 + z) (by decide)) (by decide) rfl ?_
          refine j_goto (tgt := 6) E dX6_isLed_58 (by decide) ?_
          refine j_perm (lv' := [(0, .ref (ad x0)), (1, .int x1), (2, .int x2), (3, .int x3), (4, .int 0), (5, .int (x5 + 1))]) [2, 3, 4, 5, 1, 0] rfl ?_
          exact ih k 0 (x5 + 1) hk hf
        · have hf := ifn hf z5
          refine j_iload_n E 3 rfl dX6_isLed_28 rfl ?_
          refine j_iload E 5 rfl dX6_isLed_29 ?_
          refine j_ishr E dX6_isLed_31 ?_
          refine j_iconst (v := 1) E dX6_isLed_32 (by decide) ?_
          refine j_iand E dX6_isLed_33 ?_
          refine j_if_ne (tgt := 52) E dX6_isLed_34 (by decide) (fun z6 => ?_) (fun z6 => ?_)
          · have hf := ifn hf z6
            refine j_iconst (v := 0) E dX6_isLed_52 (by decide) ?_
            refine j_istore (lv' := [(4, .int 0), (0, .ref (ad x0)), (1, .int x1), (2, .int x2), (3, .int x3), (5, .int x5)]) E dX6_isLed_53 (by decide) rfl ?_
            refine j_iinc (v := (x5 + 1)) (k0 := 5) (lv' := [(5, .int (x5 + 1)), (4, .int 0), (0, .ref (ad x0)), (1, .int x1), (2, .int x2), (3, .int x3)]) E dX6_isLed_55 rfl (congrArg (fun z => x5 + z) (by decide)) (by decide) rfl ?_
            refine j_goto (tgt := 6) E dX6_isLed_58 (by decide) ?_
            refine j_perm (lv' := [(0, .ref (ad x0)), (1, .int x1), (2, .int x2), (3, .int x3), (4, .int 0), (5, .int (x5 + 1))]) [2, 3, 4, 5, 1, 0] rfl ?_
            exact ih k 0 (x5 + 1) hk hf
          · have hf := ifp hf z6
            refine j_aload_n E 0 rfl dX6_isLed_37 rfl ?_
            refine j_iload_n E 1 rfl dX6_isLed_38 rfl ?_
            refine j_iload E 5 rfl dX6_isLed_39 ?_
            refine j_iload_n E 2 rfl dX6_isLed_41 rfl ?_
            obtain ⟨k7, hf⟩ := ck_spec hf
            obtain ⟨v8, e9, hf⟩ := bs hf
            refine j_callV (ci := 5) (b := x0) (As := [.int x1, .int x5, .int x2]) (rest := []) (v := (some (.int v8))) E (c_X6_has l D ad cy h x0 x1 x5 x2 e9) (mcw E.1.2.2.2.2 uw_3_210 uw_3_207 uw_3_209 us_2_6 uw_1_6 rfl rfl hd_X6_has ⟨by decide, by decide⟩) rfl k7 rfl rfl (Nat.le_of_ble_eq_true rfl) dX6_isLed_42 ⟨Nat.zero_le _, Nat.zero_le _⟩ ?_
            refine j_stk (st' := [.int v8]) rfl ?_
            refine j_if_eq (tgt := 52) E dX6_isLed_45 (by decide) (fun z10 => ?_) (fun z10 => ?_)
            · have hf := ifp hf z10
              refine j_iconst (v := 0) E dX6_isLed_52 (by decide) ?_
              refine j_istore (lv' := [(4, .int 0), (0, .ref (ad x0)), (1, .int x1), (2, .int x2), (3, .int x3), (5, .int x5)]) E dX6_isLed_53 (by decide) rfl ?_
              refine j_iinc (v := (x5 + 1)) (k0 := 5) (lv' := [(5, .int (x5 + 1)), (4, .int 0), (0, .ref (ad x0)), (1, .int x1), (2, .int x2), (3, .int x3)]) E dX6_isLed_55 rfl (congrArg (fun z => x5 + z) (by decide)) (by decide) rfl ?_
              refine j_goto (tgt := 6) E dX6_isLed_58 (by decide) ?_
              refine j_perm (lv' := [(0, .ref (ad x0)), (1, .int x1), (2, .int x2), (3, .int x3), (4, .int 0), (5, .int (x5 + 1))]) [2, 3, 4, 5, 1, 0] rfl ?_
              exact ih k 0 (x5 + 1) hk hf
            · have hf := ifn hf z10
              refine j_iconst (v := 1) E dX6_isLed_48 (by decide) ?_
              refine j_goto (tgt := 53) E dX6_isLed_49 (by decide) ?_
              refine j_istore (lv' := [(4, .int 1), (0, .ref (ad x0)), (1, .int x1), (2, .int x2), (3, .int x3), (5, .int x5)]) E dX6_isLed_53 (by decide) rfl ?_
              refine j_iinc (v := (x5 + 1)) (k0 := 5) (lv' := [(5, .int (x5 + 1)), (4, .int 1), (0, .ref (ad x0)), (1, .int x1), (2, .int x2), (3, .int x3)]) E dX6_isLed_55 rfl (congrArg (fun z => x5 + z) (by decide)) (by decide) rfl ?_
              refine j_goto (tgt := 6) E dX6_isLed_58 (by decide) ?_
              refine j_perm (lv' := [(0, .ref (ad x0)), (1, .int x1), (2, .int x2), (3, .int x3), (4, .int 1), (5, .int (x5 + 1))]) [2, 3, 4, 5, 1, 0] rfl ?_
              exact ih k 1 (x5 + 1) hk hf
set_option maxRecDepth 100000 in
set_option maxHeartbeats 4000000 in
theorem c_X6_isLed (l : Launch) (D : va_G) (ad : Nat → Nat) (cy : Nat → ClassId) (h : HP) (x0 : Nat) (x1 : Int32) (x2 : Int32) (x3 : Int32) {r : Int32} (hf : f_X6_isLed h x0 x1 x2 x3 = some r) : Met l yX6_isLed (wsM yX6_isLed cX6_isLed 6 (some .boolean)) rmX6_isLed (va_Pc [.ref (ad x0), .int x1, .int x2, .int x3] (PW D ad cy h)) (QV D ad cy (some (.int r)) h) 0 0 (Aw ad) := by
  refine met_of (own := RX6) (lv := [(0, .ref (ad x0)), (1, .int x1), (2, .int x2), (3, .int x3)]) (by decide) rfl (Nat.le_of_ble_eq_true rfl) rfl (fun p e s m args below meth c E hr hlk => ?_)
  unfold f_X6_isLed at hf
  refine j_iconst (v := 0) E dX6_isLed_0 (by decide) ?_
  refine j_istore (lv' := [(4, .int 0), (0, .ref (ad x0)), (1, .int x1), (2, .int x2), (3, .int x3)]) E dX6_isLed_1 (by decide) rfl ?_
  refine j_iconst (v := 0) E dX6_isLed_3 (by decide) ?_
  refine j_istore (lv' := [(5, .int 0), (4, .int 0), (0, .ref (ad x0)), (1, .int x1), (2, .int x2), (3, .int x3)]) E dX6_isLed_4 (by decide) rfl ?_
  refine j_perm (lv' := [(0, .ref (ad x0)), (1, .int x1), (2, .int x2), (3, .int x3), (4, .int 0), (5, .int 0)]) [2, 3, 4, 5, 1, 0] rfl ?_
  refine w_X6_isLed_6 E hr hlk h x0 x1 x2 x3 FU _ 0 0 (fun x11 hf => ?_) hf
  refine j_iload E 0 rfl dX6_isLed_61 ?_
  obtain ⟨n12, hf⟩ := cz_spec hf
  cases hf
  exact j_zret E hr hlk n12 dX6_isLed_63
noncomputable def L_X6_sort_23 (h : HP) (x0 : Nat) (x1 : Int32) : Nat → (Option (HP × Int32)) → Int32 → Option (HP × Int32)
  | 0, _, _ => none
  | n + 1, k, x2 =>
      (gR 5 h x0 1).bind fun v9 =>
      (aI h v9 x1).bind fun v10 =>
      if v10 ≤ x2 then (
        k
      ) else (
        ck 5 h x0 <|
        (f_X6_leader h x0 x1 x2).bind fun v13 =>
        if v13 = x2 then (
          L_X6_sort_23 h x0 x1 n k (x2 + 1)
        ) else (
          some (h, (-3))
        )
      )
noncomputable def L_X6_sort_69 (h : HP) (x0 : Nat) (x1 : Int32) (x2 : Int32) : Nat → (Int32 → Option (HP × Int32)) → Int32 → Option (HP × Int32)
  | 0, _, _ => none
  | n + 1, k, x4 =>
      if ((x2 >>> (x4 &&& 31)) &&& 1) = 1 then (
        L_X6_sort_69 h x0 x1 x2 n k (x4 + 1)
      ) else (
        ck 5 h x0 <|
        (f_X6_isLed h x0 x1 x4 x2).bind fun v21 =>
        if v21 = 0 then (
          k x4
        ) else (
          L_X6_sort_69 h x0 x1 x2 n k (x4 + 1)
        )
      )
noncomputable def L_X6_sort_56 (x0 : Nat) (x1 : Int32) : Nat → (HP → Option (HP × Int32)) → HP → Int32 → Int32 → Option (HP × Int32)
  | 0, _, _, _, _ => none
  | n + 1, k, h, x2, x3 =>
      (gR 5 h x0 1).bind fun v16 =>
      (aI h v16 x1).bind fun v17 =>
      if v17 ≤ x3 then (
        k h
      ) else (
        L_X6_sort_69 h x0 x1 x2 FU (fun x24 =>
          (gR 5 h x0 9).bind fun v25 =>
          (sI h v25 x3 x24).bind fun h26 =>
          L_X6_sort_56 x0 x1 n k h26 (x2 ||| (1 <<< (x24 &&& 31))) (x3 + 1)) 0
      )
noncomputable def f_X6_sort (h : HP) (x0 : Nat) (x1 : Int32) : Option (HP × Int32) :=
  ck 5 h x0 <|
  (f_X6_isTable h x0 x1).bind fun v2 =>
  if v2 = 0 then (
    some (h, (-1))
  ) else (
    ck 5 h x0 <|
    (f_X6_isGraph h x0 x1).bind fun v6 =>
    if v6 = 0 then (
      some (h, (-3))
    ) else (
      L_X6_sort_23 h x0 x1 FU (
        L_X6_sort_56 x0 x1 FU (fun h27 =>
          (gR 5 h27 x0 1).bind fun v28 =>
          (aI h27 v28 x1).bind fun v29 =>
          (pI 5 h27 x0 8 v29).bind fun h30 =>
          (gI 5 h30 x0 8).bind fun v31 =>
          some (h30, v31)) h 0 0) 0
    )
  )
abbrev rmX6_sort : Room := { frames := 5, cells := 0, slots := 0, locals := 119 }
theorem hd_X6_sort : yX6_sort.cls = RX6 ∧ yX6_sort.cls ≠ "java/lang/invoke/MethodHandle" ∧ yX6_sort.cls ≠ "java/lang/invoke/VarHandle" ∧ (parseMethodDescriptor yX6_sort.desc).map (fun d => d.parameters.length) = some 1 := by decide +kernel
set_option maxRecDepth 100000 in
set_option maxHeartbeats 4000000 in
theorem w_X6_sort_23 {p : Program} {l : Launch} {e : Env} {s : State} {m : MethodId} {args : Array Value} {below : List Frame} {meth : Method} {c : Code} {D : va_G} {ad : Nat → Nat} {cy : Nat → ClassId} (E : EE p s m args c cX6_sort 5 (wsM yX6_sort cX6_sort 5 (some .int)) RX6 D cy) (hr : meth.sig.returnType = (some .int)) (hlk : meth.locks = false) {h' : HP} {r : Int32} (h : HP) (x0 : Nat) (x1 : Int32) : ∀ (n : Nat) (k : (Option (HP × Int32))) (x2 : Int32), (k = some (h', r) → JJ p l e rmX6_sort s m args below meth c 0 0 (MQ below (QV D ad cy (some (.int r)) h') args s 0 0 (Aw ad)) D ad cy (Aw ad) 5 h [(0, .ref (ad x0)), (1, .int x1)] 52 []) → L_X6_sort_23 h x0 x1 n k x2 = some (h', r) → JJ p l e rmX6_sort s m args below meth c 0 0 (MQ below (QV D ad cy (some (.int r)) h') args s 0 0 (Aw ad)) D ad cy (Aw ad) 5 h [(0, .ref (ad x0)), (1, .int x1), (2, .int x2)] 23 [] := by
  intro n
  induction n with
  | zero => intro k x2 hk hf; cases hf
  | succ n ih =>
    intro k x2 hk hf
    unfold L_X6_sort_23 at hf
    refine j_iload_n E 2 rfl dX6_sort_23 rfl ?_
    refine j_aload_n E 0 rfl dX6_sort_24 rfl ?_
    obtain ⟨v9, ev9, hf⟩ := bs hf
    refine j_getR (ci := 5) (k0 := 1) (T := TX6) (N := 14) E (mI inUX6) rfl (by decide) (mU uw_3_105) ev9 dX6_sort_25 ?_
    refine j_iload_n E 1 rfl dX6_sort_28 rfl ?_
    obtain ⟨v10, ev10, hf⟩ := bs hf
    refine j_aI E ev10 dX6_sort_29 ?_
    refine j_icmp_ge (tgt := 52) E dX6_sort_30 (by decide) (fun z11 => ?_) (fun z11 => ?_)
    · have hf := ifp hf z11
      refine j_perm (lv' := [(0, .ref (ad x0)), (1, .int x1)]) [0, 1] rfl ?_
      exact hk hf
    · have hf := ifn hf z11
      refine j_aload_n E 0 rfl dX6_sort_33 rfl ?_
      refine j_iload_n E 1 rfl dX6_sort_34 rfl ?_
      refine j_iload_n E 2 rfl dX6_sort_35 rfl ?_
      obtain ⟨k12, hf⟩ := ck_spec hf
      obtain ⟨v13, e14, hf⟩ := bs hf
      refine j_callV (ci := 5) (b := x0) (As := [.int x1, .int x2]) (rest := []) (v := (some (.int v13))) E (c_X6_leader l D ad cy h x0 x1 x2 e14) (mcw E.1.2.2.2.2 uw_4_101 uw_4_98 uw_4_100 us_3_3 uw_1_6 rfl rfl hd_X6_leader ⟨by decide, by decide⟩) rfl k12 rfl rfl (Nat.le_of_ble_eq_true rfl) dX6_sort_36 ⟨Nat.zero_le _, Nat.zero_le _⟩ ?_
      refine j_stk (st' := [.int v13]) rfl ?_
      refine j_iload_n E 2 rfl dX6_sort_39 rfl ?_
      refine j_icmp_eq (tgt := 46) E dX6_sort_40 (by decide) (fun z15 => ?_) (fun z15 => ?_)
      · have hf := ifp hf z15
        refine j_iinc (v := (x2 + 1)) (k0 := 2) (lv' := [(2, .int (x2 + 1)), (0, .ref (ad x0)), (1, .int x1)]) E dX6_sort_46 rfl (congrArg (fun z => x2 + z) (by decide)) (by decide) rfl ?_
        refine j_goto (tgt := 23) E dX6_sort_49 (by decide) ?_
        refine j_perm (lv' := [(0, .ref (ad x0)), (1, .int x1), (2, .int (x2 + 1))]) [1, 2, 0] rfl ?_
        exact ih k (x2 + 1) hk hf
      · have hf := ifn hf z15
        refine j_bipush (v := (-3)) E dX6_sort_43 (by decide) ?_
        cases hf
        exact j_iret E hr hlk dX6_sort_45
set_option maxRecDepth 100000 in
set_option maxHeartbeats 4000000 in
theorem w_X6_sort_69 {p : Program} {l : Launch} {e : Env} {s : State} {m : MethodId} {args : Array Value} {below : List Frame} {meth : Method} {c : Code} {D : va_G} {ad : Nat → Nat} {cy : Nat → ClassId} (E : EE p s m args c cX6_sort 5 (wsM yX6_sort cX6_sort 5 (some .int)) RX6 D cy) (hr : meth.sig.returnType = (some .int)) (hlk : meth.locks = false) {h' : HP} {r : Int32} (h : HP) (x0 : Nat) (x1 : Int32) (x2 : Int32) (x3 : Int32) : ∀ (n : Nat) (k : (Int32 → Option (HP × Int32))) (x4 : Int32), (∀ (x4 : Int32), k x4 = some (h', r) → JJ p l e rmX6_sort s m args below meth c 0 0 (MQ below (QV D ad cy (some (.int r)) h') args s 0 0 (Aw ad)) D ad cy (Aw ad) 5 h [(0, .ref (ad x0)), (1, .int x1), (2, .int x2), (3, .int x3), (4, .int x4)] 96 []) → L_X6_sort_69 h x0 x1 x2 n k x4 = some (h', r) → JJ p l e rmX6_sort s m args below meth c 0 0 (MQ below (QV D ad cy (some (.int r)) h') args s 0 0 (Aw ad)) D ad cy (Aw ad) 5 h [(0, .ref (ad x0)), (1, .int x1), (2, .int x2), (3, .int x3), (4, .int x4)] 69 [] := by
  intro n
  induction n with
  | zero => intro k x4 hk hf; cases hf
  | succ n ih =>
    intro k x4 hk hf
    unfold L_X6_sort_69 at hf
    refine j_iload_n E 2 rfl dX6_sort_69 rfl ?_
    refine j_iload E 4 rfl dX6_sort_70 ?_
    refine j_ishr E dX6_sort_72 ?_
    refine j_iconst (v := 1) E dX6_sort_73 (by decide) ?_
    refine j_iand E dX6_sort_74 ?_
    refine j_iconst (v := 1) E dX6_sort_75 (by decide) ?_
    refine j_icmp_eq (tgt := 90) E dX6_sort_76 (by decide) (fun z19 => ?_) (fun z19 => ?_)
    · have hf := ifp hf z19
      refine j_iinc (v := (x4 + 1)) (k0 := 4) (lv' := [(4, .int (x4 + 1)), (0, .ref (ad x0)), (1, .int x1), (2, .int x2), (3, .int x3)]) E dX6_sort_90 rfl (congrArg (fun z => x4 + z) (by decide)) (by decide) rfl ?_
      refine j_goto (tgt := 69) E dX6_sort_93 (by decide) ?_
      refine j_perm (lv' := [(0, .ref (ad x0)), (1, .int x1), (2, .int x2), (3, .int x3), (4, .int (x4 + 1))]) [1, 2, 3, 4, 0] rfl ?_
      exact ih k (x4 + 1) hk hf
    · have hf := ifn hf z19
      refine j_aload_n E 0 rfl dX6_sort_79 rfl ?_
      refine j_iload_n E 1 rfl dX6_sort_80 rfl ?_
      refine j_iload E 4 rfl dX6_sort_81 ?_
      refine j_iload_n E 2 rfl dX6_sort_83 rfl ?_
      obtain ⟨k20, hf⟩ := ck_spec hf
      obtain ⟨v21, e22, hf⟩ := bs hf
      refine j_callV (ci := 5) (b := x0) (As := [.int x1, .int x4, .int x2]) (rest := []) (v := (some (.int v21))) E (c_X6_isLed l D ad cy h x0 x1 x4 x2 e22) (mcw E.1.2.2.2.2 uw_4_113 uw_4_110 uw_4_112 us_3_5 uw_1_6 rfl rfl hd_X6_isLed ⟨by decide, by decide⟩) rfl k20 rfl rfl (Nat.le_of_ble_eq_true rfl) dX6_sort_84 ⟨Nat.zero_le _, Nat.zero_le _⟩ ?_
      refine j_stk (st' := [.int v21]) rfl ?_
      refine j_if_eq (tgt := 96) E dX6_sort_87 (by decide) (fun z23 => ?_) (fun z23 => ?_)
      · have hf := ifp hf z23
        exact hk x4 hf
      · have hf := ifn hf z23
        refine j_iinc (v := (x4 + 1)) (k0 := 4) (lv' := [(4, .int (x4 + 1)), (0, .ref (ad x0)), (1, .int x1), (2, .int x2), (3, .int x3)]) E dX6_sort_90 rfl (congrArg (fun z => x4 + z) (by decide)) (by decide) rfl ?_
        refine j_goto (tgt := 69) E dX6_sort_93 (by decide) ?_
        refine j_perm (lv' := [(0, .ref (ad x0)), (1, .int x1), (2, .int x2), (3, .int x3), (4, .int (x4 + 1))]) [1, 2, 3, 4, 0] rfl ?_
        exact ih k (x4 + 1) hk hf
set_option maxRecDepth 100000 in
set_option maxHeartbeats 4000000 in
theorem w_X6_sort_56 {p : Program} {l : Launch} {e : Env} {s : State} {m : MethodId} {args : Array Value} {below : List Frame} {meth : Method} {c : Code} {D : va_G} {ad : Nat → Nat} {cy : Nat → ClassId} (E : EE p s m args c cX6_sort 5 (wsM yX6_sort cX6_sort 5 (some .int)) RX6 D cy) (hr : meth.sig.returnType = (some .int)) (hlk : meth.locks = false) {h' : HP} {r : Int32} (x0 : Nat) (x1 : Int32) : ∀ (n : Nat) (k : (HP → Option (HP × Int32))) (h : HP) (x2 : Int32) (x3 : Int32), (∀ (h : HP), k h = some (h', r) → JJ p l e rmX6_sort s m args below meth c 0 0 (MQ below (QV D ad cy (some (.int r)) h') args s 0 0 (Aw ad)) D ad cy (Aw ad) 5 h [(0, .ref (ad x0)), (1, .int x1)] 117 []) → L_X6_sort_56 x0 x1 n k h x2 x3 = some (h', r) → JJ p l e rmX6_sort s m args below meth c 0 0 (MQ below (QV D ad cy (some (.int r)) h') args s 0 0 (Aw ad)) D ad cy (Aw ad) 5 h [(0, .ref (ad x0)), (1, .int x1), (2, .int x2), (3, .int x3)] 56 [] := by
  intro n
  induction n with
  | zero => intro k h x2 x3 hk hf; cases hf
  | succ n ih =>
    intro k h x2 x3 hk hf
    unfold L_X6_sort_56 at hf
    refine j_iload_n E 3 rfl dX6_sort_56 rfl ?_
    refine j_aload_n E 0 rfl dX6_sort_57 rfl ?_
    obtain ⟨v16, ev16, hf⟩ := bs hf
    refine j_getR (ci := 5) (k0 := 1) (T := TX6) (N := 14) E (mI inUX6) rfl (by decide) (mU uw_3_105) ev16 dX6_sort_58 ?_
    refine j_iload_n E 1 rfl dX6_sort_61 rfl ?_
    obtain ⟨v17, ev17, hf⟩ := bs hf
    refine j_aI E ev17 dX6_sort_62 ?_
    refine j_icmp_ge (tgt := 117) E dX6_sort_63 (by decide) (fun z18 => ?_) (fun z18 => ?_)
    · have hf := ifp hf z18
      refine j_perm (lv' := [(0, .ref (ad x0)), (1, .int x1)]) [0, 1] rfl ?_
      exact hk h hf
    · have hf := ifn hf z18
      refine j_iconst (v := 0) E dX6_sort_66 (by decide) ?_
      refine j_istore (lv' := [(4, .int 0), (0, .ref (ad x0)), (1, .int x1), (2, .int x2), (3, .int x3)]) E dX6_sort_67 (by decide) rfl ?_
      refine j_perm (lv' := [(0, .ref (ad x0)), (1, .int x1), (2, .int x2), (3, .int x3), (4, .int 0)]) [1, 2, 3, 4, 0] rfl ?_
      refine w_X6_sort_69 E hr hlk h x0 x1 x2 x3 FU _ 0 (fun x24 hf => ?_) hf
      refine j_iload_n E 2 rfl dX6_sort_96 rfl ?_
      refine j_iconst (v := 1) E dX6_sort_97 (by decide) ?_
      refine j_iload E 4 rfl dX6_sort_98 ?_
      refine j_ishl E dX6_sort_100 ?_
      refine j_ior E dX6_sort_101 ?_
      refine j_istore_n (lv' := [(2, .int (x2 ||| (1 <<< (x24 &&& 31)))), (0, .ref (ad x0)), (1, .int x1), (3, .int x3), (4, .int x24)]) E dX6_sort_102 rfl (by decide) rfl ?_
      refine j_aload_n E 1 rfl dX6_sort_103 rfl ?_
      obtain ⟨v25, ev25, hf⟩ := bs hf
      refine j_getR (ci := 5) (k0 := 9) (T := TX6) (N := 14) E (mI inUX6) rfl (by decide) (mU uw_3_113) ev25 dX6_sort_104 ?_
      refine j_iload_n E 3 rfl dX6_sort_107 rfl ?_
      refine j_iload E 4 rfl dX6_sort_108 ?_
      obtain ⟨h26, eh26, hf⟩ := bs hf
      refine j_sI E eh26 dX6_sort_110 ?_
      refine j_iinc (v := (x3 + 1)) (k0 := 3) (lv' := [(3, .int (x3 + 1)), (2, .int (x2 ||| (1 <<< (x24 &&& 31)))), (0, .ref (ad x0)), (1, .int x1), (4, .int x24)]) E dX6_sort_111 rfl (congrArg (fun z => x3 + z) (by decide)) (by decide) rfl ?_
      refine j_goto (tgt := 56) E dX6_sort_114 (by decide) ?_
      refine j_perm (lv' := [(0, .ref (ad x0)), (1, .int x1), (2, .int (x2 ||| (1 <<< (x24 &&& 31)))), (3, .int (x3 + 1))]) [2, 3, 1, 0] rfl ?_
      exact ih k h26 (x2 ||| (1 <<< (x24 &&& 31))) (x3 + 1) hk hf
set_option maxRecDepth 100000 in
set_option maxHeartbeats 4000000 in
theorem c_X6_sort (l : Launch) (D : va_G) (ad : Nat → Nat) (cy : Nat → ClassId) (h : HP) (x0 : Nat) (x1 : Int32) {h' : HP} {r : Int32} (hf : f_X6_sort h x0 x1 = some (h', r)) : Met l yX6_sort (wsM yX6_sort cX6_sort 5 (some .int)) rmX6_sort (va_Pc [.ref (ad x0), .int x1] (PW D ad cy h)) (QV D ad cy (some (.int r)) h') 0 0 (Aw ad) := by
  refine met_of (own := RX6) (lv := [(0, .ref (ad x0)), (1, .int x1)]) (by decide) rfl (Nat.le_of_ble_eq_true rfl) rfl (fun p e s m args below meth c E hr hlk => ?_)
  unfold f_X6_sort at hf
  refine j_aload_n E 0 rfl dX6_sort_0 rfl ?_
  refine j_iload_n E 1 rfl dX6_sort_1 rfl ?_
  obtain ⟨k1, hf⟩ := ck_spec hf
  obtain ⟨v2, e3, hf⟩ := bs hf
  refine j_callV (ci := 5) (b := x0) (As := [.int x1]) (rest := []) (v := (some (.int v2))) E (c_X6_isTable l D ad cy h x0 x1 e3) (mcw E.1.2.2.2.2 uw_3_186 uw_3_183 uw_3_185 us_2_2 uw_1_6 rfl rfl hd_X6_isTable ⟨by decide, by decide⟩) rfl k1 rfl rfl (Nat.le_of_ble_eq_true rfl) dX6_sort_2 ⟨Nat.zero_le _, Nat.zero_le _⟩ ?_
  refine j_stk (st' := [.int v2]) rfl ?_
  refine j_if_ne (tgt := 10) E dX6_sort_5 (by decide) (fun z4 => ?_) (fun z4 => ?_)
  · have hf := ifn hf z4
    refine j_aload_n E 0 rfl dX6_sort_10 rfl ?_
    refine j_iload_n E 1 rfl dX6_sort_11 rfl ?_
    obtain ⟨k5, hf⟩ := ck_spec hf
    obtain ⟨v6, e7, hf⟩ := bs hf
    refine j_callV (ci := 5) (b := x0) (As := [.int x1]) (rest := []) (v := (some (.int v6))) E (c_X6_isGraph l D ad cy h x0 x1 e7) (mcw E.1.2.2.2.2 uw_4_85 uw_4_82 uw_4_84 us_3_1 uw_1_6 rfl rfl hd_X6_isGraph ⟨by decide, by decide⟩) rfl k5 rfl rfl (Nat.le_of_ble_eq_true rfl) dX6_sort_12 ⟨Nat.zero_le _, Nat.zero_le _⟩ ?_
    refine j_stk (st' := [.int v6]) rfl ?_
    refine j_if_ne (tgt := 21) E dX6_sort_15 (by decide) (fun z8 => ?_) (fun z8 => ?_)
    · have hf := ifn hf z8
      refine j_iconst (v := 0) E dX6_sort_21 (by decide) ?_
      refine j_istore_n (lv' := [(2, .int 0), (0, .ref (ad x0)), (1, .int x1)]) E dX6_sort_22 rfl (by decide) rfl ?_
      refine j_perm (lv' := [(0, .ref (ad x0)), (1, .int x1), (2, .int 0)]) [1, 2, 0] rfl ?_
      refine w_X6_sort_23 E hr hlk h x0 x1 FU _ 0 (fun hf => ?_) hf
      refine j_iconst (v := 0) E dX6_sort_52 (by decide) ?_
      refine j_istore_n (lv' := [(2, .int 0), (0, .ref (ad x0)), (1, .int x1)]) E dX6_sort_53 rfl (by decide) rfl ?_
      refine j_iconst (v := 0) E dX6_sort_54 (by decide) ?_
      refine j_istore_n (lv' := [(3, .int 0), (2, .int 0), (0, .ref (ad x0)), (1, .int x1)]) E dX6_sort_55 rfl (by decide) rfl ?_
      refine j_perm (lv' := [(0, .ref (ad x0)), (1, .int x1), (2, .int 0), (3, .int 0)]) [2, 3, 1, 0] rfl ?_
      refine w_X6_sort_56 E hr hlk x0 x1 FU _ h 0 0 (fun h27 hf => ?_) hf
      refine j_aload_n E 0 rfl dX6_sort_117 rfl ?_
      refine j_aload_n E 0 rfl dX6_sort_118 rfl ?_
      obtain ⟨v28, ev28, hf⟩ := bs hf
      refine j_getR (ci := 5) (k0 := 1) (T := TX6) (N := 14) E (mI inUX6) rfl (by decide) (mU uw_3_105) ev28 dX6_sort_119 ?_
      refine j_iload_n E 1 rfl dX6_sort_122 rfl ?_
      obtain ⟨v29, ev29, hf⟩ := bs hf
      refine j_aI E ev29 dX6_sort_123 ?_
      obtain ⟨h30, eh30, hf⟩ := bs hf
      refine j_putI (ci := 5) (k0 := 8) (T := TX6) (N := 14) E (mI inUX6) rfl (by decide) (mU uw_3_112) tyX6 tyX6_ok nmX6 rfl (by decide +kernel) eh30 dX6_sort_124 ?_
      refine j_aload_n E 0 rfl dX6_sort_127 rfl ?_
      obtain ⟨v31, ev31, hf⟩ := bs hf
      refine j_getI (ci := 5) (k0 := 8) (T := TX6) (N := 14) E (mI inUX6) rfl (by decide) (mU uw_3_112) ev31 dX6_sort_128 ?_
      cases hf
      exact j_iret E hr hlk dX6_sort_131
    · have hf := ifp hf z8
      refine j_bipush (v := (-3)) E dX6_sort_18 (by decide) ?_
      cases hf
      exact j_iret E hr hlk dX6_sort_20
  · have hf := ifp hf z4
    refine j_iconst (v := (-1)) E dX6_sort_8 (by decide) ?_
    cases hf
    exact j_iret E hr hlk dX6_sort_9
noncomputable def f_X6_areJoined (h : HP) (x0 : Nat) (x1 : Int32) (x2 : Int32) (x3 : Int32) : Option (Int32) :=
  if x2 = x3 then (
    some 0
  ) else (
    ck 5 h x0 <|
    (f_X6_has h x0 x1 x2 x3).bind fun v3 =>
    if v3 = 0 then (
      ck 5 h x0 <|
      (f_X6_has h x0 x1 x3 x2).bind fun v7 =>
      if v7 = 0 then (
        some 0
      ) else (
        some 1
      )
    ) else (
      some 1
    )
  )
abbrev rmX6_areJoined : Room := { frames := 2, cells := 0, slots := 0, locals := 45 }
theorem hd_X6_areJoined : yX6_areJoined.cls = RX6 ∧ yX6_areJoined.cls ≠ "java/lang/invoke/MethodHandle" ∧ yX6_areJoined.cls ≠ "java/lang/invoke/VarHandle" ∧ (parseMethodDescriptor yX6_areJoined.desc).map (fun d => d.parameters.length) = some 3 := by decide +kernel
set_option maxRecDepth 100000 in
set_option maxHeartbeats 4000000 in
theorem c_X6_areJoined (l : Launch) (D : va_G) (ad : Nat → Nat) (cy : Nat → ClassId) (h : HP) (x0 : Nat) (x1 : Int32) (x2 : Int32) (x3 : Int32) {r : Int32} (hf : f_X6_areJoined h x0 x1 x2 x3 = some r) : Met l yX6_areJoined (wsM yX6_areJoined cX6_areJoined 4 (some .boolean)) rmX6_areJoined (va_Pc [.ref (ad x0), .int x1, .int x2, .int x3] (PW D ad cy h)) (QV D ad cy (some (.int r)) h) 0 0 (Aw ad) := by
  refine met_of (own := RX6) (lv := [(0, .ref (ad x0)), (1, .int x1), (2, .int x2), (3, .int x3)]) (by decide) rfl (Nat.le_of_ble_eq_true rfl) rfl (fun p e s m args below meth c E hr hlk => ?_)
  unfold f_X6_areJoined at hf
  refine j_iload_n E 2 rfl dX6_areJoined_0 rfl ?_
  refine j_iload_n E 3 rfl dX6_areJoined_1 rfl ?_
  refine j_icmp_eq (tgt := 29) E dX6_areJoined_2 (by decide) (fun z1 => ?_) (fun z1 => ?_)
  · have hf := ifp hf z1
    refine j_iconst (v := 0) E dX6_areJoined_29 (by decide) ?_
    cases hf
    exact j_zret E hr hlk rfl dX6_areJoined_30
  · have hf := ifn hf z1
    refine j_aload_n E 0 rfl dX6_areJoined_5 rfl ?_
    refine j_iload_n E 1 rfl dX6_areJoined_6 rfl ?_
    refine j_iload_n E 2 rfl dX6_areJoined_7 rfl ?_
    refine j_iload_n E 3 rfl dX6_areJoined_8 rfl ?_
    obtain ⟨k2, hf⟩ := ck_spec hf
    obtain ⟨v3, e4, hf⟩ := bs hf
    refine j_callV (ci := 5) (b := x0) (As := [.int x1, .int x2, .int x3]) (rest := []) (v := (some (.int v3))) E (c_X6_has l D ad cy h x0 x1 x2 x3 e4) (mcw E.1.2.2.2.2 uw_3_210 uw_3_207 uw_3_209 us_2_6 uw_1_6 rfl rfl hd_X6_has ⟨by decide, by decide⟩) rfl k2 rfl rfl (Nat.le_of_ble_eq_true rfl) dX6_areJoined_9 ⟨Nat.zero_le _, Nat.zero_le _⟩ ?_
    refine j_stk (st' := [.int v3]) rfl ?_
    refine j_if_ne (tgt := 25) E dX6_areJoined_12 (by decide) (fun z5 => ?_) (fun z5 => ?_)
    · have hf := ifn hf z5
      refine j_iconst (v := 1) E dX6_areJoined_25 (by decide) ?_
      refine j_goto (tgt := 30) E dX6_areJoined_26 (by decide) ?_
      cases hf
      exact j_zret E hr hlk rfl dX6_areJoined_30
    · have hf := ifp hf z5
      refine j_aload_n E 0 rfl dX6_areJoined_15 rfl ?_
      refine j_iload_n E 1 rfl dX6_areJoined_16 rfl ?_
      refine j_iload_n E 3 rfl dX6_areJoined_17 rfl ?_
      refine j_iload_n E 2 rfl dX6_areJoined_18 rfl ?_
      obtain ⟨k6, hf⟩ := ck_spec hf
      obtain ⟨v7, e8, hf⟩ := bs hf
      refine j_callV (ci := 5) (b := x0) (As := [.int x1, .int x3, .int x2]) (rest := []) (v := (some (.int v7))) E (c_X6_has l D ad cy h x0 x1 x3 x2 e8) (mcw E.1.2.2.2.2 uw_3_210 uw_3_207 uw_3_209 us_2_6 uw_1_6 rfl rfl hd_X6_has ⟨by decide, by decide⟩) rfl k6 rfl rfl (Nat.le_of_ble_eq_true rfl) dX6_areJoined_19 ⟨Nat.zero_le _, Nat.zero_le _⟩ ?_
      refine j_stk (st' := [.int v7]) rfl ?_
      refine j_if_eq (tgt := 29) E dX6_areJoined_22 (by decide) (fun z9 => ?_) (fun z9 => ?_)
      · have hf := ifp hf z9
        refine j_iconst (v := 0) E dX6_areJoined_29 (by decide) ?_
        cases hf
        exact j_zret E hr hlk rfl dX6_areJoined_30
      · have hf := ifn hf z9
        refine j_iconst (v := 1) E dX6_areJoined_25 (by decide) ?_
        refine j_goto (tgt := 30) E dX6_areJoined_26 (by decide) ?_
        cases hf
        exact j_zret E hr hlk rfl dX6_areJoined_30
noncomputable def L_X6_neighbours_5 (h : HP) (x0 : Nat) (x1 : Int32) (x2 : Int32) : Nat → (Int32 → Option (Int32)) → Int32 → Int32 → Option (Int32)
  | 0, _, _, _ => none
  | n + 1, k, x3, x4 =>
      (gR 5 h x0 1).bind fun v1 =>
      (aI h v1 x1).bind fun v2 =>
      if v2 ≤ x4 then (
        k x3
      ) else (
        ck 5 h x0 <|
        (f_X6_areJoined h x0 x1 x2 x4).bind fun v5 =>
        if v5 = 0 then (
          L_X6_neighbours_5 h x0 x1 x2 n k (x3 + 0) (x4 + 1)
        ) else (
          L_X6_neighbours_5 h x0 x1 x2 n k (x3 + 1) (x4 + 1)
        )
      )
noncomputable def f_X6_neighbours (h : HP) (x0 : Nat) (x1 : Int32) (x2 : Int32) : Option (Int32) :=
  L_X6_neighbours_5 h x0 x1 x2 FU (fun x8 =>
    some x8) 0 0
abbrev rmX6_neighbours : Room := { frames := 3, cells := 0, slots := 0, locals := 68 }
theorem hd_X6_neighbours : yX6_neighbours.cls = RX6 ∧ yX6_neighbours.cls ≠ "java/lang/invoke/MethodHandle" ∧ yX6_neighbours.cls ≠ "java/lang/invoke/VarHandle" ∧ (parseMethodDescriptor yX6_neighbours.desc).map (fun d => d.parameters.length) = some 2 := by decide +kernel
set_option maxRecDepth 100000 in
set_option maxHeartbeats 4000000 in
theorem w_X6_neighbours_5 {p : Program} {l : Launch} {e : Env} {s : State} {m : MethodId} {args : Array Value} {below : List Frame} {meth : Method} {c : Code} {D : va_G} {ad : Nat → Nat} {cy : Nat → ClassId} (E : EE p s m args c cX6_neighbours 5 (wsM yX6_neighbours cX6_neighbours 5 (some .int)) RX6 D cy) (hr : meth.sig.returnType = (some .int)) (hlk : meth.locks = false) {r : Int32} (h : HP) (x0 : Nat) (x1 : Int32) (x2 : Int32) : ∀ (n : Nat) (k : (Int32 → Option (Int32))) (x3 : Int32) (x4 : Int32), (∀ (x3 : Int32), k x3 = some r → JJ p l e rmX6_neighbours s m args below meth c 0 0 (MQ below (QV D ad cy (some (.int r)) h) args s 0 0 (Aw ad)) D ad cy (Aw ad) 5 h [(3, .int x3)] 41 []) → L_X6_neighbours_5 h x0 x1 x2 n k x3 x4 = some r → JJ p l e rmX6_neighbours s m args below meth c 0 0 (MQ below (QV D ad cy (some (.int r)) h) args s 0 0 (Aw ad)) D ad cy (Aw ad) 5 h [(0, .ref (ad x0)), (1, .int x1), (2, .int x2), (3, .int x3), (4, .int x4)] 5 [] := by
  intro n
  induction n with
  | zero => intro k x3 x4 hk hf; cases hf
  | succ n ih =>
    intro k x3 x4 hk hf
    unfold L_X6_neighbours_5 at hf
    refine j_iload E 4 rfl dX6_neighbours_5 ?_
    refine j_aload_n E 0 rfl dX6_neighbours_7 rfl ?_
    obtain ⟨v1, ev1, hf⟩ := bs hf
    refine j_getR (ci := 5) (k0 := 1) (T := TX6) (N := 14) E (mI inUX6) rfl (by decide) (mU uw_3_105) ev1 dX6_neighbours_8 ?_
    refine j_iload_n E 1 rfl dX6_neighbours_11 rfl ?_
    obtain ⟨v2, ev2, hf⟩ := bs hf
    refine j_aI E ev2 dX6_neighbours_12 ?_
    refine j_icmp_ge (tgt := 41) E dX6_neighbours_13 (by decide) (fun z3 => ?_) (fun z3 => ?_)
    · have hf := ifp hf z3
      refine j_perm (lv' := [(3, .int x3)]) [3] rfl ?_
      exact hk x3 hf
    · have hf := ifn hf z3
      refine j_iload_n E 3 rfl dX6_neighbours_16 rfl ?_
      refine j_aload_n E 0 rfl dX6_neighbours_17 rfl ?_
      refine j_iload_n E 1 rfl dX6_neighbours_18 rfl ?_
      refine j_iload_n E 2 rfl dX6_neighbours_19 rfl ?_
      refine j_iload E 4 rfl dX6_neighbours_20 ?_
      obtain ⟨k4, hf⟩ := ck_spec hf
      obtain ⟨v5, e6, hf⟩ := bs hf
      refine j_callV (ci := 5) (b := x0) (As := [.int x1, .int x2, .int x4]) (rest := [.int x3]) (v := (some (.int v5))) E (c_X6_areJoined l D ad cy h x0 x1 x2 x4 e6) (mcw E.1.2.2.2.2 uw_4_125 uw_4_122 uw_4_124 us_3_7 uw_1_6 rfl rfl hd_X6_areJoined ⟨by decide, by decide⟩) rfl k4 rfl rfl (Nat.le_of_ble_eq_true rfl) dX6_neighbours_22 ⟨Nat.zero_le _, Nat.zero_le _⟩ ?_
      refine j_stk (st' := [.int v5, .int x3]) rfl ?_
      refine j_if_eq (tgt := 32) E dX6_neighbours_25 (by decide) (fun z7 => ?_) (fun z7 => ?_)
      · have hf := ifp hf z7
        refine j_iconst (v := 0) E dX6_neighbours_32 (by decide) ?_
        refine j_iadd E dX6_neighbours_33 ?_
        refine j_istore_n (lv' := [(3, .int (x3 + 0)), (0, .ref (ad x0)), (1, .int x1), (2, .int x2), (4, .int x4)]) E dX6_neighbours_34 rfl (by decide) rfl ?_
        refine j_iinc (v := (x4 + 1)) (k0 := 4) (lv' := [(4, .int (x4 + 1)), (3, .int (x3 + 0)), (0, .ref (ad x0)), (1, .int x1), (2, .int x2)]) E dX6_neighbours_35 rfl (congrArg (fun z => x4 + z) (by decide)) (by decide) rfl ?_
        refine j_goto (tgt := 5) E dX6_neighbours_38 (by decide) ?_
        refine j_perm (lv' := [(0, .ref (ad x0)), (1, .int x1), (2, .int x2), (3, .int (x3 + 0)), (4, .int (x4 + 1))]) [2, 3, 4, 1, 0] rfl ?_
        exact ih k (x3 + 0) (x4 + 1) hk hf
      · have hf := ifn hf z7
        refine j_iconst (v := 1) E dX6_neighbours_28 (by decide) ?_
        refine j_goto (tgt := 33) E dX6_neighbours_29 (by decide) ?_
        refine j_iadd E dX6_neighbours_33 ?_
        refine j_istore_n (lv' := [(3, .int (x3 + 1)), (0, .ref (ad x0)), (1, .int x1), (2, .int x2), (4, .int x4)]) E dX6_neighbours_34 rfl (by decide) rfl ?_
        refine j_iinc (v := (x4 + 1)) (k0 := 4) (lv' := [(4, .int (x4 + 1)), (3, .int (x3 + 1)), (0, .ref (ad x0)), (1, .int x1), (2, .int x2)]) E dX6_neighbours_35 rfl (congrArg (fun z => x4 + z) (by decide)) (by decide) rfl ?_
        refine j_goto (tgt := 5) E dX6_neighbours_38 (by decide) ?_
        refine j_perm (lv' := [(0, .ref (ad x0)), (1, .int x1), (2, .int x2), (3, .int (x3 + 1)), (4, .int (x4 + 1))]) [2, 3, 4, 1, 0] rfl ?_
        exact ih k (x3 + 1) (x4 + 1) hk hf
set_option maxRecDepth 100000 in
set_option maxHeartbeats 4000000 in
theorem c_X6_neighbours (l : Launch) (D : va_G) (ad : Nat → Nat) (cy : Nat → ClassId) (h : HP) (x0 : Nat) (x1 : Int32) (x2 : Int32) {r : Int32} (hf : f_X6_neighbours h x0 x1 x2 = some r) : Met l yX6_neighbours (wsM yX6_neighbours cX6_neighbours 5 (some .int)) rmX6_neighbours (va_Pc [.ref (ad x0), .int x1, .int x2] (PW D ad cy h)) (QV D ad cy (some (.int r)) h) 0 0 (Aw ad) := by
  refine met_of (own := RX6) (lv := [(0, .ref (ad x0)), (1, .int x1), (2, .int x2)]) (by decide) rfl (Nat.le_of_ble_eq_true rfl) rfl (fun p e s m args below meth c E hr hlk => ?_)
  unfold f_X6_neighbours at hf
  refine j_iconst (v := 0) E dX6_neighbours_0 (by decide) ?_
  refine j_istore_n (lv' := [(3, .int 0), (0, .ref (ad x0)), (1, .int x1), (2, .int x2)]) E dX6_neighbours_1 rfl (by decide) rfl ?_
  refine j_iconst (v := 0) E dX6_neighbours_2 (by decide) ?_
  refine j_istore (lv' := [(4, .int 0), (3, .int 0), (0, .ref (ad x0)), (1, .int x1), (2, .int x2)]) E dX6_neighbours_3 (by decide) rfl ?_
  refine j_perm (lv' := [(0, .ref (ad x0)), (1, .int x1), (2, .int x2), (3, .int 0), (4, .int 0)]) [2, 3, 4, 1, 0] rfl ?_
  refine w_X6_neighbours_5 E hr hlk h x0 x1 x2 FU _ 0 0 (fun x8 hf => ?_) hf
  refine j_iload_n E 0 rfl dX6_neighbours_41 rfl ?_
  cases hf
  exact j_iret E hr hlk dX6_neighbours_42
noncomputable def L_X6_fewest_6 (h : HP) (x0 : Nat) (x1 : Int32) (x2 : Int32) (x3 : Int32) : Nat → (Int32 → Option (Int32)) → Int32 → Int32 → Option (Int32)
  | 0, _, _, _ => none
  | n + 1, k, x4, x5 =>
      (gR 5 h x0 1).bind fun v1 =>
      (aI h v1 x1).bind fun v2 =>
      if v2 ≤ x5 then (
        k x4
      ) else (
        if ((x2 >>> (x5 &&& 31)) &&& 1) = 0 then (
          if x3 < 0 then (
            if x4 < 0 then (
              L_X6_fewest_6 h x0 x1 x2 x3 n k x5 (x5 + 1)
            ) else (
              ck 5 h x0 <|
              (f_X6_neighbours h x0 x1 x5).bind fun v8 =>
              ck 5 h x0 <|
              (f_X6_neighbours h x0 x1 x4).bind fun v11 =>
              if v11 ≤ v8 then (
                L_X6_fewest_6 h x0 x1 x2 x3 n k x4 (x5 + 1)
              ) else (
                L_X6_fewest_6 h x0 x1 x2 x3 n k x5 (x5 + 1)
              )
            )
          ) else (
            ck 5 h x0 <|
            (f_X6_areJoined h x0 x1 x3 x5).bind fun v15 =>
            if v15 = 0 then (
              L_X6_fewest_6 h x0 x1 x2 x3 n k x4 (x5 + 1)
            ) else (
              if x4 < 0 then (
                L_X6_fewest_6 h x0 x1 x2 x3 n k x5 (x5 + 1)
              ) else (
                ck 5 h x0 <|
                (f_X6_neighbours h x0 x1 x5).bind fun v20 =>
                ck 5 h x0 <|
                (f_X6_neighbours h x0 x1 x4).bind fun v23 =>
                if v23 ≤ v20 then (
                  L_X6_fewest_6 h x0 x1 x2 x3 n k x4 (x5 + 1)
                ) else (
                  L_X6_fewest_6 h x0 x1 x2 x3 n k x5 (x5 + 1)
                )
              )
            )
          )
        ) else (
          L_X6_fewest_6 h x0 x1 x2 x3 n k x4 (x5 + 1)
        )
      )
noncomputable def f_X6_fewest (h : HP) (x0 : Nat) (x1 : Int32) (x2 : Int32) (x3 : Int32) : Option (Int32) :=
  L_X6_fewest_6 h x0 x1 x2 x3 FU (fun x26 =>
    some x26) (-1) 0
abbrev rmX6_fewest : Room := { frames := 4, cells := 0, slots := 0, locals := 92 }
theorem hd_X6_fewest : yX6_fewest.cls = RX6 ∧ yX6_fewest.cls ≠ "java/lang/invoke/MethodHandle" ∧ yX6_fewest.cls ≠ "java/lang/invoke/VarHandle" ∧ (parseMethodDescriptor yX6_fewest.desc).map (fun d => d.parameters.length) = some 3 := by decide +kernel
set_option maxRecDepth 100000 in
set_option maxHeartbeats 4000000 in
theorem w_X6_fewest_6 {p : Program} {l : Launch} {e : Env} {s : State} {m : MethodId} {args : Array Value} {below : List Frame} {meth : Method} {c : Code} {D : va_G} {ad : Nat → Nat} {cy : Nat → ClassId} (E : EE p s m args c cX6_fewest 6 (wsM yX6_fewest cX6_fewest 6 (some .int)) RX6 D cy) (hr : meth.sig.returnType = (some .int)) (hlk : meth.locks = false) {r : Int32} (h : HP) (x0 : Nat) (x1 : Int32) (x2 : Int32) (x3 : Int32) : ∀ (n : Nat) (k : (Int32 → Option (Int32))) (x4 : Int32) (x5 : Int32), (∀ (x4 : Int32), k x4 = some r → JJ p l e rmX6_fewest s m args below meth c 0 0 (MQ below (QV D ad cy (some (.int r)) h) args s 0 0 (Aw ad)) D ad cy (Aw ad) 6 h [(4, .int x4)] 73 []) → L_X6_fewest_6 h x0 x1 x2 x3 n k x4 x5 = some r → JJ p l e rmX6_fewest s m args below meth c 0 0 (MQ below (QV D ad cy (some (.int r)) h) args s 0 0 (Aw ad)) D ad cy (Aw ad) 6 h [(0, .ref (ad x0)), (1, .int x1), (2, .int x2), (3, .int x3), (4, .int x4), (5, .int x5)] 6 [] := by
  intro n
  induction n with
  | zero => intro k x4 x5 hk hf; cases hf
  | succ n ih =>
    intro k x4 x5 hk hf
    unfold L_X6_fewest_6 at hf
    refine j_iload E 5 rfl dX6_fewest_6 ?_
    refine j_aload_n E 0 rfl dX6_fewest_8 rfl ?_
    obtain ⟨v1, ev1, hf⟩ := bs hf
    refine j_getR (ci := 5) (k0 := 1) (T := TX6) (N := 14) E (mI inUX6) rfl (by decide) (mU uw_3_105) ev1 dX6_fewest_9 ?_
    refine j_iload_n E 1 rfl dX6_fewest_12 rfl ?_
    obtain ⟨v2, ev2, hf⟩ := bs hf
    refine j_aI E ev2 dX6_fewest_13 ?_
    refine j_icmp_ge (tgt := 73) E dX6_fewest_14 (by decide) (fun z3 => ?_) (fun z3 => ?_)
    · have hf := ifp hf z3
      refine j_perm (lv' := [(4, .int x4)]) [4] rfl ?_
      exact hk x4 hf
    · have hf := ifn hf z3
      refine j_iload_n E 2 rfl dX6_fewest_17 rfl ?_
      refine j_iload E 5 rfl dX6_fewest_18 ?_
      refine j_ishr E dX6_fewest_20 ?_
      refine j_iconst (v := 1) E dX6_fewest_21 (by decide) ?_
      refine j_iand E dX6_fewest_22 ?_
      refine j_if_ne (tgt := 67) E dX6_fewest_23 (by decide) (fun z4 => ?_) (fun z4 => ?_)
      · have hf := ifn hf z4
        refine j_iinc (v := (x5 + 1)) (k0 := 5) (lv' := [(5, .int (x5 + 1)), (0, .ref (ad x0)), (1, .int x1), (2, .int x2), (3, .int x3), (4, .int x4)]) E dX6_fewest_67 rfl (congrArg (fun z => x5 + z) (by decide)) (by decide) rfl ?_
        refine j_goto (tgt := 6) E dX6_fewest_70 (by decide) ?_
        refine j_perm (lv' := [(0, .ref (ad x0)), (1, .int x1), (2, .int x2), (3, .int x3), (4, .int x4), (5, .int (x5 + 1))]) [1, 2, 3, 4, 5, 0] rfl ?_
        exact ih k x4 (x5 + 1) hk hf
      · have hf := ifp hf z4
        refine j_iload_n E 3 rfl dX6_fewest_26 rfl ?_
        refine j_if_lt (tgt := 41) E dX6_fewest_27 (by decide) (fun z5 => ?_) (fun z5 => ?_)
        · have hf := ifp hf z5
          refine j_iload E 4 rfl dX6_fewest_41 ?_
          refine j_if_lt (tgt := 63) E dX6_fewest_43 (by decide) (fun z6 => ?_) (fun z6 => ?_)
          · have hf := ifp hf z6
            refine j_iload E 5 rfl dX6_fewest_63 ?_
            refine j_istore (lv' := [(4, .int x5), (0, .ref (ad x0)), (1, .int x1), (2, .int x2), (3, .int x3), (5, .int x5)]) E dX6_fewest_65 (by decide) rfl ?_
            refine j_iinc (v := (x5 + 1)) (k0 := 5) (lv' := [(5, .int (x5 + 1)), (4, .int x5), (0, .ref (ad x0)), (1, .int x1), (2, .int x2), (3, .int x3)]) E dX6_fewest_67 rfl (congrArg (fun z => x5 + z) (by decide)) (by decide) rfl ?_
            refine j_goto (tgt := 6) E dX6_fewest_70 (by decide) ?_
            refine j_perm (lv' := [(0, .ref (ad x0)), (1, .int x1), (2, .int x2), (3, .int x3), (4, .int x5), (5, .int (x5 + 1))]) [2, 3, 4, 5, 1, 0] rfl ?_
            exact ih k x5 (x5 + 1) hk hf
          · have hf := ifn hf z6
            refine j_aload_n E 0 rfl dX6_fewest_46 rfl ?_
            refine j_iload_n E 1 rfl dX6_fewest_47 rfl ?_
            refine j_iload E 5 rfl dX6_fewest_48 ?_
            obtain ⟨k7, hf⟩ := ck_spec hf
            obtain ⟨v8, e9, hf⟩ := bs hf
            refine j_callV (ci := 5) (b := x0) (As := [.int x1, .int x5]) (rest := []) (v := (some (.int v8))) E (c_X6_neighbours l D ad cy h x0 x1 x5 e9) (mcw E.1.2.2.2.2 uw_4_129 uw_4_126 uw_4_128 us_3_8 uw_1_6 rfl rfl hd_X6_neighbours ⟨by decide, by decide⟩) rfl k7 rfl rfl (Nat.le_of_ble_eq_true rfl) dX6_fewest_50 ⟨Nat.zero_le _, Nat.zero_le _⟩ ?_
            refine j_stk (st' := [.int v8]) rfl ?_
            refine j_aload_n E 0 rfl dX6_fewest_53 rfl ?_
            refine j_iload_n E 1 rfl dX6_fewest_54 rfl ?_
            refine j_iload E 4 rfl dX6_fewest_55 ?_
            obtain ⟨k10, hf⟩ := ck_spec hf
            obtain ⟨v11, e12, hf⟩ := bs hf
            refine j_callV (ci := 5) (b := x0) (As := [.int x1, .int x4]) (rest := [.int v8]) (v := (some (.int v11))) E (c_X6_neighbours l D ad cy h x0 x1 x4 e12) (mcw E.1.2.2.2.2 uw_4_129 uw_4_126 uw_4_128 us_3_8 uw_1_6 rfl rfl hd_X6_neighbours ⟨by decide, by decide⟩) rfl k10 rfl rfl (Nat.le_of_ble_eq_true rfl) dX6_fewest_57 ⟨Nat.zero_le _, Nat.zero_le _⟩ ?_
            refine j_stk (st' := [.int v11, .int v8]) rfl ?_
            refine j_icmp_ge (tgt := 67) E dX6_fewest_60 (by decide) (fun z13 => ?_) (fun z13 => ?_)
            · have hf := ifp hf z13
              refine j_iinc (v := (x5 + 1)) (k0 := 5) (lv' := [(5, .int (x5 + 1)), (0, .ref (ad x0)), (1, .int x1), (2, .int x2), (3, .int x3), (4, .int x4)]) E dX6_fewest_67 rfl (congrArg (fun z => x5 + z) (by decide)) (by decide) rfl ?_
              refine j_goto (tgt := 6) E dX6_fewest_70 (by decide) ?_
              refine j_perm (lv' := [(0, .ref (ad x0)), (1, .int x1), (2, .int x2), (3, .int x3), (4, .int x4), (5, .int (x5 + 1))]) [1, 2, 3, 4, 5, 0] rfl ?_
              exact ih k x4 (x5 + 1) hk hf
            · have hf := ifn hf z13
              refine j_iload E 5 rfl dX6_fewest_63 ?_
              refine j_istore (lv' := [(4, .int x5), (0, .ref (ad x0)), (1, .int x1), (2, .int x2), (3, .int x3), (5, .int x5)]) E dX6_fewest_65 (by decide) rfl ?_
              refine j_iinc (v := (x5 + 1)) (k0 := 5) (lv' := [(5, .int (x5 + 1)), (4, .int x5), (0, .ref (ad x0)), (1, .int x1), (2, .int x2), (3, .int x3)]) E dX6_fewest_67 rfl (congrArg (fun z => x5 + z) (by decide)) (by decide) rfl ?_
              refine j_goto (tgt := 6) E dX6_fewest_70 (by decide) ?_
              refine j_perm (lv' := [(0, .ref (ad x0)), (1, .int x1), (2, .int x2), (3, .int x3), (4, .int x5), (5, .int (x5 + 1))]) [2, 3, 4, 5, 1, 0] rfl ?_
              exact ih k x5 (x5 + 1) hk hf
        · have hf := ifn hf z5
          refine j_aload_n E 0 rfl dX6_fewest_30 rfl ?_
          refine j_iload_n E 1 rfl dX6_fewest_31 rfl ?_
          refine j_iload_n E 3 rfl dX6_fewest_32 rfl ?_
          refine j_iload E 5 rfl dX6_fewest_33 ?_
          obtain ⟨k14, hf⟩ := ck_spec hf
          obtain ⟨v15, e16, hf⟩ := bs hf
          refine j_callV (ci := 5) (b := x0) (As := [.int x1, .int x3, .int x5]) (rest := []) (v := (some (.int v15))) E (c_X6_areJoined l D ad cy h x0 x1 x3 x5 e16) (mcw E.1.2.2.2.2 uw_4_125 uw_4_122 uw_4_124 us_3_7 uw_1_6 rfl rfl hd_X6_areJoined ⟨by decide, by decide⟩) rfl k14 rfl rfl (Nat.le_of_ble_eq_true rfl) dX6_fewest_35 ⟨Nat.zero_le _, Nat.zero_le _⟩ ?_
          refine j_stk (st' := [.int v15]) rfl ?_
          refine j_if_eq (tgt := 67) E dX6_fewest_38 (by decide) (fun z17 => ?_) (fun z17 => ?_)
          · have hf := ifp hf z17
            refine j_iinc (v := (x5 + 1)) (k0 := 5) (lv' := [(5, .int (x5 + 1)), (0, .ref (ad x0)), (1, .int x1), (2, .int x2), (3, .int x3), (4, .int x4)]) E dX6_fewest_67 rfl (congrArg (fun z => x5 + z) (by decide)) (by decide) rfl ?_
            refine j_goto (tgt := 6) E dX6_fewest_70 (by decide) ?_
            refine j_perm (lv' := [(0, .ref (ad x0)), (1, .int x1), (2, .int x2), (3, .int x3), (4, .int x4), (5, .int (x5 + 1))]) [1, 2, 3, 4, 5, 0] rfl ?_
            exact ih k x4 (x5 + 1) hk hf
          · have hf := ifn hf z17
            refine j_iload E 4 rfl dX6_fewest_41 ?_
            refine j_if_lt (tgt := 63) E dX6_fewest_43 (by decide) (fun z18 => ?_) (fun z18 => ?_)
            · have hf := ifp hf z18
              refine j_iload E 5 rfl dX6_fewest_63 ?_
              refine j_istore (lv' := [(4, .int x5), (0, .ref (ad x0)), (1, .int x1), (2, .int x2), (3, .int x3), (5, .int x5)]) E dX6_fewest_65 (by decide) rfl ?_
              refine j_iinc (v := (x5 + 1)) (k0 := 5) (lv' := [(5, .int (x5 + 1)), (4, .int x5), (0, .ref (ad x0)), (1, .int x1), (2, .int x2), (3, .int x3)]) E dX6_fewest_67 rfl (congrArg (fun z => x5 + z) (by decide)) (by decide) rfl ?_
              refine j_goto (tgt := 6) E dX6_fewest_70 (by decide) ?_
              refine j_perm (lv' := [(0, .ref (ad x0)), (1, .int x1), (2, .int x2), (3, .int x3), (4, .int x5), (5, .int (x5 + 1))]) [2, 3, 4, 5, 1, 0] rfl ?_
              exact ih k x5 (x5 + 1) hk hf
            · have hf := ifn hf z18
              refine j_aload_n E 0 rfl dX6_fewest_46 rfl ?_
              refine j_iload_n E 1 rfl dX6_fewest_47 rfl ?_
              refine j_iload E 5 rfl dX6_fewest_48 ?_
              obtain ⟨k19, hf⟩ := ck_spec hf
              obtain ⟨v20, e21, hf⟩ := bs hf
              refine j_callV (ci := 5) (b := x0) (As := [.int x1, .int x5]) (rest := []) (v := (some (.int v20))) E (c_X6_neighbours l D ad cy h x0 x1 x5 e21) (mcw E.1.2.2.2.2 uw_4_129 uw_4_126 uw_4_128 us_3_8 uw_1_6 rfl rfl hd_X6_neighbours ⟨by decide, by decide⟩) rfl k19 rfl rfl (Nat.le_of_ble_eq_true rfl) dX6_fewest_50 ⟨Nat.zero_le _, Nat.zero_le _⟩ ?_
              refine j_stk (st' := [.int v20]) rfl ?_
              refine j_aload_n E 0 rfl dX6_fewest_53 rfl ?_
              refine j_iload_n E 1 rfl dX6_fewest_54 rfl ?_
              refine j_iload E 4 rfl dX6_fewest_55 ?_
              obtain ⟨k22, hf⟩ := ck_spec hf
              obtain ⟨v23, e24, hf⟩ := bs hf
              refine j_callV (ci := 5) (b := x0) (As := [.int x1, .int x4]) (rest := [.int v20]) (v := (some (.int v23))) E (c_X6_neighbours l D ad cy h x0 x1 x4 e24) (mcw E.1.2.2.2.2 uw_4_129 uw_4_126 uw_4_128 us_3_8 uw_1_6 rfl rfl hd_X6_neighbours ⟨by decide, by decide⟩) rfl k22 rfl rfl (Nat.le_of_ble_eq_true rfl) dX6_fewest_57 ⟨Nat.zero_le _, Nat.zero_le _⟩ ?_
              refine j_stk (st' := [.int v23, .int v20]) rfl ?_
              refine j_icmp_ge (tgt := 67) E dX6_fewest_60 (by decide) (fun z25 => ?_) (fun z25 => ?_)
              · have hf := ifp hf z25
                refine j_iinc (v := (x5 + 1)) (k0 := 5) (lv' := [(5, .int (x5 + 1)), (0, .ref (ad x0)), (1, .int x1), (2, .int x2), (3, .int x3), (4, .int x4)]) E dX6_fewest_67 rfl (congrArg (fun z => x5 + z) (by decide)) (by decide) rfl ?_
                refine j_goto (tgt := 6) E dX6_fewest_70 (by decide) ?_
                refine j_perm (lv' := [(0, .ref (ad x0)), (1, .int x1), (2, .int x2), (3, .int x3), (4, .int x4), (5, .int (x5 + 1))]) [1, 2, 3, 4, 5, 0] rfl ?_
                exact ih k x4 (x5 + 1) hk hf
              · have hf := ifn hf z25
                refine j_iload E 5 rfl dX6_fewest_63 ?_
                refine j_istore (lv' := [(4, .int x5), (0, .ref (ad x0)), (1, .int x1), (2, .int x2), (3, .int x3), (5, .int x5)]) E dX6_fewest_65 (by decide) rfl ?_
                refine j_iinc (v := (x5 + 1)) (k0 := 5) (lv' := [(5, .int (x5 + 1)), (4, .int x5), (0, .ref (ad x0)), (1, .int x1), (2, .int x2), (3, .int x3)]) E dX6_fewest_67 rfl (congrArg (fun z => x5 + z) (by decide)) (by decide) rfl ?_
                refine j_goto (tgt := 6) E dX6_fewest_70 (by decide) ?_
                refine j_perm (lv' := [(0, .ref (ad x0)), (1, .int x1), (2, .int x2), (3, .int x3), (4, .int x5), (5, .int (x5 + 1))]) [2, 3, 4, 5, 1, 0] rfl ?_
                exact ih k x5 (x5 + 1) hk hf
set_option maxRecDepth 100000 in
set_option maxHeartbeats 4000000 in
theorem c_X6_fewest (l : Launch) (D : va_G) (ad : Nat → Nat) (cy : Nat → ClassId) (h : HP) (x0 : Nat) (x1 : Int32) (x2 : Int32) (x3 : Int32) {r : Int32} (hf : f_X6_fewest h x0 x1 x2 x3 = some r) : Met l yX6_fewest (wsM yX6_fewest cX6_fewest 6 (some .int)) rmX6_fewest (va_Pc [.ref (ad x0), .int x1, .int x2, .int x3] (PW D ad cy h)) (QV D ad cy (some (.int r)) h) 0 0 (Aw ad) := by
  refine met_of (own := RX6) (lv := [(0, .ref (ad x0)), (1, .int x1), (2, .int x2), (3, .int x3)]) (by decide) rfl (Nat.le_of_ble_eq_true rfl) rfl (fun p e s m args below meth c E hr hlk => ?_)
  unfold f_X6_fewest at hf
  refine j_iconst (v := (-1)) E dX6_fewest_0 (by decide) ?_
  refine j_istore (lv' := [(4, .int (-1)), (0, .ref (ad x0)), (1, .int x1), (2, .int x2), (3, .int x3)]) E dX6_fewest_1 (by decide) rfl ?_
  refine j_iconst (v := 0) E dX6_fewest_3 (by decide) ?_
  refine j_istore (lv' := [(5, .int 0), (4, .int (-1)), (0, .ref (ad x0)), (1, .int x1), (2, .int x2), (3, .int x3)]) E dX6_fewest_4 (by decide) rfl ?_
  refine j_perm (lv' := [(0, .ref (ad x0)), (1, .int x1), (2, .int x2), (3, .int x3), (4, .int (-1)), (5, .int 0)]) [2, 3, 4, 5, 1, 0] rfl ?_
  refine w_X6_fewest_6 E hr hlk h x0 x1 x2 x3 FU _ (-1) 0 (fun x26 hf => ?_) hf
  refine j_iload E 0 rfl dX6_fewest_73 ?_
  cases hf
  exact j_iret E hr hlk dX6_fewest_75
