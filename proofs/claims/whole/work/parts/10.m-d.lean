noncomputable def f_X3_item (h : HP) (x0 : Nat) (x1 : Int32) : Option (Int32) :=
  (f_X5_isLine x1).bind fun v1 =>
  if v1 = 0 then (
    some 0
  ) else (
    (gR 2 h x0 1).bind fun v4 =>
    (aI h v4 x1).bind fun v5 =>
    some v5
  )
abbrev rmX3_item : Room := { frames := 1, cells := 0, slots := 0, locals := 20 }
theorem hd_X3_item : yX3_item.cls = RX3 ∧ yX3_item.cls ≠ "java/lang/invoke/MethodHandle" ∧ yX3_item.cls ≠ "java/lang/invoke/VarHandle" ∧ (parseMethodDescriptor yX3_item.desc).map (fun d => d.parameters.length) = some 1 := by decide +kernel
set_option maxRecDepth 100000 in
set_option maxHeartbeats 4000000 in
theorem c_X3_item (l : Launch) (D : va_G) (ad : Nat → Nat) (cy : Nat → ClassId) (h : HP) (x0 : Nat) (x1 : Int32) {r : Int32} (hf : f_X3_item h x0 x1 = some r) : Met l yX3_item (wsM yX3_item cX3_item 2 (some .int)) rmX3_item (va_Pc [.ref (ad x0), .int x1] (PW D ad cy h)) (QV D ad cy (some (.int r)) h) 0 0 (Aw ad) := by
  refine met_of (own := RX3) (lv := [(0, .ref (ad x0)), (1, .int x1)]) (by decide) rfl (Nat.le_of_ble_eq_true rfl) rfl (fun p e s m args below meth c E hr hlk => ?_)
  unfold f_X3_item at hf
  refine j_iload_n E 1 rfl dX3_item_0 rfl ?_
  obtain ⟨v1, e2, hf⟩ := bs hf
  refine j_callSN (host := RX5) (As := [.int x1]) (rest := []) (v := (some (.int v1))) E (c_X5_isLine l D ad cy h x1 e2) (mcn E.1.2.2.2.2 E.2.2 4 rfl uw_1_164 uw_1_163 uw_1_1 rfl rfl hd_X5_isLine ⟨by decide, by decide⟩) rfl rfl (Nat.le_of_ble_eq_true rfl) dX3_item_1 ⟨Nat.zero_le _, Nat.zero_le _⟩ ?_
  refine j_stk (st' := [.int v1]) rfl ?_
  refine j_if_eq (tgt := 16) E dX3_item_4 (by decide) (fun z3 => ?_) (fun z3 => ?_)
  · have hf := ifp hf z3
    refine j_iconst (v := 0) E dX3_item_16 (by decide) ?_
    cases hf
    exact j_iret E hr hlk dX3_item_17
  · have hf := ifn hf z3
    refine j_aload_n E 0 rfl dX3_item_7 rfl ?_
    obtain ⟨v4, ev4, hf⟩ := bs hf
    refine j_getR (ci := 2) (k0 := 1) (T := TX3) (N := 2) E (mI inUX3) rfl (by decide) (mU uw_1_101) ev4 dX3_item_8 ?_
    refine j_iload_n E 1 rfl dX3_item_11 rfl ?_
    obtain ⟨v5, ev5, hf⟩ := bs hf
    refine j_aI E ev5 dX3_item_12 ?_
    refine j_goto (tgt := 17) E dX3_item_13 (by decide) ?_
    cases hf
    exact j_iret E hr hlk dX3_item_17
noncomputable def L_X1_narrowInto_11 (x0 : Nat) (x1 : Nat) : Nat → (HP → Option (HP)) → HP → Int32 → Int32 → Option (HP)
  | 0, _, _, _, _ => none
  | n + 1, k, h, x2, x3 =>
      if 16 ≤ x3 then (
        k h
      ) else (
        (gI 0 h x0 0).bind fun v8 =>
        if v8 ≤ x3 then (
          k h
        ) else (
          (gI 2 h x1 0).bind fun v10 =>
          if x3 = v10 then (
            ck 0 h x0 <|
            (f_X1_moveFewest h x0 x2 x2 x1).bind fun (h13, v14) =>
            ck 2 h13 x1 <|
            (f_X3_item h13 x1 x3).bind fun v17 =>
            ck 0 h13 x0 <|
            (f_X1_neighboursOf h13 x0 v17).bind fun v20 =>
            ck 0 h13 x0 <|
            (f_X1_moveAll h13 x0 (v20 &&& v14) v14 x1).bind fun (h23, v24) =>
            L_X1_narrowInto_11 x0 x1 n k h23 v24 (x3 + 1)
          ) else (
            ck 2 h x1 <|
            (f_X3_item h x1 x3).bind fun v27 =>
            ck 0 h x0 <|
            (f_X1_neighboursOf h x0 v27).bind fun v30 =>
            ck 0 h x0 <|
            (f_X1_moveAll h x0 (v30 &&& x2) x2 x1).bind fun (h33, v34) =>
            L_X1_narrowInto_11 x0 x1 n k h33 v34 (x3 + 1)
          )
        )
      )
noncomputable def f_X1_narrowInto (h : HP) (x0 : Nat) (x1 : Nat) : Option (HP) :=
  ck 2 h x1 <|
  (f_X3_clear h x1).bind fun h2 =>
  ck 0 h2 x0 <|
  (f_X1_allNodes h2 x0).bind fun v5 =>
  L_X1_narrowInto_11 x0 x1 FU (fun h36 =>
    some h36) h2 v5 0
abbrev rmX1_narrowInto : Room := { frames := 4, cells := 0, slots := 0, locals := 93 }
theorem hd_X1_narrowInto : yX1_narrowInto.cls = RX1 ∧ yX1_narrowInto.cls ≠ "java/lang/invoke/MethodHandle" ∧ yX1_narrowInto.cls ≠ "java/lang/invoke/VarHandle" ∧ (parseMethodDescriptor yX1_narrowInto.desc).map (fun d => d.parameters.length) = some 1 := by decide +kernel
set_option maxRecDepth 100000 in
set_option maxHeartbeats 4000000 in
theorem w_X1_narrowInto_11 {p : Program} {l : Launch} {e : Env} {s : State} {m : MethodId} {args : Array Value} {below : List Frame} {meth : Method} {c : Code} {D : va_G} {ad : Nat → Nat} {cy : Nat → ClassId} (E : EE p s m args c cX1_narrowInto 5 (wsM yX1_narrowInto cX1_narrowInto 5 none) RX1 D cy) (hr : meth.sig.returnType = none) (hlk : meth.locks = false) {h' : HP} (x0 : Nat) (x1 : Nat) : ∀ (n : Nat) (k : (HP → Option (HP))) (h : HP) (x2 : Int32) (x3 : Int32), (∀ (h : HP), k h = some h' → JJ p l e rmX1_narrowInto s m args below meth c 0 0 (MQ below (QV D ad cy none h') args s 0 0 (Aw ad)) D ad cy (Aw ad) 5 h [] 69 []) → L_X1_narrowInto_11 x0 x1 n k h x2 x3 = some h' → JJ p l e rmX1_narrowInto s m args below meth c 0 0 (MQ below (QV D ad cy none h') args s 0 0 (Aw ad)) D ad cy (Aw ad) 5 h [(0, .ref (ad x0)), (1, .ref (ad x1)), (2, .int x2), (3, .int x3)] 11 [] := by
  intro n
  induction n with
  | zero => intro k h x2 x3 hk hf; cases hf
  | succ n ih =>
    intro k h x2 x3 hk hf
    unfold L_X1_narrowInto_11 at hf
    refine j_iload_n E 3 rfl dX1_narrowInto_11 rfl ?_
    refine j_bipush (v := 16) E dX1_narrowInto_12 (by decide) ?_
    refine j_icmp_ge (tgt := 69) E dX1_narrowInto_14 (by decide) (fun z7 => ?_) (fun z7 => ?_)
    · have hf := ifp hf z7
      refine j_perm (lv' := []) [] rfl ?_
      exact hk h hf
    · have hf := ifn hf z7
      refine j_iload_n E 3 rfl dX1_narrowInto_17 rfl ?_
      refine j_aload_n E 0 rfl dX1_narrowInto_18 rfl ?_
      obtain ⟨v8, ev8, hf⟩ := bs hf
      refine j_getI (ci := 0) (k0 := 0) (T := TX1) (N := 6) E (mI inUX1) rfl (by decide) (mU uw_1_49) ev8 dX1_narrowInto_19 ?_
      refine j_icmp_ge (tgt := 69) E dX1_narrowInto_22 (by decide) (fun z9 => ?_) (fun z9 => ?_)
      · have hf := ifp hf z9
        refine j_perm (lv' := []) [] rfl ?_
        exact hk h hf
      · have hf := ifn hf z9
        refine j_iload_n E 3 rfl dX1_narrowInto_25 rfl ?_
        refine j_aload_n E 1 rfl dX1_narrowInto_26 rfl ?_
        obtain ⟨v10, ev10, hf⟩ := bs hf
        refine j_getI (ci := 2) (k0 := 0) (T := TX3) (N := 2) E (mI inUX3) rfl (by decide) (mU uw_1_99) ev10 dX1_narrowInto_27 ?_
        refine j_icmp_ne (tgt := 41) E dX1_narrowInto_30 (by decide) (fun z11 => ?_) (fun z11 => ?_)
        · have hf := ifn hf z11
          refine j_aload_n E 0 rfl dX1_narrowInto_41 rfl ?_
          refine j_aload_n E 1 rfl dX1_narrowInto_42 rfl ?_
          refine j_iload_n E 3 rfl dX1_narrowInto_43 rfl ?_
          obtain ⟨k26, hf⟩ := ck_spec hf
          obtain ⟨v27, e28, hf⟩ := bs hf
          refine j_callV (ci := 2) (b := x1) (As := [.int x3]) (rest := [.ref (ad x0)]) (v := (some (.int v27))) E (c_X3_item l D ad cy h x1 x3 e28) (mcw E.1.2.2.2.2 uw_1_185 uw_3_72 uw_1_183 uw_1_184 uw_1_5 rfl rfl hd_X3_item ⟨by decide, by decide⟩) rfl k26 rfl rfl (Nat.le_of_ble_eq_true rfl) dX1_narrowInto_44 ⟨Nat.zero_le _, Nat.zero_le _⟩ ?_
          refine j_stk (st' := [.int v27, .ref (ad x0)]) rfl ?_
          obtain ⟨k29, hf⟩ := ck_spec hf
          obtain ⟨v30, e31, hf⟩ := bs hf
          refine j_callV (ci := 0) (b := x0) (As := [.int v27]) (rest := []) (v := (some (.int v30))) E (c_X1_neighboursOf l D ad cy h x0 v27 e31) (mcw E.1.2.2.2.2 uw_3_76 uw_3_73 uw_3_75 us_1_13 uw_1_3 rfl rfl hd_X1_neighboursOf ⟨by decide, by decide⟩) rfl k29 rfl rfl (Nat.le_of_ble_eq_true rfl) dX1_narrowInto_47 ⟨Nat.zero_le _, Nat.zero_le _⟩ ?_
          refine j_stk (st' := [.int v30]) rfl ?_
          refine j_iload_n E 2 rfl dX1_narrowInto_50 rfl ?_
          refine j_iand E dX1_narrowInto_51 ?_
          refine j_istore (lv' := [(4, .int (v30 &&& x2)), (0, .ref (ad x0)), (1, .ref (ad x1)), (2, .int x2), (3, .int x3)]) E dX1_narrowInto_52 (by decide) rfl ?_
          refine j_aload_n E 1 rfl dX1_narrowInto_54 rfl ?_
          refine j_iload E 0 rfl dX1_narrowInto_55 ?_
          refine j_iload_n E 3 rfl dX1_narrowInto_57 rfl ?_
          refine j_aload_n E 2 rfl dX1_narrowInto_58 rfl ?_
          obtain ⟨k32, hf⟩ := ck_spec hf
          obtain ⟨⟨h33, v34⟩, e35, hf⟩ := bs hf
          refine j_callV (ci := 0) (b := x0) (As := [.int (v30 &&& x2), .int x2, .ref (ad x1)]) (rest := []) (v := (some (.int v34))) E (c_X1_moveAll l D ad cy h x0 (v30 &&& x2) x2 x1 e35) (mcw E.1.2.2.2.2 uw_3_80 uw_3_77 uw_3_79 us_1_14 uw_1_3 rfl rfl hd_X1_moveAll ⟨by decide, by decide⟩) rfl k32 rfl rfl (Nat.le_of_ble_eq_true rfl) dX1_narrowInto_59 ⟨Nat.zero_le _, Nat.zero_le _⟩ ?_
          refine j_stk (st' := [.int v34]) rfl ?_
          refine j_istore_n (lv' := [(2, .int v34), (4, .int (v30 &&& x2)), (0, .ref (ad x0)), (1, .ref (ad x1)), (3, .int x3)]) E dX1_narrowInto_62 rfl (by decide) rfl ?_
          refine j_iinc (v := (x3 + 1)) (k0 := 4) (lv' := [(3, .int (x3 + 1)), (2, .int v34), (4, .int (v30 &&& x2)), (0, .ref (ad x0)), (1, .ref (ad x1))]) E dX1_narrowInto_63 rfl (congrArg (fun z => x3 + z) (by decide)) (by decide) rfl ?_
          refine j_goto (tgt := 11) E dX1_narrowInto_66 (by decide) ?_
          refine j_perm (lv' := [(0, .ref (ad x0)), (1, .ref (ad x1)), (2, .int v34), (3, .int (x3 + 1))]) [3, 4, 1, 0] rfl ?_
          exact ih k h33 v34 (x3 + 1) hk hf
        · have hf := ifp hf z11
          refine j_aload_n E 0 rfl dX1_narrowInto_33 rfl ?_
          refine j_iload_n E 2 rfl dX1_narrowInto_34 rfl ?_
          refine j_iload_n E 2 rfl dX1_narrowInto_35 rfl ?_
          refine j_aload_n E 1 rfl dX1_narrowInto_36 rfl ?_
          obtain ⟨k12, hf⟩ := ck_spec hf
          obtain ⟨⟨h13, v14⟩, e15, hf⟩ := bs hf
          refine j_callV (ci := 0) (b := x0) (As := [.int x2, .int x2, .ref (ad x1)]) (rest := []) (v := (some (.int v14))) E (c_X1_moveFewest l D ad cy h x0 x2 x2 x1 e15) (mcw E.1.2.2.2.2 uw_3_70 uw_3_67 uw_3_69 us_1_12 uw_1_3 rfl rfl hd_X1_moveFewest ⟨by decide, by decide⟩) rfl k12 rfl rfl (Nat.le_of_ble_eq_true rfl) dX1_narrowInto_37 ⟨Nat.zero_le _, Nat.zero_le _⟩ ?_
          refine j_stk (st' := [.int v14]) rfl ?_
          refine j_istore_n (lv' := [(2, .int v14), (0, .ref (ad x0)), (1, .ref (ad x1)), (3, .int x3)]) E dX1_narrowInto_40 rfl (by decide) rfl ?_
          refine j_aload_n E 1 rfl dX1_narrowInto_41 rfl ?_
          refine j_aload_n E 2 rfl dX1_narrowInto_42 rfl ?_
          refine j_iload_n E 3 rfl dX1_narrowInto_43 rfl ?_
          obtain ⟨k16, hf⟩ := ck_spec hf
          obtain ⟨v17, e18, hf⟩ := bs hf
          refine j_callV (ci := 2) (b := x1) (As := [.int x3]) (rest := [.ref (ad x0)]) (v := (some (.int v17))) E (c_X3_item l D ad cy h13 x1 x3 e18) (mcw E.1.2.2.2.2 uw_1_185 uw_3_72 uw_1_183 uw_1_184 uw_1_5 rfl rfl hd_X3_item ⟨by decide, by decide⟩) rfl k16 rfl rfl (Nat.le_of_ble_eq_true rfl) dX1_narrowInto_44 ⟨Nat.zero_le _, Nat.zero_le _⟩ ?_
          refine j_stk (st' := [.int v17, .ref (ad x0)]) rfl ?_
          obtain ⟨k19, hf⟩ := ck_spec hf
          obtain ⟨v20, e21, hf⟩ := bs hf
          refine j_callV (ci := 0) (b := x0) (As := [.int v17]) (rest := []) (v := (some (.int v20))) E (c_X1_neighboursOf l D ad cy h13 x0 v17 e21) (mcw E.1.2.2.2.2 uw_3_76 uw_3_73 uw_3_75 us_1_13 uw_1_3 rfl rfl hd_X1_neighboursOf ⟨by decide, by decide⟩) rfl k19 rfl rfl (Nat.le_of_ble_eq_true rfl) dX1_narrowInto_47 ⟨Nat.zero_le _, Nat.zero_le _⟩ ?_
          refine j_stk (st' := [.int v20]) rfl ?_
          refine j_iload_n E 0 rfl dX1_narrowInto_50 rfl ?_
          refine j_iand E dX1_narrowInto_51 ?_
          refine j_istore (lv' := [(4, .int (v20 &&& v14)), (2, .int v14), (0, .ref (ad x0)), (1, .ref (ad x1)), (3, .int x3)]) E dX1_narrowInto_52 (by decide) rfl ?_
          refine j_aload_n E 2 rfl dX1_narrowInto_54 rfl ?_
          refine j_iload E 0 rfl dX1_narrowInto_55 ?_
          refine j_iload_n E 1 rfl dX1_narrowInto_57 rfl ?_
          refine j_aload_n E 3 rfl dX1_narrowInto_58 rfl ?_
          obtain ⟨k22, hf⟩ := ck_spec hf
          obtain ⟨⟨h23, v24⟩, e25, hf⟩ := bs hf
          refine j_callV (ci := 0) (b := x0) (As := [.int (v20 &&& v14), .int v14, .ref (ad x1)]) (rest := []) (v := (some (.int v24))) E (c_X1_moveAll l D ad cy h13 x0 (v20 &&& v14) v14 x1 e25) (mcw E.1.2.2.2.2 uw_3_80 uw_3_77 uw_3_79 us_1_14 uw_1_3 rfl rfl hd_X1_moveAll ⟨by decide, by decide⟩) rfl k22 rfl rfl (Nat.le_of_ble_eq_true rfl) dX1_narrowInto_59 ⟨Nat.zero_le _, Nat.zero_le _⟩ ?_
          refine j_stk (st' := [.int v24]) rfl ?_
          refine j_istore_n (lv' := [(2, .int v24), (4, .int (v20 &&& v14)), (0, .ref (ad x0)), (1, .ref (ad x1)), (3, .int x3)]) E dX1_narrowInto_62 rfl (by decide) rfl ?_
          refine j_iinc (v := (x3 + 1)) (k0 := 4) (lv' := [(3, .int (x3 + 1)), (2, .int v24), (4, .int (v20 &&& v14)), (0, .ref (ad x0)), (1, .ref (ad x1))]) E dX1_narrowInto_63 rfl (congrArg (fun z => x3 + z) (by decide)) (by decide) rfl ?_
          refine j_goto (tgt := 11) E dX1_narrowInto_66 (by decide) ?_
          refine j_perm (lv' := [(0, .ref (ad x0)), (1, .ref (ad x1)), (2, .int v24), (3, .int (x3 + 1))]) [3, 4, 1, 0] rfl ?_
          exact ih k h23 v24 (x3 + 1) hk hf
set_option maxRecDepth 100000 in
set_option maxHeartbeats 4000000 in
theorem c_X1_narrowInto (l : Launch) (D : va_G) (ad : Nat → Nat) (cy : Nat → ClassId) (h : HP) (x0 : Nat) (x1 : Nat) {h' : HP} (hf : f_X1_narrowInto h x0 x1 = some h') : Met l yX1_narrowInto (wsM yX1_narrowInto cX1_narrowInto 5 none) rmX1_narrowInto (va_Pc [.ref (ad x0), .ref (ad x1)] (PW D ad cy h)) (QV D ad cy none h') 0 0 (Aw ad) := by
  refine met_of (own := RX1) (lv := [(0, .ref (ad x0)), (1, .ref (ad x1))]) (by decide) rfl (Nat.le_of_ble_eq_true rfl) rfl (fun p e s m args below meth c E hr hlk => ?_)
  unfold f_X1_narrowInto at hf
  refine j_aload_n E 1 rfl dX1_narrowInto_0 rfl ?_
  obtain ⟨k1, hf⟩ := ck_spec hf
  obtain ⟨h2, e3, hf⟩ := bs hf
  refine j_callV (ci := 2) (b := x1) (As := []) (rest := []) (v := none) E (c_X3_clear l D ad cy h x1 e3) (mcw E.1.2.2.2.2 uw_2_123 uw_3_44 uw_2_121 uw_2_122 uw_1_5 rfl rfl hd_X3_clear ⟨by decide, by decide⟩) rfl k1 rfl rfl (Nat.le_of_ble_eq_true rfl) dX1_narrowInto_1 ⟨Nat.zero_le _, Nat.zero_le _⟩ ?_
  refine j_stk (st' := []) rfl ?_
  refine j_aload_n E 0 rfl dX1_narrowInto_4 rfl ?_
  obtain ⟨k4, hf⟩ := ck_spec hf
  obtain ⟨v5, e6, hf⟩ := bs hf
  refine j_callV (ci := 0) (b := x0) (As := []) (rest := []) (v := (some (.int v5))) E (c_X1_allNodes l D ad cy h2 x0 e6) (mcw E.1.2.2.2.2 uw_3_48 uw_3_45 uw_3_47 us_1_9 uw_1_3 rfl rfl hd_X1_allNodes ⟨by decide, by decide⟩) rfl k4 rfl rfl (Nat.le_of_ble_eq_true rfl) dX1_narrowInto_5 ⟨Nat.zero_le _, Nat.zero_le _⟩ ?_
  refine j_stk (st' := [.int v5]) rfl ?_
  refine j_istore_n (lv' := [(2, .int v5), (0, .ref (ad x0)), (1, .ref (ad x1))]) E dX1_narrowInto_8 rfl (by decide) rfl ?_
  refine j_iconst (v := 0) E dX1_narrowInto_9 (by decide) ?_
  refine j_istore_n (lv' := [(3, .int 0), (2, .int v5), (0, .ref (ad x0)), (1, .ref (ad x1))]) E dX1_narrowInto_10 rfl (by decide) rfl ?_
  refine j_perm (lv' := [(0, .ref (ad x0)), (1, .ref (ad x1)), (2, .int v5), (3, .int 0)]) [2, 3, 1, 0] rfl ?_
  refine w_X1_narrowInto_11 E hr hlk x0 x1 FU _ h2 v5 0 (fun h36 hf => ?_) hf
  cases hf
  exact j_vret E hr hlk dX1_narrowInto_69
noncomputable def L_X1_widthOf_21 (h : HP) (x0 : Nat) (x1 : Nat) (x3 : Int32) : Nat → (Int32 → Option (Int32)) → Int32 → Int32 → Option (Int32)
  | 0, _, _, _ => none
  | n + 1, k, x2, x4 =>
      if x3 ≤ x4 then (
        k x2
      ) else (
        ck 2 h x1 <|
        (f_X3_item h x1 x3).bind fun v6 =>
        ck 0 h x0 <|
        (f_X1_neighboursOf h x0 v6).bind fun v9 =>
        ck 2 h x1 <|
        (f_X3_item h x1 x4).bind fun v12 =>
        (f_X5_hasBit v9 v12).bind fun v14 =>
        if v14 = 0 then (
          L_X1_widthOf_21 h x0 x1 x3 n k x2 (x4 + 1)
        ) else (
          L_X1_widthOf_21 h x0 x1 x3 n k (if x2 < (x3 - x4) then (x3 - x4) else x2) (x4 + 1)
        )
      )
noncomputable def L_X1_widthOf_4 (h : HP) (x0 : Nat) (x1 : Nat) : Nat → (Int32 → Option (Int32)) → Int32 → Int32 → Option (Int32)
  | 0, _, _, _ => none
  | n + 1, k, x2, x3 =>
      if 16 ≤ x3 then (
        k x2
      ) else (
        (gI 2 h x1 0).bind fun v2 =>
        if v2 ≤ x3 then (
          k x2
        ) else (
          L_X1_widthOf_21 h x0 x1 x3 FU (fun x17 =>
            L_X1_widthOf_4 h x0 x1 n k x17 (x3 + 1)) x2 0
        )
      )
noncomputable def f_X1_widthOf (h : HP) (x0 : Nat) (x1 : Nat) : Option (Int32) :=
  L_X1_widthOf_4 h x0 x1 FU (fun x18 =>
    some x18) 0 0
abbrev rmX1_widthOf : Room := { frames := 2, cells := 0, slots := 0, locals := 60 }
theorem hd_X1_widthOf : yX1_widthOf.cls = RX1 ∧ yX1_widthOf.cls ≠ "java/lang/invoke/MethodHandle" ∧ yX1_widthOf.cls ≠ "java/lang/invoke/VarHandle" ∧ (parseMethodDescriptor yX1_widthOf.desc).map (fun d => d.parameters.length) = some 1 := by decide +kernel
set_option maxRecDepth 100000 in
set_option maxHeartbeats 4000000 in
theorem w_X1_widthOf_21 {p : Program} {l : Launch} {e : Env} {s : State} {m : MethodId} {args : Array Value} {below : List Frame} {meth : Method} {c : Code} {D : va_G} {ad : Nat → Nat} {cy : Nat → ClassId} (E : EE p s m args c cX1_widthOf 5 (wsM yX1_widthOf cX1_widthOf 5 (some .int)) RX1 D cy) (hr : meth.sig.returnType = (some .int)) (hlk : meth.locks = false) {r : Int32} (h : HP) (x0 : Nat) (x1 : Nat) (x3 : Int32) : ∀ (n : Nat) (k : (Int32 → Option (Int32))) (x2 : Int32) (x4 : Int32), (∀ (x2 : Int32), k x2 = some r → JJ p l e rmX1_widthOf s m args below meth c 0 0 (MQ below (QV D ad cy (some (.int r)) h) args s 0 0 (Aw ad)) D ad cy (Aw ad) 5 h [(0, .ref (ad x0)), (1, .ref (ad x1)), (2, .int x2), (3, .int x3)] 63 []) → L_X1_widthOf_21 h x0 x1 x3 n k x2 x4 = some r → JJ p l e rmX1_widthOf s m args below meth c 0 0 (MQ below (QV D ad cy (some (.int r)) h) args s 0 0 (Aw ad)) D ad cy (Aw ad) 5 h [(0, .ref (ad x0)), (1, .ref (ad x1)), (2, .int x2), (3, .int x3), (4, .int x4)] 21 [] := by
  intro n
  induction n with
  | zero => intro k x2 x4 hk hf; cases hf
  | succ n ih =>
    intro k x2 x4 hk hf
    unfold L_X1_widthOf_21 at hf
    refine j_iload E 4 rfl dX1_widthOf_21 ?_
    refine j_iload_n E 3 rfl dX1_widthOf_23 rfl ?_
    refine j_icmp_ge (tgt := 63) E dX1_widthOf_24 (by decide) (fun z4 => ?_) (fun z4 => ?_)
    · have hf := ifp hf z4
      refine j_perm (lv' := [(0, .ref (ad x0)), (1, .ref (ad x1)), (2, .int x2), (3, .int x3)]) [0, 1, 2, 3] rfl ?_
      exact hk x2 hf
    · have hf := ifn hf z4
      refine j_aload_n E 0 rfl dX1_widthOf_27 rfl ?_
      refine j_aload_n E 1 rfl dX1_widthOf_28 rfl ?_
      refine j_iload_n E 3 rfl dX1_widthOf_29 rfl ?_
      obtain ⟨k5, hf⟩ := ck_spec hf
      obtain ⟨v6, e7, hf⟩ := bs hf
      refine j_callV (ci := 2) (b := x1) (As := [.int x3]) (rest := [.ref (ad x0)]) (v := (some (.int v6))) E (c_X3_item l D ad cy h x1 x3 e7) (mcw E.1.2.2.2.2 uw_1_185 uw_3_72 uw_1_183 uw_1_184 uw_1_5 rfl rfl hd_X3_item ⟨by decide, by decide⟩) rfl k5 rfl rfl (Nat.le_of_ble_eq_true rfl) dX1_widthOf_30 ⟨Nat.zero_le _, Nat.zero_le _⟩ ?_
      refine j_stk (st' := [.int v6, .ref (ad x0)]) rfl ?_
      obtain ⟨k8, hf⟩ := ck_spec hf
      obtain ⟨v9, e10, hf⟩ := bs hf
      refine j_callV (ci := 0) (b := x0) (As := [.int v6]) (rest := []) (v := (some (.int v9))) E (c_X1_neighboursOf l D ad cy h x0 v6 e10) (mcw E.1.2.2.2.2 uw_3_76 uw_3_73 uw_3_75 us_1_13 uw_1_3 rfl rfl hd_X1_neighboursOf ⟨by decide, by decide⟩) rfl k8 rfl rfl (Nat.le_of_ble_eq_true rfl) dX1_widthOf_33 ⟨Nat.zero_le _, Nat.zero_le _⟩ ?_
      refine j_stk (st' := [.int v9]) rfl ?_
      refine j_aload_n E 1 rfl dX1_widthOf_36 rfl ?_
      refine j_iload E 4 rfl dX1_widthOf_37 ?_
      obtain ⟨k11, hf⟩ := ck_spec hf
      obtain ⟨v12, e13, hf⟩ := bs hf
      refine j_callV (ci := 2) (b := x1) (As := [.int x4]) (rest := [.int v9]) (v := (some (.int v12))) E (c_X3_item l D ad cy h x1 x4 e13) (mcw E.1.2.2.2.2 uw_1_185 uw_3_72 uw_1_183 uw_1_184 uw_1_5 rfl rfl hd_X3_item ⟨by decide, by decide⟩) rfl k11 rfl rfl (Nat.le_of_ble_eq_true rfl) dX1_widthOf_39 ⟨Nat.zero_le _, Nat.zero_le _⟩ ?_
      refine j_stk (st' := [.int v12, .int v9]) rfl ?_
      obtain ⟨v14, e15, hf⟩ := bs hf
      refine j_callSN (host := RX5) (As := [.int v9, .int v12]) (rest := []) (v := (some (.int v14))) E (c_X5_hasBit l D ad cy h v9 v12 e15) (mcn E.1.2.2.2.2 E.2.2 8 rfl uw_2_8 uw_2_7 uw_1_1 rfl rfl hd_X5_hasBit ⟨by decide, by decide⟩) rfl rfl (Nat.le_of_ble_eq_true rfl) dX1_widthOf_42 ⟨Nat.zero_le _, Nat.zero_le _⟩ ?_
      refine j_stk (st' := [.int v14]) rfl ?_
      refine j_if_eq (tgt := 57) E dX1_widthOf_45 (by decide) (fun z16 => ?_) (fun z16 => ?_)
      · have hf := ifp hf z16
        refine j_iinc (v := (x4 + 1)) (k0 := 4) (lv' := [(4, .int (x4 + 1)), (0, .ref (ad x0)), (1, .ref (ad x1)), (2, .int x2), (3, .int x3)]) E dX1_widthOf_57 rfl (congrArg (fun z => x4 + z) (by decide)) (by decide) rfl ?_
        refine j_goto (tgt := 21) E dX1_widthOf_60 (by decide) ?_
        refine j_perm (lv' := [(0, .ref (ad x0)), (1, .ref (ad x1)), (2, .int x2), (3, .int x3), (4, .int (x4 + 1))]) [1, 2, 3, 4, 0] rfl ?_
        exact ih k x2 (x4 + 1) hk hf
      · have hf := ifn hf z16
        refine j_iload_n E 2 rfl dX1_widthOf_48 rfl ?_
        refine j_iload_n E 3 rfl dX1_widthOf_49 rfl ?_
        refine j_iload E 4 rfl dX1_widthOf_50 ?_
        refine j_isub E dX1_widthOf_52 ?_
        refine j_mmax E (mU uw_3_85) (mU uw_3_86) (mU uw_1_10) (mU uw_3_87) (by decide) (Nat.le_of_ble_eq_true rfl) ⟨Nat.zero_le _, Nat.zero_le _⟩ dX1_widthOf_53 ?_
        refine j_istore_n (lv' := [(2, .int (if x2 < (x3 - x4) then (x3 - x4) else x2)), (0, .ref (ad x0)), (1, .ref (ad x1)), (3, .int x3), (4, .int x4)]) E dX1_widthOf_56 rfl (by decide) rfl ?_
        refine j_iinc (v := (x4 + 1)) (k0 := 4) (lv' := [(4, .int (x4 + 1)), (2, .int (if x2 < (x3 - x4) then (x3 - x4) else x2)), (0, .ref (ad x0)), (1, .ref (ad x1)), (3, .int x3)]) E dX1_widthOf_57 rfl (congrArg (fun z => x4 + z) (by decide)) (by decide) rfl ?_
        refine j_goto (tgt := 21) E dX1_widthOf_60 (by decide) ?_
        refine j_perm (lv' := [(0, .ref (ad x0)), (1, .ref (ad x1)), (2, .int (if x2 < (x3 - x4) then (x3 - x4) else x2)), (3, .int x3), (4, .int (x4 + 1))]) [2, 3, 1, 4, 0] rfl ?_
        exact ih k (if x2 < (x3 - x4) then (x3 - x4) else x2) (x4 + 1) hk hf
set_option maxRecDepth 100000 in
set_option maxHeartbeats 4000000 in
theorem w_X1_widthOf_4 {p : Program} {l : Launch} {e : Env} {s : State} {m : MethodId} {args : Array Value} {below : List Frame} {meth : Method} {c : Code} {D : va_G} {ad : Nat → Nat} {cy : Nat → ClassId} (E : EE p s m args c cX1_widthOf 5 (wsM yX1_widthOf cX1_widthOf 5 (some .int)) RX1 D cy) (hr : meth.sig.returnType = (some .int)) (hlk : meth.locks = false) {r : Int32} (h : HP) (x0 : Nat) (x1 : Nat) : ∀ (n : Nat) (k : (Int32 → Option (Int32))) (x2 : Int32) (x3 : Int32), (∀ (x2 : Int32), k x2 = some r → JJ p l e rmX1_widthOf s m args below meth c 0 0 (MQ below (QV D ad cy (some (.int r)) h) args s 0 0 (Aw ad)) D ad cy (Aw ad) 5 h [(2, .int x2)] 69 []) → L_X1_widthOf_4 h x0 x1 n k x2 x3 = some r → JJ p l e rmX1_widthOf s m args below meth c 0 0 (MQ below (QV D ad cy (some (.int r)) h) args s 0 0 (Aw ad)) D ad cy (Aw ad) 5 h [(0, .ref (ad x0)), (1, .ref (ad x1)), (2, .int x2), (3, .int x3)] 4 [] := by
  intro n
  induction n with
  | zero => intro k x2 x3 hk hf; cases hf
  | succ n ih =>
    intro k x2 x3 hk hf
    unfold L_X1_widthOf_4 at hf
    refine j_iload_n E 3 rfl dX1_widthOf_4 rfl ?_
    refine j_bipush (v := 16) E dX1_widthOf_5 (by decide) ?_
    refine j_icmp_ge (tgt := 69) E dX1_widthOf_7 (by decide) (fun z1 => ?_) (fun z1 => ?_)
    · have hf := ifp hf z1
      refine j_perm (lv' := [(2, .int x2)]) [2] rfl ?_
      exact hk x2 hf
    · have hf := ifn hf z1
      refine j_iload_n E 3 rfl dX1_widthOf_10 rfl ?_
      refine j_aload_n E 1 rfl dX1_widthOf_11 rfl ?_
      obtain ⟨v2, ev2, hf⟩ := bs hf
      refine j_getI (ci := 2) (k0 := 0) (T := TX3) (N := 2) E (mI inUX3) rfl (by decide) (mU uw_1_99) ev2 dX1_widthOf_12 ?_
      refine j_icmp_ge (tgt := 69) E dX1_widthOf_15 (by decide) (fun z3 => ?_) (fun z3 => ?_)
      · have hf := ifp hf z3
        refine j_perm (lv' := [(2, .int x2)]) [2] rfl ?_
        exact hk x2 hf
      · have hf := ifn hf z3
        refine j_iconst (v := 0) E dX1_widthOf_18 (by decide) ?_
        refine j_istore (lv' := [(4, .int 0), (0, .ref (ad x0)), (1, .ref (ad x1)), (2, .int x2), (3, .int x3)]) E dX1_widthOf_19 (by decide) rfl ?_
        refine j_perm (lv' := [(0, .ref (ad x0)), (1, .ref (ad x1)), (2, .int x2), (3, .int x3), (4, .int 0)]) [1, 2, 3, 4, 0] rfl ?_
        refine w_X1_widthOf_21 E hr hlk h x0 x1 x3 FU _ x2 0 (fun x17 hf => ?_) hf
        refine j_iinc (v := (x3 + 1)) (k0 := 3) (lv' := [(3, .int (x3 + 1)), (0, .ref (ad x0)), (1, .ref (ad x1)), (2, .int x17)]) E dX1_widthOf_63 rfl (congrArg (fun z => x3 + z) (by decide)) (by decide) rfl ?_
        refine j_goto (tgt := 4) E dX1_widthOf_66 (by decide) ?_
        refine j_perm (lv' := [(0, .ref (ad x0)), (1, .ref (ad x1)), (2, .int x17), (3, .int (x3 + 1))]) [1, 2, 3, 0] rfl ?_
        exact ih k x17 (x3 + 1) hk hf
set_option maxRecDepth 100000 in
set_option maxHeartbeats 4000000 in
theorem c_X1_widthOf (l : Launch) (D : va_G) (ad : Nat → Nat) (cy : Nat → ClassId) (h : HP) (x0 : Nat) (x1 : Nat) {r : Int32} (hf : f_X1_widthOf h x0 x1 = some r) : Met l yX1_widthOf (wsM yX1_widthOf cX1_widthOf 5 (some .int)) rmX1_widthOf (va_Pc [.ref (ad x0), .ref (ad x1)] (PW D ad cy h)) (QV D ad cy (some (.int r)) h) 0 0 (Aw ad) := by
  refine met_of (own := RX1) (lv := [(0, .ref (ad x0)), (1, .ref (ad x1))]) (by decide) rfl (Nat.le_of_ble_eq_true rfl) rfl (fun p e s m args below meth c E hr hlk => ?_)
  unfold f_X1_widthOf at hf
  refine j_iconst (v := 0) E dX1_widthOf_0 (by decide) ?_
  refine j_istore_n (lv' := [(2, .int 0), (0, .ref (ad x0)), (1, .ref (ad x1))]) E dX1_widthOf_1 rfl (by decide) rfl ?_
  refine j_iconst (v := 0) E dX1_widthOf_2 (by decide) ?_
  refine j_istore_n (lv' := [(3, .int 0), (2, .int 0), (0, .ref (ad x0)), (1, .ref (ad x1))]) E dX1_widthOf_3 rfl (by decide) rfl ?_
  refine j_perm (lv' := [(0, .ref (ad x0)), (1, .ref (ad x1)), (2, .int 0), (3, .int 0)]) [2, 3, 1, 0] rfl ?_
  refine w_X1_widthOf_4 E hr hlk h x0 x1 FU _ 0 0 (fun x18 hf => ?_) hf
  refine j_iload_n E 0 rfl dX1_widthOf_69 rfl ?_
  cases hf
  exact j_iret E hr hlk dX1_widthOf_70
noncomputable def f_X2_become (h : HP) (x0 : Nat) (x1 : Nat) : Option (HP) :=
  (gI 1 h x1 0).bind fun v1 =>
  (pI 1 h x0 0 v1).bind fun h2 =>
  (gI 1 h2 x1 1).bind fun v3 =>
  (pI 1 h2 x0 1 v3).bind fun h4 =>
  (gR 1 h4 x1 2).bind fun v5 =>
  (gR 1 h4 x0 2).bind fun v6 =>
  (cpI h4 v5 0 v6 0 16).bind fun h7 =>
  (gR 1 h7 x1 3).bind fun v8 =>
  (gR 1 h7 x0 3).bind fun v9 =>
  (cpJ h7 v8 0 v9 0 256).bind fun h10 =>
  some h10
abbrev rmX2_become : Room := { frames := 1, cells := 0, slots := 0, locals := 60 }
theorem hd_X2_become : yX2_become.cls = RX2 ∧ yX2_become.cls ≠ "java/lang/invoke/MethodHandle" ∧ yX2_become.cls ≠ "java/lang/invoke/VarHandle" ∧ (parseMethodDescriptor yX2_become.desc).map (fun d => d.parameters.length) = some 1 := by decide +kernel
set_option maxRecDepth 100000 in
set_option maxHeartbeats 4000000 in
theorem c_X2_become (l : Launch) (D : va_G) (ad : Nat → Nat) (cy : Nat → ClassId) (h : HP) (x0 : Nat) (x1 : Nat) {h' : HP} (hf : f_X2_become h x0 x1 = some h') : Met l yX2_become (wsM yX2_become cX2_become 2 none) rmX2_become (va_Pc [.ref (ad x0), .ref (ad x1)] (PW D ad cy h)) (QV D ad cy none h') 0 0 (Aw ad) := by
  refine met_of (own := RX2) (lv := [(0, .ref (ad x0)), (1, .ref (ad x1))]) (by decide) rfl (Nat.le_of_ble_eq_true rfl) rfl (fun p e s m args below meth c E hr hlk => ?_)
  unfold f_X2_become at hf
  refine j_aload_n E 0 rfl dX2_become_0 rfl ?_
  refine j_aload_n E 1 rfl dX2_become_1 rfl ?_
  obtain ⟨v1, ev1, hf⟩ := bs hf
  refine j_getI (ci := 1) (k0 := 0) (T := TX2) (N := 4) E (mI inUX2) rfl (by decide) (mU uw_1_73) ev1 dX2_become_2 ?_
  obtain ⟨h2, eh2, hf⟩ := bs hf
  refine j_putI (ci := 1) (k0 := 0) (T := TX2) (N := 4) E (mI inUX2) rfl (by decide) (mU uw_1_73) tyX2 tyX2_ok nmX2 rfl (by decide +kernel) eh2 dX2_become_5 ?_
  refine j_aload_n E 0 rfl dX2_become_8 rfl ?_
  refine j_aload_n E 1 rfl dX2_become_9 rfl ?_
  obtain ⟨v3, ev3, hf⟩ := bs hf
  refine j_getI (ci := 1) (k0 := 1) (T := TX2) (N := 4) E (mI inUX2) rfl (by decide) (mU uw_1_77) ev3 dX2_become_10 ?_
  obtain ⟨h4, eh4, hf⟩ := bs hf
  refine j_putI (ci := 1) (k0 := 1) (T := TX2) (N := 4) E (mI inUX2) rfl (by decide) (mU uw_1_77) tyX2 tyX2_ok nmX2 rfl (by decide +kernel) eh4 dX2_become_13 ?_
  refine j_aload_n E 1 rfl dX2_become_16 rfl ?_
  obtain ⟨v5, ev5, hf⟩ := bs hf
  refine j_getR (ci := 1) (k0 := 2) (T := TX2) (N := 4) E (mI inUX2) rfl (by decide) (mU uw_1_80) ev5 dX2_become_17 ?_
  refine j_iconst (v := 0) E dX2_become_20 (by decide) ?_
  refine j_aload_n E 0 rfl dX2_become_21 rfl ?_
  obtain ⟨v6, ev6, hf⟩ := bs hf
  refine j_getR (ci := 1) (k0 := 2) (T := TX2) (N := 4) E (mI inUX2) rfl (by decide) (mU uw_1_80) ev6 dX2_become_22 ?_
  refine j_iconst (v := 0) E dX2_become_25 (by decide) ?_
  refine j_bipush (v := 16) E dX2_become_26 (by decide) ?_
  obtain ⟨h7, eh7, hf⟩ := bs hf
  refine j_cpI E (mU uw_1_210) (mU uw_1_212) (mU uw_1_211) (mU uw_1_8) (by decide) (Nat.le_of_ble_eq_true rfl) eh7 dX2_become_28 ?_
  refine j_aload_n E 1 rfl dX2_become_31 rfl ?_
  obtain ⟨v8, ev8, hf⟩ := bs hf
  refine j_getR (ci := 1) (k0 := 3) (T := TX2) (N := 4) E (mI inUX2) rfl (by decide) (mU uw_1_81) ev8 dX2_become_32 ?_
  refine j_iconst (v := 0) E dX2_become_35 (by decide) ?_
  refine j_aload_n E 0 rfl dX2_become_36 rfl ?_
  obtain ⟨v9, ev9, hf⟩ := bs hf
  refine j_getR (ci := 1) (k0 := 3) (T := TX2) (N := 4) E (mI inUX2) rfl (by decide) (mU uw_1_81) ev9 dX2_become_37 ?_
  refine j_iconst (v := 0) E dX2_become_40 (by decide) ?_
  refine j_sipush (v := 256) E dX2_become_41 (by decide) ?_
  obtain ⟨h10, eh10, hf⟩ := bs hf
  refine j_cpJ E (mU uw_1_210) (mU uw_1_212) (mU uw_1_211) (mU uw_1_8) (by decide) (Nat.le_of_ble_eq_true rfl) eh10 dX2_become_44 ?_
  cases hf
  exact j_vret E hr hlk dX2_become_47
noncomputable def f_X2_hasRow (h : HP) (x0 : Nat) (x1 : Int32) : Option (Int32) :=
  if x1 < 0 then (
    some 0
  ) else (
    (gI 1 h x0 0).bind fun v2 =>
    if v2 ≤ x1 then (
      some 0
    ) else (
      some 1
    )
  )
abbrev rmX2_hasRow : Room := { frames := 0, cells := 0, slots := 0, locals := 0 }
theorem hd_X2_hasRow : yX2_hasRow.cls = RX2 ∧ yX2_hasRow.cls ≠ "java/lang/invoke/MethodHandle" ∧ yX2_hasRow.cls ≠ "java/lang/invoke/VarHandle" ∧ (parseMethodDescriptor yX2_hasRow.desc).map (fun d => d.parameters.length) = some 1 := by decide +kernel
set_option maxRecDepth 100000 in
set_option maxHeartbeats 4000000 in
theorem c_X2_hasRow (l : Launch) (D : va_G) (ad : Nat → Nat) (cy : Nat → ClassId) (h : HP) (x0 : Nat) (x1 : Int32) {r : Int32} (hf : f_X2_hasRow h x0 x1 = some r) : Met l yX2_hasRow (wsM yX2_hasRow cX2_hasRow 2 (some .boolean)) rmX2_hasRow (va_Pc [.ref (ad x0), .int x1] (PW D ad cy h)) (QV D ad cy (some (.int r)) h) 0 0 (Aw ad) := by
  refine met_of (own := RX2) (lv := [(0, .ref (ad x0)), (1, .int x1)]) (by decide) rfl (Nat.le_of_ble_eq_true rfl) rfl (fun p e s m args below meth c E hr hlk => ?_)
  unfold f_X2_hasRow at hf
  refine j_iload_n E 1 rfl dX2_hasRow_0 rfl ?_
  refine j_if_lt (tgt := 16) E dX2_hasRow_1 (by decide) (fun z1 => ?_) (fun z1 => ?_)
  · have hf := ifp hf z1
    refine j_iconst (v := 0) E dX2_hasRow_16 (by decide) ?_
    cases hf
    exact j_zret E hr hlk rfl dX2_hasRow_17
  · have hf := ifn hf z1
    refine j_iload_n E 1 rfl dX2_hasRow_4 rfl ?_
    refine j_aload_n E 0 rfl dX2_hasRow_5 rfl ?_
    obtain ⟨v2, ev2, hf⟩ := bs hf
    refine j_getI (ci := 1) (k0 := 0) (T := TX2) (N := 4) E (mI inUX2) rfl (by decide) (mU uw_1_73) ev2 dX2_hasRow_6 ?_
    refine j_icmp_ge (tgt := 16) E dX2_hasRow_9 (by decide) (fun z3 => ?_) (fun z3 => ?_)
    · have hf := ifp hf z3
      refine j_iconst (v := 0) E dX2_hasRow_16 (by decide) ?_
      cases hf
      exact j_zret E hr hlk rfl dX2_hasRow_17
    · have hf := ifn hf z3
      refine j_iconst (v := 1) E dX2_hasRow_12 (by decide) ?_
      refine j_goto (tgt := 17) E dX2_hasRow_13 (by decide) ?_
      cases hf
      exact j_zret E hr hlk rfl dX2_hasRow_17
noncomputable def f_X2_covers (h : HP) (x0 : Nat) (x1 : Int32) (x2 : Int32) : Option (Int32) :=
  ck 1 h x0 <|
  (f_X2_hasRow h x0 x1).bind fun v2 =>
  if v2 = 0 then (
    some 0
  ) else (
    if x2 < 0 then (
      some 0
    ) else (
      (gI 1 h x0 1).bind fun v6 =>
      if v6 ≤ x2 then (
        some 0
      ) else (
        some 1
      )
    )
  )
abbrev rmX2_covers : Room := { frames := 1, cells := 0, slots := 0, locals := 21 }
theorem hd_X2_covers : yX2_covers.cls = RX2 ∧ yX2_covers.cls ≠ "java/lang/invoke/MethodHandle" ∧ yX2_covers.cls ≠ "java/lang/invoke/VarHandle" ∧ (parseMethodDescriptor yX2_covers.desc).map (fun d => d.parameters.length) = some 2 := by decide +kernel
set_option maxRecDepth 100000 in
set_option maxHeartbeats 4000000 in
theorem c_X2_covers (l : Launch) (D : va_G) (ad : Nat → Nat) (cy : Nat → ClassId) (h : HP) (x0 : Nat) (x1 : Int32) (x2 : Int32) {r : Int32} (hf : f_X2_covers h x0 x1 x2 = some r) : Met l yX2_covers (wsM yX2_covers cX2_covers 3 (some .boolean)) rmX2_covers (va_Pc [.ref (ad x0), .int x1, .int x2] (PW D ad cy h)) (QV D ad cy (some (.int r)) h) 0 0 (Aw ad) := by
  refine met_of (own := RX2) (lv := [(0, .ref (ad x0)), (1, .int x1), (2, .int x2)]) (by decide) rfl (Nat.le_of_ble_eq_true rfl) rfl (fun p e s m args below meth c E hr hlk => ?_)
  unfold f_X2_covers at hf
  refine j_aload_n E 0 rfl dX2_covers_0 rfl ?_
  refine j_iload_n E 1 rfl dX2_covers_1 rfl ?_
  obtain ⟨k1, hf⟩ := ck_spec hf
  obtain ⟨v2, e3, hf⟩ := bs hf
  refine j_callV (ci := 1) (b := x0) (As := [.int x1]) (rest := []) (v := (some (.int v2))) E (c_X2_hasRow l D ad cy h x0 x1 e3) (mcw E.1.2.2.2.2 uw_1_205 uw_1_202 uw_1_203 uw_1_204 uw_1_4 rfl rfl hd_X2_hasRow ⟨by decide, by decide⟩) rfl k1 rfl rfl (Nat.le_of_ble_eq_true rfl) dX2_covers_2 ⟨Nat.zero_le _, Nat.zero_le _⟩ ?_
  refine j_stk (st' := [.int v2]) rfl ?_
  refine j_if_eq (tgt := 24) E dX2_covers_5 (by decide) (fun z4 => ?_) (fun z4 => ?_)
  · have hf := ifp hf z4
    refine j_iconst (v := 0) E dX2_covers_24 (by decide) ?_
    cases hf
    exact j_zret E hr hlk rfl dX2_covers_25
  · have hf := ifn hf z4
    refine j_iload_n E 2 rfl dX2_covers_8 rfl ?_
    refine j_if_lt (tgt := 24) E dX2_covers_9 (by decide) (fun z5 => ?_) (fun z5 => ?_)
    · have hf := ifp hf z5
      refine j_iconst (v := 0) E dX2_covers_24 (by decide) ?_
      cases hf
      exact j_zret E hr hlk rfl dX2_covers_25
    · have hf := ifn hf z5
      refine j_iload_n E 2 rfl dX2_covers_12 rfl ?_
      refine j_aload_n E 0 rfl dX2_covers_13 rfl ?_
      obtain ⟨v6, ev6, hf⟩ := bs hf
      refine j_getI (ci := 1) (k0 := 1) (T := TX2) (N := 4) E (mI inUX2) rfl (by decide) (mU uw_1_77) ev6 dX2_covers_14 ?_
      refine j_icmp_ge (tgt := 24) E dX2_covers_17 (by decide) (fun z7 => ?_) (fun z7 => ?_)
      · have hf := ifp hf z7
        refine j_iconst (v := 0) E dX2_covers_24 (by decide) ?_
        cases hf
        exact j_zret E hr hlk rfl dX2_covers_25
      · have hf := ifn hf z7
        refine j_iconst (v := 1) E dX2_covers_20 (by decide) ?_
        refine j_goto (tgt := 25) E dX2_covers_21 (by decide) ?_
        cases hf
        exact j_zret E hr hlk rfl dX2_covers_25
noncomputable def f_X2_isSquare (h : HP) (x0 : Nat) : Option (Int32) :=
  (gI 1 h x0 0).bind fun v1 =>
  (gI 1 h x0 1).bind fun v2 =>
  if v1 = v2 then (
    some 1
  ) else (
    some 0
  )
abbrev rmX2_isSquare : Room := { frames := 0, cells := 0, slots := 0, locals := 0 }
theorem hd_X2_isSquare : yX2_isSquare.cls = RX2 ∧ yX2_isSquare.cls ≠ "java/lang/invoke/MethodHandle" ∧ yX2_isSquare.cls ≠ "java/lang/invoke/VarHandle" ∧ (parseMethodDescriptor yX2_isSquare.desc).map (fun d => d.parameters.length) = some 0 := by decide +kernel
set_option maxRecDepth 100000 in
set_option maxHeartbeats 4000000 in
theorem c_X2_isSquare (l : Launch) (D : va_G) (ad : Nat → Nat) (cy : Nat → ClassId) (h : HP) (x0 : Nat) {r : Int32} (hf : f_X2_isSquare h x0 = some r) : Met l yX2_isSquare (wsM yX2_isSquare cX2_isSquare 1 (some .boolean)) rmX2_isSquare (va_Pc [.ref (ad x0)] (PW D ad cy h)) (QV D ad cy (some (.int r)) h) 0 0 (Aw ad) := by
  refine met_of (own := RX2) (lv := [(0, .ref (ad x0))]) (by decide) rfl (Nat.le_of_ble_eq_true rfl) rfl (fun p e s m args below meth c E hr hlk => ?_)
  unfold f_X2_isSquare at hf
  refine j_aload_n E 0 rfl dX2_isSquare_0 rfl ?_
  obtain ⟨v1, ev1, hf⟩ := bs hf
  refine j_getI (ci := 1) (k0 := 0) (T := TX2) (N := 4) E (mI inUX2) rfl (by decide) (mU uw_1_73) ev1 dX2_isSquare_1 ?_
  refine j_aload_n E 0 rfl dX2_isSquare_4 rfl ?_
  obtain ⟨v2, ev2, hf⟩ := bs hf
  refine j_getI (ci := 1) (k0 := 1) (T := TX2) (N := 4) E (mI inUX2) rfl (by decide) (mU uw_1_77) ev2 dX2_isSquare_5 ?_
  refine j_icmp_ne (tgt := 15) E dX2_isSquare_8 (by decide) (fun z3 => ?_) (fun z3 => ?_)
  · have hf := ifn hf z3
    refine j_iconst (v := 0) E dX2_isSquare_15 (by decide) ?_
    cases hf
    exact j_zret E hr hlk rfl dX2_isSquare_16
  · have hf := ifp hf z3
    refine j_iconst (v := 1) E dX2_isSquare_11 (by decide) ?_
    refine j_goto (tgt := 16) E dX2_isSquare_12 (by decide) ?_
    cases hf
    exact j_zret E hr hlk rfl dX2_isSquare_16
noncomputable def f_X2_hasSizeOf (h : HP) (x0 : Nat) (x1 : Nat) : Option (Int32) :=
  (gI 1 h x0 0).bind fun v1 =>
  (gI 1 h x1 0).bind fun v2 =>
  if v1 = v2 then (
    (gI 1 h x0 1).bind fun v4 =>
    (gI 1 h x1 1).bind fun v5 =>
    if v4 = v5 then (
      some 1
    ) else (
      some 0
    )
  ) else (
    some 0
  )
abbrev rmX2_hasSizeOf : Room := { frames := 0, cells := 0, slots := 0, locals := 0 }
theorem hd_X2_hasSizeOf : yX2_hasSizeOf.cls = RX2 ∧ yX2_hasSizeOf.cls ≠ "java/lang/invoke/MethodHandle" ∧ yX2_hasSizeOf.cls ≠ "java/lang/invoke/VarHandle" ∧ (parseMethodDescriptor yX2_hasSizeOf.desc).map (fun d => d.parameters.length) = some 1 := by decide +kernel
set_option maxRecDepth 100000 in
set_option maxHeartbeats 4000000 in
theorem c_X2_hasSizeOf (l : Launch) (D : va_G) (ad : Nat → Nat) (cy : Nat → ClassId) (h : HP) (x0 : Nat) (x1 : Nat) {r : Int32} (hf : f_X2_hasSizeOf h x0 x1 = some r) : Met l yX2_hasSizeOf (wsM yX2_hasSizeOf cX2_hasSizeOf 2 (some .boolean)) rmX2_hasSizeOf (va_Pc [.ref (ad x0), .ref (ad x1)] (PW D ad cy h)) (QV D ad cy (some (.int r)) h) 0 0 (Aw ad) := by
  refine met_of (own := RX2) (lv := [(0, .ref (ad x0)), (1, .ref (ad x1))]) (by decide) rfl (Nat.le_of_ble_eq_true rfl) rfl (fun p e s m args below meth c E hr hlk => ?_)
  unfold f_X2_hasSizeOf at hf
  refine j_aload_n E 0 rfl dX2_hasSizeOf_0 rfl ?_
  obtain ⟨v1, ev1, hf⟩ := bs hf
  refine j_getI (ci := 1) (k0 := 0) (T := TX2) (N := 4) E (mI inUX2) rfl (by decide) (mU uw_1_73) ev1 dX2_hasSizeOf_1 ?_
  refine j_aload_n E 1 rfl dX2_hasSizeOf_4 rfl ?_
  obtain ⟨v2, ev2, hf⟩ := bs hf
  refine j_getI (ci := 1) (k0 := 0) (T := TX2) (N := 4) E (mI inUX2) rfl (by decide) (mU uw_1_73) ev2 dX2_hasSizeOf_5 ?_
  refine j_icmp_ne (tgt := 26) E dX2_hasSizeOf_8 (by decide) (fun z3 => ?_) (fun z3 => ?_)
  · have hf := ifn hf z3
    refine j_iconst (v := 0) E dX2_hasSizeOf_26 (by decide) ?_
    cases hf
    exact j_zret E hr hlk rfl dX2_hasSizeOf_27
  · have hf := ifp hf z3
    refine j_aload_n E 0 rfl dX2_hasSizeOf_11 rfl ?_
    obtain ⟨v4, ev4, hf⟩ := bs hf
    refine j_getI (ci := 1) (k0 := 1) (T := TX2) (N := 4) E (mI inUX2) rfl (by decide) (mU uw_1_77) ev4 dX2_hasSizeOf_12 ?_
    refine j_aload_n E 1 rfl dX2_hasSizeOf_15 rfl ?_
    obtain ⟨v5, ev5, hf⟩ := bs hf
    refine j_getI (ci := 1) (k0 := 1) (T := TX2) (N := 4) E (mI inUX2) rfl (by decide) (mU uw_1_77) ev5 dX2_hasSizeOf_16 ?_
    refine j_icmp_ne (tgt := 26) E dX2_hasSizeOf_19 (by decide) (fun z6 => ?_) (fun z6 => ?_)
    · have hf := ifn hf z6
      refine j_iconst (v := 0) E dX2_hasSizeOf_26 (by decide) ?_
      cases hf
      exact j_zret E hr hlk rfl dX2_hasSizeOf_27
    · have hf := ifp hf z6
      refine j_iconst (v := 1) E dX2_hasSizeOf_22 (by decide) ?_
      refine j_goto (tgt := 27) E dX2_hasSizeOf_23 (by decide) ?_
      cases hf
      exact j_zret E hr hlk rfl dX2_hasSizeOf_27
noncomputable def f_X2_putSum (h : HP) (x0 : Nat) (x1 : Int32) (x2 : Int32) (x3 : Int64) : Option (HP) :=
  ck 1 h x0 <|
  (f_X2_value h x0 x1 x2).bind fun v2 =>
  ck 1 h x0 <|
  (f_X2_put h x0 x1 x2 (v2 + x3)).bind fun h5 =>
  some h5
abbrev rmX2_putSum : Room := { frames := 2, cells := 0, slots := 0, locals := 44 }
theorem hd_X2_putSum : yX2_putSum.cls = RX2 ∧ yX2_putSum.cls ≠ "java/lang/invoke/MethodHandle" ∧ yX2_putSum.cls ≠ "java/lang/invoke/VarHandle" ∧ (parseMethodDescriptor yX2_putSum.desc).map (fun d => d.parameters.length) = some 3 := by decide +kernel
set_option maxRecDepth 100000 in
set_option maxHeartbeats 4000000 in
theorem c_X2_putSum (l : Launch) (D : va_G) (ad : Nat → Nat) (cy : Nat → ClassId) (h : HP) (x0 : Nat) (x1 : Int32) (x2 : Int32) (x3 : Int64) {h' : HP} (hf : f_X2_putSum h x0 x1 x2 x3 = some h') : Met l yX2_putSum (wsM yX2_putSum cX2_putSum 5 none) rmX2_putSum (va_Pc [.ref (ad x0), .int x1, .int x2, .long x3] (PW D ad cy h)) (QV D ad cy none h') 0 0 (Aw ad) := by
  refine met_of (own := RX2) (lv := [(0, .ref (ad x0)), (1, .int x1), (2, .int x2), (3, .long x3)]) (by decide) rfl (Nat.le_of_ble_eq_true rfl) rfl (fun p e s m args below meth c E hr hlk => ?_)
  unfold f_X2_putSum at hf
  refine j_aload_n E 0 rfl dX2_putSum_0 rfl ?_
  refine j_iload_n E 1 rfl dX2_putSum_1 rfl ?_
  refine j_iload_n E 2 rfl dX2_putSum_2 rfl ?_
  refine j_aload_n E 0 rfl dX2_putSum_3 rfl ?_
  refine j_iload_n E 1 rfl dX2_putSum_4 rfl ?_
  refine j_iload_n E 2 rfl dX2_putSum_5 rfl ?_
  obtain ⟨k1, hf⟩ := ck_spec hf
  obtain ⟨v2, e3, hf⟩ := bs hf
  refine j_callV (ci := 1) (b := x0) (As := [.int x1, .int x2]) (rest := [.int x2, .int x1, .ref (ad x0)]) (v := (some (.long v2))) E (c_X2_value l D ad cy h x0 x1 x2 e3) (mcw E.1.2.2.2.2 uw_1_224 uw_1_221 uw_1_222 uw_1_223 uw_1_4 rfl rfl hd_X2_value ⟨by decide, by decide⟩) rfl k1 rfl rfl (Nat.le_of_ble_eq_true rfl) dX2_putSum_6 ⟨Nat.zero_le _, Nat.zero_le _⟩ ?_
  refine j_stk (st' := [.long v2, .int x2, .int x1, .ref (ad x0)]) rfl ?_
  refine j_lload_n E 3 rfl dX2_putSum_9 rfl ?_
  refine j_ladd E dX2_putSum_10 ?_
  obtain ⟨k4, hf⟩ := ck_spec hf
  obtain ⟨h5, e6, hf⟩ := bs hf
  refine j_callV (ci := 1) (b := x0) (As := [.int x1, .int x2, .long (v2 + x3)]) (rest := []) (v := none) E (c_X2_put l D ad cy h x0 x1 x2 (v2 + x3) e6) (mcw E.1.2.2.2.2 uw_1_229 uw_1_226 uw_1_227 uw_1_228 uw_1_4 rfl rfl hd_X2_put ⟨by decide, by decide⟩) rfl k4 rfl rfl (Nat.le_of_ble_eq_true rfl) dX2_putSum_11 ⟨Nat.zero_le _, Nat.zero_le _⟩ ?_
  refine j_stk (st' := []) rfl ?_
  cases hf
  exact j_vret E hr hlk dX2_putSum_14
noncomputable def f_X2_drop (h : HP) (x0 : Nat) (x1 : Int32) (x2 : Int32) : Option (HP) :=
  (f_X5_isLine x1).bind fun v1 =>
  if v1 = 0 then (
    some h
  ) else (
    (f_X5_isLine x2).bind fun v4 =>
    if v4 = 0 then (
      some h
    ) else (
      (gR 1 h x0 2).bind fun v7 =>
      (aI h v7 x1).bind fun v8 =>
      (sI h v7 x1 (v8 &&& ((1 <<< (x2 &&& 31)) ^^^ (-1)))).bind fun h9 =>
      (gR 1 h9 x0 3).bind fun v10 =>
      (sJ h9 v10 ((x1 * 16) + x2) 0).bind fun h11 =>
      some h11
    )
  )
abbrev rmX2_drop : Room := { frames := 1, cells := 0, slots := 0, locals := 20 }
theorem hd_X2_drop : yX2_drop.cls = RX2 ∧ yX2_drop.cls ≠ "java/lang/invoke/MethodHandle" ∧ yX2_drop.cls ≠ "java/lang/invoke/VarHandle" ∧ (parseMethodDescriptor yX2_drop.desc).map (fun d => d.parameters.length) = some 2 := by decide +kernel
set_option maxRecDepth 100000 in
set_option maxHeartbeats 4000000 in
theorem c_X2_drop (l : Launch) (D : va_G) (ad : Nat → Nat) (cy : Nat → ClassId) (h : HP) (x0 : Nat) (x1 : Int32) (x2 : Int32) {h' : HP} (hf : f_X2_drop h x0 x1 x2 = some h') : Met l yX2_drop (wsM yX2_drop cX2_drop 3 none) rmX2_drop (va_Pc [.ref (ad x0), .int x1, .int x2] (PW D ad cy h)) (QV D ad cy none h') 0 0 (Aw ad) := by
  refine met_of (own := RX2) (lv := [(0, .ref (ad x0)), (1, .int x1), (2, .int x2)]) (by decide) rfl (Nat.le_of_ble_eq_true rfl) rfl (fun p e s m args below meth c E hr hlk => ?_)
  unfold f_X2_drop at hf
  refine j_iload_n E 1 rfl dX2_drop_0 rfl ?_
  obtain ⟨v1, e2, hf⟩ := bs hf
  refine j_callSN (host := RX5) (As := [.int x1]) (rest := []) (v := (some (.int v1))) E (c_X5_isLine l D ad cy h x1 e2) (mcn E.1.2.2.2.2 E.2.2 5 rfl uw_1_164 uw_1_163 uw_1_1 rfl rfl hd_X5_isLine ⟨by decide, by decide⟩) rfl rfl (Nat.le_of_ble_eq_true rfl) dX2_drop_1 ⟨Nat.zero_le _, Nat.zero_le _⟩ ?_
  refine j_stk (st' := [.int v1]) rfl ?_
  refine j_if_eq (tgt := 40) E dX2_drop_4 (by decide) (fun z3 => ?_) (fun z3 => ?_)
  · have hf := ifp hf z3
    cases hf
    exact j_vret E hr hlk dX2_drop_40
  · have hf := ifn hf z3
    refine j_iload_n E 2 rfl dX2_drop_7 rfl ?_
    obtain ⟨v4, e5, hf⟩ := bs hf
    refine j_callSN (host := RX5) (As := [.int x2]) (rest := []) (v := (some (.int v4))) E (c_X5_isLine l D ad cy h x2 e5) (mcn E.1.2.2.2.2 E.2.2 5 rfl uw_1_164 uw_1_163 uw_1_1 rfl rfl hd_X5_isLine ⟨by decide, by decide⟩) rfl rfl (Nat.le_of_ble_eq_true rfl) dX2_drop_8 ⟨Nat.zero_le _, Nat.zero_le _⟩ ?_
    refine j_stk (st' := [.int v4]) rfl ?_
    refine j_if_eq (tgt := 40) E dX2_drop_11 (by decide) (fun z6 => ?_) (fun z6 => ?_)
    · have hf := ifp hf z6
      cases hf
      exact j_vret E hr hlk dX2_drop_40
    · have hf := ifn hf z6
      refine j_aload_n E 0 rfl dX2_drop_14 rfl ?_
      obtain ⟨v7, ev7, hf⟩ := bs hf
      refine j_getR (ci := 1) (k0 := 2) (T := TX2) (N := 4) E (mI inUX2) rfl (by decide) (mU uw_1_80) ev7 dX2_drop_15 ?_
      refine j_iload_n E 1 rfl dX2_drop_18 rfl ?_
      refine j_dup2 E dX2_drop_19 rfl rfl ?_
      obtain ⟨v8, ev8, hf⟩ := bs hf
      refine j_aI E ev8 dX2_drop_20 ?_
      refine j_iconst (v := 1) E dX2_drop_21 (by decide) ?_
      refine j_iload_n E 2 rfl dX2_drop_22 rfl ?_
      refine j_ishl E dX2_drop_23 ?_
      refine j_iconst (v := (-1)) E dX2_drop_24 (by decide) ?_
      refine j_ixor E dX2_drop_25 ?_
      refine j_iand E dX2_drop_26 ?_
      obtain ⟨h9, eh9, hf⟩ := bs hf
      refine j_sI E eh9 dX2_drop_27 ?_
      refine j_aload_n E 0 rfl dX2_drop_28 rfl ?_
      obtain ⟨v10, ev10, hf⟩ := bs hf
      refine j_getR (ci := 1) (k0 := 3) (T := TX2) (N := 4) E (mI inUX2) rfl (by decide) (mU uw_1_81) ev10 dX2_drop_29 ?_
      refine j_iload_n E 1 rfl dX2_drop_32 rfl ?_
      refine j_bipush (v := 16) E dX2_drop_33 (by decide) ?_
      refine j_imul E dX2_drop_35 ?_
      refine j_iload_n E 2 rfl dX2_drop_36 rfl ?_
      refine j_iadd E dX2_drop_37 ?_
      refine j_lconst (v := 0) E dX2_drop_38 (by decide) ?_
      obtain ⟨h11, eh11, hf⟩ := bs hf
      refine j_sJ E eh11 dX2_drop_39 ?_
      cases hf
      exact j_vret E hr hlk dX2_drop_40
noncomputable def f_X2_orderNumber (h : HP) (x0 : Nat) (x1 : Int32) (x2 : Int32) : Option (Int32) :=
  (f_X5_isLine x2).bind fun v1 =>
  if v1 = 0 then (
    ck 1 h x0 <|
    (f_X2_keptAhead h x0 x1).bind fun v5 =>
    ck 1 h x0 <|
    (f_X2_columnsOf h x0 x1).bind fun v8 =>
    (f_J6_bitCount_0f7a4 (v8 &&& 0)).bind fun v10 =>
    some (v5 + v10)
  ) else (
    ck 1 h x0 <|
    (f_X2_keptAhead h x0 x1).bind fun v13 =>
    ck 1 h x0 <|
    (f_X2_columnsOf h x0 x1).bind fun v16 =>
    (f_J6_bitCount_0f7a4 (v16 &&& ((1 <<< (x2 &&& 31)) - 1))).bind fun v18 =>
    some (v13 + v18)
  )
abbrev rmX2_orderNumber : Room := { frames := 2, cells := 0, slots := 0, locals := 43 }
theorem hd_X2_orderNumber : yX2_orderNumber.cls = RX2 ∧ yX2_orderNumber.cls ≠ "java/lang/invoke/MethodHandle" ∧ yX2_orderNumber.cls ≠ "java/lang/invoke/VarHandle" ∧ (parseMethodDescriptor yX2_orderNumber.desc).map (fun d => d.parameters.length) = some 2 := by decide +kernel
set_option maxRecDepth 100000 in
set_option maxHeartbeats 4000000 in
theorem c_X2_orderNumber (l : Launch) (D : va_G) (ad : Nat → Nat) (cy : Nat → ClassId) (h : HP) (x0 : Nat) (x1 : Int32) (x2 : Int32) {r : Int32} (hf : f_X2_orderNumber h x0 x1 x2 = some r) : Met l yX2_orderNumber (wsM yX2_orderNumber cX2_orderNumber 4 (some .int)) rmX2_orderNumber (va_Pc [.ref (ad x0), .int x1, .int x2] (PW D ad cy h)) (QV D ad cy (some (.int r)) h) 0 0 (Aw ad) := by
  refine met_of (own := RX2) (lv := [(0, .ref (ad x0)), (1, .int x1), (2, .int x2)]) (by decide) rfl (Nat.le_of_ble_eq_true rfl) rfl (fun p e s m args below meth c E hr hlk => ?_)
  unfold f_X2_orderNumber at hf
  refine j_iload_n E 2 rfl dX2_orderNumber_0 rfl ?_
  obtain ⟨v1, e2, hf⟩ := bs hf
  refine j_callSN (host := RX5) (As := [.int x2]) (rest := []) (v := (some (.int v1))) E (c_X5_isLine l D ad cy h x2 e2) (mcn E.1.2.2.2.2 E.2.2 5 rfl uw_1_164 uw_1_163 uw_1_1 rfl rfl hd_X5_isLine ⟨by decide, by decide⟩) rfl rfl (Nat.le_of_ble_eq_true rfl) dX2_orderNumber_1 ⟨Nat.zero_le _, Nat.zero_le _⟩ ?_
  refine j_stk (st' := [.int v1]) rfl ?_
  refine j_if_eq (tgt := 15) E dX2_orderNumber_4 (by decide) (fun z3 => ?_) (fun z3 => ?_)
  · have hf := ifp hf z3
    refine j_iconst (v := 0) E dX2_orderNumber_15 (by decide) ?_
    refine j_istore_n (lv' := [(3, .int 0), (0, .ref (ad x0)), (1, .int x1), (2, .int x2)]) E dX2_orderNumber_16 rfl (by decide) rfl ?_
    refine j_aload_n E 1 rfl dX2_orderNumber_17 rfl ?_
    refine j_iload_n E 2 rfl dX2_orderNumber_18 rfl ?_
    obtain ⟨k4, hf⟩ := ck_spec hf
    obtain ⟨v5, e6, hf⟩ := bs hf
    refine j_callV (ci := 1) (b := x0) (As := [.int x1]) (rest := []) (v := (some (.int v5))) E (c_X2_keptAhead l D ad cy h x0 x1 e6) (mcw E.1.2.2.2.2 uw_1_151 uw_1_148 uw_1_149 uw_1_150 uw_1_4 rfl rfl hd_X2_keptAhead ⟨by decide, by decide⟩) rfl k4 rfl rfl (Nat.le_of_ble_eq_true rfl) dX2_orderNumber_19 ⟨Nat.zero_le _, Nat.zero_le _⟩ ?_
    refine j_stk (st' := [.int v5]) rfl ?_
    refine j_aload_n E 1 rfl dX2_orderNumber_22 rfl ?_
    refine j_iload_n E 2 rfl dX2_orderNumber_23 rfl ?_
    obtain ⟨k7, hf⟩ := ck_spec hf
    obtain ⟨v8, e9, hf⟩ := bs hf
    refine j_callV (ci := 1) (b := x0) (As := [.int x1]) (rest := [.int v5]) (v := (some (.int v8))) E (c_X2_columnsOf l D ad cy h x0 x1 e9) (mcw E.1.2.2.2.2 uw_2_27 uw_2_24 uw_2_25 uw_2_26 uw_1_4 rfl rfl hd_X2_columnsOf ⟨by decide, by decide⟩) rfl k7 rfl rfl (Nat.le_of_ble_eq_true rfl) dX2_orderNumber_24 ⟨Nat.zero_le _, Nat.zero_le _⟩ ?_
    refine j_stk (st' := [.int v8, .int v5]) rfl ?_
    refine j_iload_n E 0 rfl dX2_orderNumber_27 rfl ?_
    refine j_iand E dX2_orderNumber_28 ?_
    obtain ⟨v10, e11, hf⟩ := bs hf
    refine j_callS (As := [.int (v8 &&& 0)]) (rest := [.int v5]) (v := (some (.int v10))) E (c_J6_bitCount_0f7a4 l D ad cy h (v8 &&& 0) e11) (mcs E.1.2.2.2.2 uw_1_154 uw_1_152 uw_1_153 uw_1_7 rfl rfl hd_J6_bitCount_0f7a4 ⟨by decide, by decide⟩) rfl rfl (Nat.le_of_ble_eq_true rfl) dX2_orderNumber_29 ⟨Nat.zero_le _, Nat.zero_le _⟩ ?_
    refine j_stk (st' := [.int v10, .int v5]) rfl ?_
    refine j_iadd E dX2_orderNumber_32 ?_
    cases hf
    exact j_iret E hr hlk dX2_orderNumber_33
  · have hf := ifn hf z3
    refine j_iconst (v := 1) E dX2_orderNumber_7 (by decide) ?_
    refine j_iload_n E 2 rfl dX2_orderNumber_8 rfl ?_
    refine j_ishl E dX2_orderNumber_9 ?_
    refine j_iconst (v := 1) E dX2_orderNumber_10 (by decide) ?_
    refine j_isub E dX2_orderNumber_11 ?_
    refine j_goto (tgt := 16) E dX2_orderNumber_12 (by decide) ?_
    refine j_istore_n (lv' := [(3, .int ((1 <<< (x2 &&& 31)) - 1)), (0, .ref (ad x0)), (1, .int x1), (2, .int x2)]) E dX2_orderNumber_16 rfl (by decide) rfl ?_
    refine j_aload_n E 1 rfl dX2_orderNumber_17 rfl ?_
    refine j_iload_n E 2 rfl dX2_orderNumber_18 rfl ?_
    obtain ⟨k12, hf⟩ := ck_spec hf
    obtain ⟨v13, e14, hf⟩ := bs hf
    refine j_callV (ci := 1) (b := x0) (As := [.int x1]) (rest := []) (v := (some (.int v13))) E (c_X2_keptAhead l D ad cy h x0 x1 e14) (mcw E.1.2.2.2.2 uw_1_151 uw_1_148 uw_1_149 uw_1_150 uw_1_4 rfl rfl hd_X2_keptAhead ⟨by decide, by decide⟩) rfl k12 rfl rfl (Nat.le_of_ble_eq_true rfl) dX2_orderNumber_19 ⟨Nat.zero_le _, Nat.zero_le _⟩ ?_
    refine j_stk (st' := [.int v13]) rfl ?_
    refine j_aload_n E 1 rfl dX2_orderNumber_22 rfl ?_
    refine j_iload_n E 2 rfl dX2_orderNumber_23 rfl ?_
    obtain ⟨k15, hf⟩ := ck_spec hf
    obtain ⟨v16, e17, hf⟩ := bs hf
    refine j_callV (ci := 1) (b := x0) (As := [.int x1]) (rest := [.int v13]) (v := (some (.int v16))) E (c_X2_columnsOf l D ad cy h x0 x1 e17) (mcw E.1.2.2.2.2 uw_2_27 uw_2_24 uw_2_25 uw_2_26 uw_1_4 rfl rfl hd_X2_columnsOf ⟨by decide, by decide⟩) rfl k15 rfl rfl (Nat.le_of_ble_eq_true rfl) dX2_orderNumber_24 ⟨Nat.zero_le _, Nat.zero_le _⟩ ?_
    refine j_stk (st' := [.int v16, .int v13]) rfl ?_
    refine j_iload_n E 0 rfl dX2_orderNumber_27 rfl ?_
    refine j_iand E dX2_orderNumber_28 ?_
    obtain ⟨v18, e19, hf⟩ := bs hf
    refine j_callS (As := [.int (v16 &&& ((1 <<< (x2 &&& 31)) - 1))]) (rest := [.int v13]) (v := (some (.int v18))) E (c_J6_bitCount_0f7a4 l D ad cy h (v16 &&& ((1 <<< (x2 &&& 31)) - 1)) e19) (mcs E.1.2.2.2.2 uw_1_154 uw_1_152 uw_1_153 uw_1_7 rfl rfl hd_J6_bitCount_0f7a4 ⟨by decide, by decide⟩) rfl rfl (Nat.le_of_ble_eq_true rfl) dX2_orderNumber_29 ⟨Nat.zero_le _, Nat.zero_le _⟩ ?_
    refine j_stk (st' := [.int v18, .int v13]) rfl ?_
    refine j_iadd E dX2_orderNumber_32 ?_
    cases hf
    exact j_iret E hr hlk dX2_orderNumber_33
noncomputable def L_X2_keptZeros_12 (h : HP) (x0 : Nat) (x2 : Int32) : Nat → (Int32 → Option (Int32)) → Int32 → Int32 → Option (Int32)
  | 0, _, _, _ => none
  | n + 1, k, x1, x3 =>
      if 16 ≤ x3 then (
        k x1
      ) else (
        ck 1 h x0 <|
        (f_X2_keeps h x0 x2 x3).bind fun v4 =>
        if v4 = 0 then (
          L_X2_keptZeros_12 h x0 x2 n k x1 (x3 + 1)
        ) else (
          ck 1 h x0 <|
          (f_X2_value h x0 x2 x3).bind fun v8 =>
          if (lg_cmp v8 0) = 0 then (
            L_X2_keptZeros_12 h x0 x2 n k (x1 + 1) (x3 + 1)
          ) else (
            L_X2_keptZeros_12 h x0 x2 n k x1 (x3 + 1)
          )
        )
      )
noncomputable def L_X2_keptZeros_4 (h : HP) (x0 : Nat) : Nat → (Int32 → Option (Int32)) → Int32 → Int32 → Option (Int32)
  | 0, _, _, _ => none
  | n + 1, k, x1, x2 =>
      if 16 ≤ x2 then (
        k x1
      ) else (
        L_X2_keptZeros_12 h x0 x2 FU (fun x11 =>
          L_X2_keptZeros_4 h x0 n k x11 (x2 + 1)) x1 0
      )
noncomputable def f_X2_keptZeros (h : HP) (x0 : Nat) : Option (Int32) :=
  L_X2_keptZeros_4 h x0 FU (fun x12 =>
    some x12) 0 0
abbrev rmX2_keptZeros : Room := { frames := 2, cells := 0, slots := 0, locals := 43 }
theorem hd_X2_keptZeros : yX2_keptZeros.cls = RX2 ∧ yX2_keptZeros.cls ≠ "java/lang/invoke/MethodHandle" ∧ yX2_keptZeros.cls ≠ "java/lang/invoke/VarHandle" ∧ (parseMethodDescriptor yX2_keptZeros.desc).map (fun d => d.parameters.length) = some 0 := by decide +kernel
set_option maxRecDepth 100000 in
set_option maxHeartbeats 4000000 in
theorem w_X2_keptZeros_12 {p : Program} {l : Launch} {e : Env} {s : State} {m : MethodId} {args : Array Value} {below : List Frame} {meth : Method} {c : Code} {D : va_G} {ad : Nat → Nat} {cy : Nat → ClassId} (E : EE p s m args c cX2_keptZeros 4 (wsM yX2_keptZeros cX2_keptZeros 4 (some .int)) RX2 D cy) (hr : meth.sig.returnType = (some .int)) (hlk : meth.locks = false) {r : Int32} (h : HP) (x0 : Nat) (x2 : Int32) : ∀ (n : Nat) (k : (Int32 → Option (Int32))) (x1 : Int32) (x3 : Int32), (∀ (x1 : Int32), k x1 = some r → JJ p l e rmX2_keptZeros s m args below meth c 0 0 (MQ below (QV D ad cy (some (.int r)) h) args s 0 0 (Aw ad)) D ad cy (Aw ad) 4 h [(0, .ref (ad x0)), (1, .int x1), (2, .int x2)] 47 []) → L_X2_keptZeros_12 h x0 x2 n k x1 x3 = some r → JJ p l e rmX2_keptZeros s m args below meth c 0 0 (MQ below (QV D ad cy (some (.int r)) h) args s 0 0 (Aw ad)) D ad cy (Aw ad) 4 h [(0, .ref (ad x0)), (1, .int x1), (2, .int x2), (3, .int x3)] 12 [] := by
  intro n
  induction n with
  | zero => intro k x1 x3 hk hf; cases hf
  | succ n ih =>
    intro k x1 x3 hk hf
    unfold L_X2_keptZeros_12 at hf
    refine j_iload_n E 3 rfl dX2_keptZeros_12 rfl ?_
    refine j_bipush (v := 16) E dX2_keptZeros_13 (by decide) ?_
    refine j_icmp_ge (tgt := 47) E dX2_keptZeros_15 (by decide) (fun z2 => ?_) (fun z2 => ?_)
    · have hf := ifp hf z2
      refine j_perm (lv' := [(0, .ref (ad x0)), (1, .int x1), (2, .int x2)]) [0, 1, 2] rfl ?_
      exact hk x1 hf
    · have hf := ifn hf z2
      refine j_aload_n E 0 rfl dX2_keptZeros_18 rfl ?_
      refine j_iload_n E 2 rfl dX2_keptZeros_19 rfl ?_
      refine j_iload_n E 3 rfl dX2_keptZeros_20 rfl ?_
      obtain ⟨k3, hf⟩ := ck_spec hf
      obtain ⟨v4, e5, hf⟩ := bs hf
      refine j_callV (ci := 1) (b := x0) (As := [.int x2, .int x3]) (rest := []) (v := (some (.int v4))) E (c_X2_keeps l D ad cy h x0 x2 x3 e5) (mcw E.1.2.2.2.2 uw_2_5 uw_2_2 uw_2_3 uw_2_4 uw_1_4 rfl rfl hd_X2_keeps ⟨by decide, by decide⟩) rfl k3 rfl rfl (Nat.le_of_ble_eq_true rfl) dX2_keptZeros_21 ⟨Nat.zero_le _, Nat.zero_le _⟩ ?_
      refine j_stk (st' := [.int v4]) rfl ?_
      refine j_if_eq (tgt := 41) E dX2_keptZeros_24 (by decide) (fun z6 => ?_) (fun z6 => ?_)
      · have hf := ifp hf z6
        refine j_iinc (v := (x3 + 1)) (k0 := 3) (lv' := [(3, .int (x3 + 1)), (0, .ref (ad x0)), (1, .int x1), (2, .int x2)]) E dX2_keptZeros_41 rfl (congrArg (fun z => x3 + z) (by decide)) (by decide) rfl ?_
        refine j_goto (tgt := 12) E dX2_keptZeros_44 (by decide) ?_
        refine j_perm (lv' := [(0, .ref (ad x0)), (1, .int x1), (2, .int x2), (3, .int (x3 + 1))]) [1, 2, 3, 0] rfl ?_
        exact ih k x1 (x3 + 1) hk hf
      · have hf := ifn hf z6
        refine j_aload_n E 0 rfl dX2_keptZeros_27 rfl ?_
        refine j_iload_n E 2 rfl dX2_keptZeros_28 rfl ?_
        refine j_iload_n E 3 rfl dX2_keptZeros_29 rfl ?_
        obtain ⟨k7, hf⟩ := ck_spec hf
        obtain ⟨v8, e9, hf⟩ := bs hf
        refine j_callV (ci := 1) (b := x0) (As := [.int x2, .int x3]) (rest := []) (v := (some (.long v8))) E (c_X2_value l D ad cy h x0 x2 x3 e9) (mcw E.1.2.2.2.2 uw_1_224 uw_1_221 uw_1_222 uw_1_223 uw_1_4 rfl rfl hd_X2_value ⟨by decide, by decide⟩) rfl k7 rfl rfl (Nat.le_of_ble_eq_true rfl) dX2_keptZeros_30 ⟨Nat.zero_le _, Nat.zero_le _⟩ ?_
        refine j_stk (st' := [.long v8]) rfl ?_
        refine j_lconst (v := 0) E dX2_keptZeros_33 (by decide) ?_
        refine j_lcmp E dX2_keptZeros_34 ?_
        refine j_if_ne (tgt := 41) E dX2_keptZeros_35 (by decide) (fun z10 => ?_) (fun z10 => ?_)
        · have hf := ifn hf z10
          refine j_iinc (v := (x3 + 1)) (k0 := 3) (lv' := [(3, .int (x3 + 1)), (0, .ref (ad x0)), (1, .int x1), (2, .int x2)]) E dX2_keptZeros_41 rfl (congrArg (fun z => x3 + z) (by decide)) (by decide) rfl ?_
          refine j_goto (tgt := 12) E dX2_keptZeros_44 (by decide) ?_
          refine j_perm (lv' := [(0, .ref (ad x0)), (1, .int x1), (2, .int x2), (3, .int (x3 + 1))]) [1, 2, 3, 0] rfl ?_
          exact ih k x1 (x3 + 1) hk hf
        · have hf := ifp hf z10
          refine j_iinc (v := (x1 + 1)) (k0 := 1) (lv' := [(1, .int (x1 + 1)), (0, .ref (ad x0)), (2, .int x2), (3, .int x3)]) E dX2_keptZeros_38 rfl (congrArg (fun z => x1 + z) (by decide)) (by decide) rfl ?_
          refine j_iinc (v := (x3 + 1)) (k0 := 3) (lv' := [(3, .int (x3 + 1)), (1, .int (x1 + 1)), (0, .ref (ad x0)), (2, .int x2)]) E dX2_keptZeros_41 rfl (congrArg (fun z => x3 + z) (by decide)) (by decide) rfl ?_
          refine j_goto (tgt := 12) E dX2_keptZeros_44 (by decide) ?_
          refine j_perm (lv' := [(0, .ref (ad x0)), (1, .int (x1 + 1)), (2, .int x2), (3, .int (x3 + 1))]) [2, 1, 3, 0] rfl ?_
          exact ih k (x1 + 1) (x3 + 1) hk hf
set_option maxRecDepth 100000 in
set_option maxHeartbeats 4000000 in
theorem w_X2_keptZeros_4 {p : Program} {l : Launch} {e : Env} {s : State} {m : MethodId} {args : Array Value} {below : List Frame} {meth : Method} {c : Code} {D : va_G} {ad : Nat → Nat} {cy : Nat → ClassId} (E : EE p s m args c cX2_keptZeros 4 (wsM yX2_keptZeros cX2_keptZeros 4 (some .int)) RX2 D cy) (hr : meth.sig.returnType = (some .int)) (hlk : meth.locks = false) {r : Int32} (h : HP) (x0 : Nat) : ∀ (n : Nat) (k : (Int32 → Option (Int32))) (x1 : Int32) (x2 : Int32), (∀ (x1 : Int32), k x1 = some r → JJ p l e rmX2_keptZeros s m args below meth c 0 0 (MQ below (QV D ad cy (some (.int r)) h) args s 0 0 (Aw ad)) D ad cy (Aw ad) 4 h [(1, .int x1)] 53 []) → L_X2_keptZeros_4 h x0 n k x1 x2 = some r → JJ p l e rmX2_keptZeros s m args below meth c 0 0 (MQ below (QV D ad cy (some (.int r)) h) args s 0 0 (Aw ad)) D ad cy (Aw ad) 4 h [(0, .ref (ad x0)), (1, .int x1), (2, .int x2)] 4 [] := by
  intro n
  induction n with
  | zero => intro k x1 x2 hk hf; cases hf
  | succ n ih =>
    intro k x1 x2 hk hf
    unfold L_X2_keptZeros_4 at hf
    refine j_iload_n E 2 rfl dX2_keptZeros_4 rfl ?_
    refine j_bipush (v := 16) E dX2_keptZeros_5 (by decide) ?_
    refine j_icmp_ge (tgt := 53) E dX2_keptZeros_7 (by decide) (fun z1 => ?_) (fun z1 => ?_)
    · have hf := ifp hf z1
      refine j_perm (lv' := [(1, .int x1)]) [1] rfl ?_
      exact hk x1 hf
    · have hf := ifn hf z1
      refine j_iconst (v := 0) E dX2_keptZeros_10 (by decide) ?_
      refine j_istore_n (lv' := [(3, .int 0), (0, .ref (ad x0)), (1, .int x1), (2, .int x2)]) E dX2_keptZeros_11 rfl (by decide) rfl ?_
      refine j_perm (lv' := [(0, .ref (ad x0)), (1, .int x1), (2, .int x2), (3, .int 0)]) [1, 2, 3, 0] rfl ?_
      refine w_X2_keptZeros_12 E hr hlk h x0 x2 FU _ x1 0 (fun x11 hf => ?_) hf
      refine j_iinc (v := (x2 + 1)) (k0 := 2) (lv' := [(2, .int (x2 + 1)), (0, .ref (ad x0)), (1, .int x11)]) E dX2_keptZeros_47 rfl (congrArg (fun z => x2 + z) (by decide)) (by decide) rfl ?_
      refine j_goto (tgt := 4) E dX2_keptZeros_50 (by decide) ?_
      refine j_perm (lv' := [(0, .ref (ad x0)), (1, .int x11), (2, .int (x2 + 1))]) [1, 2, 0] rfl ?_
      exact ih k x11 (x2 + 1) hk hf
set_option maxRecDepth 100000 in
set_option maxHeartbeats 4000000 in
theorem c_X2_keptZeros (l : Launch) (D : va_G) (ad : Nat → Nat) (cy : Nat → ClassId) (h : HP) (x0 : Nat) {r : Int32} (hf : f_X2_keptZeros h x0 = some r) : Met l yX2_keptZeros (wsM yX2_keptZeros cX2_keptZeros 4 (some .int)) rmX2_keptZeros (va_Pc [.ref (ad x0)] (PW D ad cy h)) (QV D ad cy (some (.int r)) h) 0 0 (Aw ad) := by
  refine met_of (own := RX2) (lv := [(0, .ref (ad x0))]) (by decide) rfl (Nat.le_of_ble_eq_true rfl) rfl (fun p e s m args below meth c E hr hlk => ?_)
  unfold f_X2_keptZeros at hf
  refine j_iconst (v := 0) E dX2_keptZeros_0 (by decide) ?_
  refine j_istore_n (lv' := [(1, .int 0), (0, .ref (ad x0))]) E dX2_keptZeros_1 rfl (by decide) rfl ?_
  refine j_iconst (v := 0) E dX2_keptZeros_2 (by decide) ?_
  refine j_istore_n (lv' := [(2, .int 0), (1, .int 0), (0, .ref (ad x0))]) E dX2_keptZeros_3 rfl (by decide) rfl ?_
  refine j_perm (lv' := [(0, .ref (ad x0)), (1, .int 0), (2, .int 0)]) [2, 1, 0] rfl ?_
  refine w_X2_keptZeros_4 E hr hlk h x0 FU _ 0 0 (fun x12 hf => ?_) hf
  refine j_iload_n E 0 rfl dX2_keptZeros_53 rfl ?_
  cases hf
  exact j_iret E hr hlk dX2_keptZeros_54
noncomputable def L_X2_dropZeros_15 (x0 : Nat) (x2 : Int32) : Nat → (HP → Option (HP × Int32)) → HP → Int32 → Option (HP × Int32)
  | 0, _, _, _ => none
  | n + 1, k, h, x3 =>
      if 16 ≤ x3 then (
        k h
      ) else (
        ck 1 h x0 <|
        (f_X2_value h x0 x2 x3).bind fun v7 =>
        if (lg_cmp v7 0) = 0 then (
          ck 1 h x0 <|
          (f_X2_drop h x0 x2 x3).bind fun h11 =>
          L_X2_dropZeros_15 x0 x2 n k h11 (x3 + 1)
        ) else (
          L_X2_dropZeros_15 x0 x2 n k h (x3 + 1)
        )
      )
noncomputable def L_X2_dropZeros_7 (x0 : Nat) : Nat → (HP → Option (HP × Int32)) → HP → Int32 → Option (HP × Int32)
  | 0, _, _, _ => none
  | n + 1, k, h, x2 =>
      if 16 ≤ x2 then (
        k h
      ) else (
        L_X2_dropZeros_15 x0 x2 FU (fun h13 =>
          L_X2_dropZeros_7 x0 n k h13 (x2 + 1)) h 0
      )
noncomputable def f_X2_dropZeros (h : HP) (x0 : Nat) : Option (HP × Int32) :=
  ck 1 h x0 <|
  (f_X2_keptZeros h x0).bind fun v2 =>
  L_X2_dropZeros_7 x0 FU (fun h14 =>
    some (h14, v2)) h 0
abbrev rmX2_dropZeros : Room := { frames := 3, cells := 0, slots := 0, locals := 66 }
theorem hd_X2_dropZeros : yX2_dropZeros.cls = RX2 ∧ yX2_dropZeros.cls ≠ "java/lang/invoke/MethodHandle" ∧ yX2_dropZeros.cls ≠ "java/lang/invoke/VarHandle" ∧ (parseMethodDescriptor yX2_dropZeros.desc).map (fun d => d.parameters.length) = some 0 := by decide +kernel
set_option maxRecDepth 100000 in
set_option maxHeartbeats 4000000 in
theorem w_X2_dropZeros_15 {p : Program} {l : Launch} {e : Env} {s : State} {m : MethodId} {args : Array Value} {below : List Frame} {meth : Method} {c : Code} {D : va_G} {ad : Nat → Nat} {cy : Nat → ClassId} (E : EE p s m args c cX2_dropZeros 4 (wsM yX2_dropZeros cX2_dropZeros 4 (some .int)) RX2 D cy) (hr : meth.sig.returnType = (some .int)) (hlk : meth.locks = false) {h' : HP} {r : Int32} (x0 : Nat) (x2 : Int32) (x1 : Int32) : ∀ (n : Nat) (k : (HP → Option (HP × Int32))) (h : HP) (x3 : Int32), (∀ (h : HP), k h = some (h', r) → JJ p l e rmX2_dropZeros s m args below meth c 0 0 (MQ below (QV D ad cy (some (.int r)) h') args s 0 0 (Aw ad)) D ad cy (Aw ad) 4 h [(0, .ref (ad x0)), (1, .int x1), (2, .int x2)] 44 []) → L_X2_dropZeros_15 x0 x2 n k h x3 = some (h', r) → JJ p l e rmX2_dropZeros s m args below meth c 0 0 (MQ below (QV D ad cy (some (.int r)) h') args s 0 0 (Aw ad)) D ad cy (Aw ad) 4 h [(0, .ref (ad x0)), (1, .int x1), (2, .int x2), (3, .int x3)] 15 [] := by
  intro n
  induction n with
  | zero => intro k h x3 hk hf; cases hf
  | succ n ih =>
    intro k h x3 hk hf
    unfold L_X2_dropZeros_15 at hf
    refine j_iload_n E 3 rfl dX2_dropZeros_15 rfl ?_
    refine j_bipush (v := 16) E dX2_dropZeros_16 (by decide) ?_
    refine j_icmp_ge (tgt := 44) E dX2_dropZeros_18 (by decide) (fun z5 => ?_) (fun z5 => ?_)
    · have hf := ifp hf z5
      refine j_perm (lv' := [(0, .ref (ad x0)), (1, .int x1), (2, .int x2)]) [0, 1, 2] rfl ?_
      exact hk h hf
    · have hf := ifn hf z5
      refine j_aload_n E 0 rfl dX2_dropZeros_21 rfl ?_
      refine j_iload_n E 2 rfl dX2_dropZeros_22 rfl ?_
      refine j_iload_n E 3 rfl dX2_dropZeros_23 rfl ?_
      obtain ⟨k6, hf⟩ := ck_spec hf
      obtain ⟨v7, e8, hf⟩ := bs hf
      refine j_callV (ci := 1) (b := x0) (As := [.int x2, .int x3]) (rest := []) (v := (some (.long v7))) E (c_X2_value l D ad cy h x0 x2 x3 e8) (mcw E.1.2.2.2.2 uw_1_224 uw_1_221 uw_1_222 uw_1_223 uw_1_4 rfl rfl hd_X2_value ⟨by decide, by decide⟩) rfl k6 rfl rfl (Nat.le_of_ble_eq_true rfl) dX2_dropZeros_24 ⟨Nat.zero_le _, Nat.zero_le _⟩ ?_
      refine j_stk (st' := [.long v7]) rfl ?_
      refine j_lconst (v := 0) E dX2_dropZeros_27 (by decide) ?_
      refine j_lcmp E dX2_dropZeros_28 ?_
      refine j_if_ne (tgt := 38) E dX2_dropZeros_29 (by decide) (fun z9 => ?_) (fun z9 => ?_)
      · have hf := ifn hf z9
        refine j_iinc (v := (x3 + 1)) (k0 := 3) (lv' := [(3, .int (x3 + 1)), (0, .ref (ad x0)), (1, .int x1), (2, .int x2)]) E dX2_dropZeros_38 rfl (congrArg (fun z => x3 + z) (by decide)) (by decide) rfl ?_
        refine j_goto (tgt := 15) E dX2_dropZeros_41 (by decide) ?_
        refine j_perm (lv' := [(0, .ref (ad x0)), (1, .int x1), (2, .int x2), (3, .int (x3 + 1))]) [1, 2, 3, 0] rfl ?_
        exact ih k h (x3 + 1) hk hf
      · have hf := ifp hf z9
        refine j_aload_n E 0 rfl dX2_dropZeros_32 rfl ?_
        refine j_iload_n E 2 rfl dX2_dropZeros_33 rfl ?_
        refine j_iload_n E 3 rfl dX2_dropZeros_34 rfl ?_
        obtain ⟨k10, hf⟩ := ck_spec hf
        obtain ⟨h11, e12, hf⟩ := bs hf
        refine j_callV (ci := 1) (b := x0) (As := [.int x2, .int x3]) (rest := []) (v := none) E (c_X2_drop l D ad cy h x0 x2 x3 e12) (mcw E.1.2.2.2.2 uw_2_56 uw_2_53 uw_2_55 us_1_2 uw_1_4 rfl rfl hd_X2_drop ⟨by decide, by decide⟩) rfl k10 rfl rfl (Nat.le_of_ble_eq_true rfl) dX2_dropZeros_35 ⟨Nat.zero_le _, Nat.zero_le _⟩ ?_
        refine j_stk (st' := []) rfl ?_
        refine j_iinc (v := (x3 + 1)) (k0 := 3) (lv' := [(3, .int (x3 + 1)), (0, .ref (ad x0)), (1, .int x1), (2, .int x2)]) E dX2_dropZeros_38 rfl (congrArg (fun z => x3 + z) (by decide)) (by decide) rfl ?_
        refine j_goto (tgt := 15) E dX2_dropZeros_41 (by decide) ?_
        refine j_perm (lv' := [(0, .ref (ad x0)), (1, .int x1), (2, .int x2), (3, .int (x3 + 1))]) [1, 2, 3, 0] rfl ?_
        exact ih k h11 (x3 + 1) hk hf
set_option maxRecDepth 100000 in
set_option maxHeartbeats 4000000 in
theorem w_X2_dropZeros_7 {p : Program} {l : Launch} {e : Env} {s : State} {m : MethodId} {args : Array Value} {below : List Frame} {meth : Method} {c : Code} {D : va_G} {ad : Nat → Nat} {cy : Nat → ClassId} (E : EE p s m args c cX2_dropZeros 4 (wsM yX2_dropZeros cX2_dropZeros 4 (some .int)) RX2 D cy) (hr : meth.sig.returnType = (some .int)) (hlk : meth.locks = false) {h' : HP} {r : Int32} (x0 : Nat) (x1 : Int32) : ∀ (n : Nat) (k : (HP → Option (HP × Int32))) (h : HP) (x2 : Int32), (∀ (h : HP), k h = some (h', r) → JJ p l e rmX2_dropZeros s m args below meth c 0 0 (MQ below (QV D ad cy (some (.int r)) h') args s 0 0 (Aw ad)) D ad cy (Aw ad) 4 h [(1, .int x1)] 50 []) → L_X2_dropZeros_7 x0 n k h x2 = some (h', r) → JJ p l e rmX2_dropZeros s m args below meth c 0 0 (MQ below (QV D ad cy (some (.int r)) h') args s 0 0 (Aw ad)) D ad cy (Aw ad) 4 h [(0, .ref (ad x0)), (1, .int x1), (2, .int x2)] 7 [] := by
  intro n
  induction n with
  | zero => intro k h x2 hk hf; cases hf
  | succ n ih =>
    intro k h x2 hk hf
    unfold L_X2_dropZeros_7 at hf
    refine j_iload_n E 2 rfl dX2_dropZeros_7 rfl ?_
    refine j_bipush (v := 16) E dX2_dropZeros_8 (by decide) ?_
    refine j_icmp_ge (tgt := 50) E dX2_dropZeros_10 (by decide) (fun z4 => ?_) (fun z4 => ?_)
    · have hf := ifp hf z4
      refine j_perm (lv' := [(1, .int x1)]) [1] rfl ?_
      exact hk h hf
    · have hf := ifn hf z4
      refine j_iconst (v := 0) E dX2_dropZeros_13 (by decide) ?_
      refine j_istore_n (lv' := [(3, .int 0), (0, .ref (ad x0)), (1, .int x1), (2, .int x2)]) E dX2_dropZeros_14 rfl (by decide) rfl ?_
      refine j_perm (lv' := [(0, .ref (ad x0)), (1, .int x1), (2, .int x2), (3, .int 0)]) [1, 2, 3, 0] rfl ?_
      refine w_X2_dropZeros_15 E hr hlk x0 x2 x1 FU _ h 0 (fun h13 hf => ?_) hf
      refine j_iinc (v := (x2 + 1)) (k0 := 2) (lv' := [(2, .int (x2 + 1)), (0, .ref (ad x0)), (1, .int x1)]) E dX2_dropZeros_44 rfl (congrArg (fun z => x2 + z) (by decide)) (by decide) rfl ?_
      refine j_goto (tgt := 7) E dX2_dropZeros_47 (by decide) ?_
      refine j_perm (lv' := [(0, .ref (ad x0)), (1, .int x1), (2, .int (x2 + 1))]) [1, 2, 0] rfl ?_
      exact ih k h13 (x2 + 1) hk hf
set_option maxRecDepth 100000 in
set_option maxHeartbeats 4000000 in
theorem c_X2_dropZeros (l : Launch) (D : va_G) (ad : Nat → Nat) (cy : Nat → ClassId) (h : HP) (x0 : Nat) {h' : HP} {r : Int32} (hf : f_X2_dropZeros h x0 = some (h', r)) : Met l yX2_dropZeros (wsM yX2_dropZeros cX2_dropZeros 4 (some .int)) rmX2_dropZeros (va_Pc [.ref (ad x0)] (PW D ad cy h)) (QV D ad cy (some (.int r)) h') 0 0 (Aw ad) := by
  refine met_of (own := RX2) (lv := [(0, .ref (ad x0))]) (by decide) rfl (Nat.le_of_ble_eq_true rfl) rfl (fun p e s m args below meth c E hr hlk => ?_)
  unfold f_X2_dropZeros at hf
  refine j_aload_n E 0 rfl dX2_dropZeros_0 rfl ?_
  obtain ⟨k1, hf⟩ := ck_spec hf
  obtain ⟨v2, e3, hf⟩ := bs hf
  refine j_callV (ci := 1) (b := x0) (As := []) (rest := []) (v := (some (.int v2))) E (c_X2_keptZeros l D ad cy h x0 e3) (mcw E.1.2.2.2.2 uw_2_1 uw_2_52 uw_1_239 uw_2_0 uw_1_4 rfl rfl hd_X2_keptZeros ⟨by decide, by decide⟩) rfl k1 rfl rfl (Nat.le_of_ble_eq_true rfl) dX2_dropZeros_1 ⟨Nat.zero_le _, Nat.zero_le _⟩ ?_
  refine j_stk (st' := [.int v2]) rfl ?_
  refine j_istore_n (lv' := [(1, .int v2), (0, .ref (ad x0))]) E dX2_dropZeros_4 rfl (by decide) rfl ?_
  refine j_iconst (v := 0) E dX2_dropZeros_5 (by decide) ?_
  refine j_istore_n (lv' := [(2, .int 0), (1, .int v2), (0, .ref (ad x0))]) E dX2_dropZeros_6 rfl (by decide) rfl ?_
  refine j_perm (lv' := [(0, .ref (ad x0)), (1, .int v2), (2, .int 0)]) [2, 1, 0] rfl ?_
  refine w_X2_dropZeros_7 E hr hlk x0 v2 FU _ h 0 (fun h14 hf => ?_) hf
  refine j_iload_n E 0 rfl dX2_dropZeros_50 rfl ?_
  cases hf
  exact j_iret E hr hlk dX2_dropZeros_51
noncomputable def L_X2_rowSum_5 (h : HP) (x0 : Nat) (x1 : Int32) : Nat → (Int64 → Option (Int64)) → Int64 → Int32 → Option (Int64)
  | 0, _, _, _ => none
  | n + 1, k, x2, x4 =>
      if 16 ≤ x4 then (
        k x2
      ) else (
        ck 1 h x0 <|
        (f_X2_value h x0 x1 x4).bind fun v3 =>
        L_X2_rowSum_5 h x0 x1 n k (x2 + v3) (x4 + 1)
      )
noncomputable def f_X2_rowSum (h : HP) (x0 : Nat) (x1 : Int32) : Option (Int64) :=
  L_X2_rowSum_5 h x0 x1 FU (fun x5 =>
    some x5) 0 0
abbrev rmX2_rowSum : Room := { frames := 2, cells := 0, slots := 0, locals := 42 }
theorem hd_X2_rowSum : yX2_rowSum.cls = RX2 ∧ yX2_rowSum.cls ≠ "java/lang/invoke/MethodHandle" ∧ yX2_rowSum.cls ≠ "java/lang/invoke/VarHandle" ∧ (parseMethodDescriptor yX2_rowSum.desc).map (fun d => d.parameters.length) = some 1 := by decide +kernel
set_option maxRecDepth 100000 in
set_option maxHeartbeats 4000000 in
theorem w_X2_rowSum_5 {p : Program} {l : Launch} {e : Env} {s : State} {m : MethodId} {args : Array Value} {below : List Frame} {meth : Method} {c : Code} {D : va_G} {ad : Nat → Nat} {cy : Nat → ClassId} (E : EE p s m args c cX2_rowSum 5 (wsM yX2_rowSum cX2_rowSum 5 (some .long)) RX2 D cy) (hr : meth.sig.returnType = (some .long)) (hlk : meth.locks = false) {r : Int64} (h : HP) (x0 : Nat) (x1 : Int32) : ∀ (n : Nat) (k : (Int64 → Option (Int64))) (x2 : Int64) (x4 : Int32), (∀ (x2 : Int64), k x2 = some r → JJ p l e rmX2_rowSum s m args below meth c 0 0 (MQ below (QV D ad cy (some (.long r)) h) args s 0 0 (Aw ad)) D ad cy (Aw ad) 5 h [(2, .long x2)] 28 []) → L_X2_rowSum_5 h x0 x1 n k x2 x4 = some r → JJ p l e rmX2_rowSum s m args below meth c 0 0 (MQ below (QV D ad cy (some (.long r)) h) args s 0 0 (Aw ad)) D ad cy (Aw ad) 5 h [(0, .ref (ad x0)), (1, .int x1), (2, .long x2), (4, .int x4)] 5 [] := by
  intro n
  induction n with
  | zero => intro k x2 x4 hk hf; cases hf
  | succ n ih =>
    intro k x2 x4 hk hf
    unfold L_X2_rowSum_5 at hf
    refine j_iload E 3 rfl dX2_rowSum_5 ?_
    refine j_bipush (v := 16) E dX2_rowSum_7 (by decide) ?_
    refine j_icmp_ge (tgt := 28) E dX2_rowSum_9 (by decide) (fun z1 => ?_) (fun z1 => ?_)
    · have hf := ifp hf z1
      refine j_perm (lv' := [(2, .long x2)]) [2] rfl ?_
      exact hk x2 hf
    · have hf := ifn hf z1
      refine j_lload_n E 2 rfl dX2_rowSum_12 rfl ?_
      refine j_aload_n E 0 rfl dX2_rowSum_13 rfl ?_
      refine j_iload_n E 1 rfl dX2_rowSum_14 rfl ?_
      refine j_iload E 3 rfl dX2_rowSum_15 ?_
      obtain ⟨k2, hf⟩ := ck_spec hf
      obtain ⟨v3, e4, hf⟩ := bs hf
      refine j_callV (ci := 1) (b := x0) (As := [.int x1, .int x4]) (rest := [.long x2]) (v := (some (.long v3))) E (c_X2_value l D ad cy h x0 x1 x4 e4) (mcw E.1.2.2.2.2 uw_1_224 uw_1_221 uw_1_222 uw_1_223 uw_1_4 rfl rfl hd_X2_value ⟨by decide, by decide⟩) rfl k2 rfl rfl (Nat.le_of_ble_eq_true rfl) dX2_rowSum_17 ⟨Nat.zero_le _, Nat.zero_le _⟩ ?_
      refine j_stk (st' := [.long v3, .long x2]) rfl ?_
      refine j_ladd E dX2_rowSum_20 ?_
      refine j_lstore_n (lv' := [(2, .long (x2 + v3)), (0, .ref (ad x0)), (1, .int x1), (4, .int x4)]) E dX2_rowSum_21 rfl (by decide) rfl ?_
      refine j_iinc (v := (x4 + 1)) (k0 := 3) (lv' := [(4, .int (x4 + 1)), (2, .long (x2 + v3)), (0, .ref (ad x0)), (1, .int x1)]) E dX2_rowSum_22 rfl (congrArg (fun z => x4 + z) (by decide)) (by decide) rfl ?_
      refine j_goto (tgt := 5) E dX2_rowSum_25 (by decide) ?_
      refine j_perm (lv' := [(0, .ref (ad x0)), (1, .int x1), (2, .long (x2 + v3)), (4, .int (x4 + 1))]) [2, 3, 1, 0] rfl ?_
      exact ih k (x2 + v3) (x4 + 1) hk hf
set_option maxRecDepth 100000 in
set_option maxHeartbeats 4000000 in
theorem c_X2_rowSum (l : Launch) (D : va_G) (ad : Nat → Nat) (cy : Nat → ClassId) (h : HP) (x0 : Nat) (x1 : Int32) {r : Int64} (hf : f_X2_rowSum h x0 x1 = some r) : Met l yX2_rowSum (wsM yX2_rowSum cX2_rowSum 5 (some .long)) rmX2_rowSum (va_Pc [.ref (ad x0), .int x1] (PW D ad cy h)) (QV D ad cy (some (.long r)) h) 0 0 (Aw ad) := by
  refine met_of (own := RX2) (lv := [(0, .ref (ad x0)), (1, .int x1)]) (by decide) rfl (Nat.le_of_ble_eq_true rfl) rfl (fun p e s m args below meth c E hr hlk => ?_)
  unfold f_X2_rowSum at hf
  refine j_lconst (v := 0) E dX2_rowSum_0 (by decide) ?_
  refine j_lstore_n (lv' := [(2, .long 0), (0, .ref (ad x0)), (1, .int x1)]) E dX2_rowSum_1 rfl (by decide) rfl ?_
  refine j_iconst (v := 0) E dX2_rowSum_2 (by decide) ?_
  refine j_istore (lv' := [(4, .int 0), (2, .long 0), (0, .ref (ad x0)), (1, .int x1)]) E dX2_rowSum_3 (by decide) rfl ?_
  refine j_perm (lv' := [(0, .ref (ad x0)), (1, .int x1), (2, .long 0), (4, .int 0)]) [2, 3, 1, 0] rfl ?_
  refine w_X2_rowSum_5 E hr hlk h x0 x1 FU _ 0 0 (fun x5 hf => ?_) hf
  refine j_lload_n E 0 rfl dX2_rowSum_28 rfl ?_
  cases hf
  exact j_lret E hr hlk dX2_rowSum_29
noncomputable def L_X2_columnSum_5 (h : HP) (x0 : Nat) (x1 : Int32) : Nat → (Int64 → Option (Int64)) → Int64 → Int32 → Option (Int64)
  | 0, _, _, _ => none
  | n + 1, k, x2, x4 =>
      if 16 ≤ x4 then (
        k x2
      ) else (
        ck 1 h x0 <|
        (f_X2_value h x0 x4 x1).bind fun v3 =>
        L_X2_columnSum_5 h x0 x1 n k (x2 + v3) (x4 + 1)
      )
noncomputable def f_X2_columnSum (h : HP) (x0 : Nat) (x1 : Int32) : Option (Int64) :=
  L_X2_columnSum_5 h x0 x1 FU (fun x5 =>
    some x5) 0 0
abbrev rmX2_columnSum : Room := { frames := 2, cells := 0, slots := 0, locals := 42 }
theorem hd_X2_columnSum : yX2_columnSum.cls = RX2 ∧ yX2_columnSum.cls ≠ "java/lang/invoke/MethodHandle" ∧ yX2_columnSum.cls ≠ "java/lang/invoke/VarHandle" ∧ (parseMethodDescriptor yX2_columnSum.desc).map (fun d => d.parameters.length) = some 1 := by decide +kernel
set_option maxRecDepth 100000 in
set_option maxHeartbeats 4000000 in
theorem w_X2_columnSum_5 {p : Program} {l : Launch} {e : Env} {s : State} {m : MethodId} {args : Array Value} {below : List Frame} {meth : Method} {c : Code} {D : va_G} {ad : Nat → Nat} {cy : Nat → ClassId} (E : EE p s m args c cX2_columnSum 5 (wsM yX2_columnSum cX2_columnSum 5 (some .long)) RX2 D cy) (hr : meth.sig.returnType = (some .long)) (hlk : meth.locks = false) {r : Int64} (h : HP) (x0 : Nat) (x1 : Int32) : ∀ (n : Nat) (k : (Int64 → Option (Int64))) (x2 : Int64) (x4 : Int32), (∀ (x2 : Int64), k x2 = some r → JJ p l e rmX2_columnSum s m args below meth c 0 0 (MQ below (QV D ad cy (some (.long r)) h) args s 0 0 (Aw ad)) D ad cy (Aw ad) 5 h [(2, .long x2)] 28 []) → L_X2_columnSum_5 h x0 x1 n k x2 x4 = some r → JJ p l e rmX2_columnSum s m args below meth c 0 0 (MQ below (QV D ad cy (some (.long r)) h) args s 0 0 (Aw ad)) D ad cy (Aw ad) 5 h [(0, .ref (ad x0)), (1, .int x1), (2, .long x2), (4, .int x4)] 5 [] := by
  intro n
  induction n with
  | zero => intro k x2 x4 hk hf; cases hf
  | succ n ih =>
    intro k x2 x4 hk hf
    unfold L_X2_columnSum_5 at hf
    refine j_iload E 3 rfl dX2_columnSum_5 ?_
    refine j_bipush (v := 16) E dX2_columnSum_7 (by decide) ?_
    refine j_icmp_ge (tgt := 28) E dX2_columnSum_9 (by decide) (fun z1 => ?_) (fun z1 => ?_)
    · have hf := ifp hf z1
      refine j_perm (lv' := [(2, .long x2)]) [2] rfl ?_
      exact hk x2 hf
    · have hf := ifn hf z1
      refine j_lload_n E 2 rfl dX2_columnSum_12 rfl ?_
      refine j_aload_n E 0 rfl dX2_columnSum_13 rfl ?_
      refine j_iload E 3 rfl dX2_columnSum_14 ?_
      refine j_iload_n E 1 rfl dX2_columnSum_16 rfl ?_
      obtain ⟨k2, hf⟩ := ck_spec hf
      obtain ⟨v3, e4, hf⟩ := bs hf
      refine j_callV (ci := 1) (b := x0) (As := [.int x4, .int x1]) (rest := [.long x2]) (v := (some (.long v3))) E (c_X2_value l D ad cy h x0 x4 x1 e4) (mcw E.1.2.2.2.2 uw_1_224 uw_1_221 uw_1_222 uw_1_223 uw_1_4 rfl rfl hd_X2_value ⟨by decide, by decide⟩) rfl k2 rfl rfl (Nat.le_of_ble_eq_true rfl) dX2_columnSum_17 ⟨Nat.zero_le _, Nat.zero_le _⟩ ?_
      refine j_stk (st' := [.long v3, .long x2]) rfl ?_
      refine j_ladd E dX2_columnSum_20 ?_
      refine j_lstore_n (lv' := [(2, .long (x2 + v3)), (0, .ref (ad x0)), (1, .int x1), (4, .int x4)]) E dX2_columnSum_21 rfl (by decide) rfl ?_
      refine j_iinc (v := (x4 + 1)) (k0 := 3) (lv' := [(4, .int (x4 + 1)), (2, .long (x2 + v3)), (0, .ref (ad x0)), (1, .int x1)]) E dX2_columnSum_22 rfl (congrArg (fun z => x4 + z) (by decide)) (by decide) rfl ?_
      refine j_goto (tgt := 5) E dX2_columnSum_25 (by decide) ?_
      refine j_perm (lv' := [(0, .ref (ad x0)), (1, .int x1), (2, .long (x2 + v3)), (4, .int (x4 + 1))]) [2, 3, 1, 0] rfl ?_
      exact ih k (x2 + v3) (x4 + 1) hk hf
set_option maxRecDepth 100000 in
set_option maxHeartbeats 4000000 in
theorem c_X2_columnSum (l : Launch) (D : va_G) (ad : Nat → Nat) (cy : Nat → ClassId) (h : HP) (x0 : Nat) (x1 : Int32) {r : Int64} (hf : f_X2_columnSum h x0 x1 = some r) : Met l yX2_columnSum (wsM yX2_columnSum cX2_columnSum 5 (some .long)) rmX2_columnSum (va_Pc [.ref (ad x0), .int x1] (PW D ad cy h)) (QV D ad cy (some (.long r)) h) 0 0 (Aw ad) := by
  refine met_of (own := RX2) (lv := [(0, .ref (ad x0)), (1, .int x1)]) (by decide) rfl (Nat.le_of_ble_eq_true rfl) rfl (fun p e s m args below meth c E hr hlk => ?_)
  unfold f_X2_columnSum at hf
  refine j_lconst (v := 0) E dX2_columnSum_0 (by decide) ?_
  refine j_lstore_n (lv' := [(2, .long 0), (0, .ref (ad x0)), (1, .int x1)]) E dX2_columnSum_1 rfl (by decide) rfl ?_
  refine j_iconst (v := 0) E dX2_columnSum_2 (by decide) ?_
  refine j_istore (lv' := [(4, .int 0), (2, .long 0), (0, .ref (ad x0)), (1, .int x1)]) E dX2_columnSum_3 (by decide) rfl ?_
  refine j_perm (lv' := [(0, .ref (ad x0)), (1, .int x1), (2, .long 0), (4, .int 0)]) [2, 3, 1, 0] rfl ?_
  refine w_X2_columnSum_5 E hr hlk h x0 x1 FU _ 0 0 (fun x5 hf => ?_) hf
  refine j_lload_n E 0 rfl dX2_columnSum_28 rfl ?_
  cases hf
  exact j_lret E hr hlk dX2_columnSum_29
