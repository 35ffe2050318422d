noncomputable def L_X2_becomeSlopesOfRight_25 (x0 : Nat) (x1 : Nat) (x2 : Nat) (x3 : Nat) (x4 : Int32) : Nat → (HP → Option (HP)) → HP → Int32 → Option (HP)
  | 0, _, _, _ => none
  | n + 1, k, h, x5 =>
      if 16 ≤ x5 then (
        k h
      ) else (
        ck 1 h x2 <|
        (f_X2_keeps h x2 x4 x5).bind fun v9 =>
        if v9 = 0 then (
          L_X2_becomeSlopesOfRight_25 x0 x1 x2 x3 x4 n k h (x5 + 1)
        ) else (
          ck 1 h x3 <|
          (f_X2_productOfColumns h x3 x5 x1 x4).bind fun v13 =>
          ck 1 h x0 <|
          (f_X2_put h x0 x4 x5 v13).bind fun h16 =>
          L_X2_becomeSlopesOfRight_25 x0 x1 x2 x3 x4 n k h16 (x5 + 1)
        )
      )
noncomputable def L_X2_becomeSlopesOfRight_15 (x0 : Nat) (x1 : Nat) (x2 : Nat) (x3 : Nat) : Nat → (HP → Option (HP)) → HP → Int32 → Option (HP)
  | 0, _, _, _ => none
  | n + 1, k, h, x4 =>
      if 16 ≤ x4 then (
        k h
      ) else (
        L_X2_becomeSlopesOfRight_25 x0 x1 x2 x3 x4 FU (fun h18 =>
          L_X2_becomeSlopesOfRight_15 x0 x1 x2 x3 n k h18 (x4 + 1)) h 0
      )
noncomputable def f_X2_becomeSlopesOfRight (h : HP) (x0 : Nat) (x1 : Nat) (x2 : Nat) (x3 : Nat) : Option (HP) :=
  (gI 1 h x2 0).bind fun v1 =>
  (gI 1 h x2 1).bind fun v2 =>
  ck 1 h x0 <|
  (f_X2_begin h x0 v1 v2).bind fun h4 =>
  L_X2_becomeSlopesOfRight_15 x0 x1 x2 x3 FU (fun h19 =>
    some h19) h4 0
abbrev rmX2_becomeSlopesOfRight : Room := { frames := 3, cells := 0, slots := 0, locals := 68 }
theorem hd_X2_becomeSlopesOfRight : yX2_becomeSlopesOfRight.cls = RX2 ∧ yX2_becomeSlopesOfRight.cls ≠ "java/lang/invoke/MethodHandle" ∧ yX2_becomeSlopesOfRight.cls ≠ "java/lang/invoke/VarHandle" ∧ (parseMethodDescriptor yX2_becomeSlopesOfRight.desc).map (fun d => d.parameters.length) = some 3 := by decide +kernel
set_option maxRecDepth 100000 in
set_option maxHeartbeats 4000000 in
theorem w_X2_becomeSlopesOfRight_25 {p : Program} {l : Launch} {e : Env} {s : State} {m : MethodId} {args : Array Value} {below : List Frame} {meth : Method} {c : Code} {D : va_G} {ad : Nat → Nat} {cy : Nat → ClassId} (E : EE p s m args c cX2_becomeSlopesOfRight 6 (wsM yX2_becomeSlopesOfRight cX2_becomeSlopesOfRight 6 none) RX2 D cy) (hr : meth.sig.returnType = none) (hlk : meth.locks = false) {h' : HP} (x0 : Nat) (x1 : Nat) (x2 : Nat) (x3 : Nat) (x4 : Int32) : ∀ (n : Nat) (k : (HP → Option (HP))) (h : HP) (x5 : Int32), (∀ (h : HP), k h = some h' → JJ p l e rmX2_becomeSlopesOfRight s m args below meth c 0 0 (MQ below (QV D ad cy none h') args s 0 0 (Aw ad)) D ad cy (Aw ad) 6 h [(0, .ref (ad x0)), (1, .ref (ad x1)), (2, .ref (ad x2)), (3, .ref (ad x3)), (4, .int x4)] 66 []) → L_X2_becomeSlopesOfRight_25 x0 x1 x2 x3 x4 n k h x5 = some h' → JJ p l e rmX2_becomeSlopesOfRight s m args below meth c 0 0 (MQ below (QV D ad cy none h') args s 0 0 (Aw ad)) D ad cy (Aw ad) 6 h [(0, .ref (ad x0)), (1, .ref (ad x1)), (2, .ref (ad x2)), (3, .ref (ad x3)), (4, .int x4), (5, .int x5)] 25 [] := by
  intro n
  induction n with
  | zero => intro k h x5 hk hf; cases hf
  | succ n ih =>
    intro k h x5 hk hf
    unfold L_X2_becomeSlopesOfRight_25 at hf
    refine j_iload E 5 rfl dX2_becomeSlopesOfRight_25 ?_
    refine j_bipush (v := 16) E dX2_becomeSlopesOfRight_27 (by decide) ?_
    refine j_icmp_ge (tgt := 66) E dX2_becomeSlopesOfRight_29 (by decide) (fun z7 => ?_) (fun z7 => ?_)
    · have hf := ifp hf z7
      refine j_perm (lv' := [(0, .ref (ad x0)), (1, .ref (ad x1)), (2, .ref (ad x2)), (3, .ref (ad x3)), (4, .int x4)]) [0, 1, 2, 3, 4] rfl ?_
      exact hk h hf
    · have hf := ifn hf z7
      refine j_aload_n E 2 rfl dX2_becomeSlopesOfRight_32 rfl ?_
      refine j_iload E 4 rfl dX2_becomeSlopesOfRight_33 ?_
      refine j_iload E 5 rfl dX2_becomeSlopesOfRight_35 ?_
      obtain ⟨k8, hf⟩ := ck_spec hf
      obtain ⟨v9, e10, hf⟩ := bs hf
      refine j_callV (ci := 1) (b := x2) (As := [.int x4, .int x5]) (rest := []) (v := (some (.int v9))) E (c_X2_keeps l D ad cy h x2 x4 x5 e10) (mcw E.1.2.2.2.2 uw_2_5 uw_2_2 uw_2_3 uw_2_4 uw_1_4 rfl rfl hd_X2_keeps ⟨by decide, by decide⟩) rfl k8 rfl rfl (Nat.le_of_ble_eq_true rfl) dX2_becomeSlopesOfRight_37 ⟨Nat.zero_le _, Nat.zero_le _⟩ ?_
      refine j_stk (st' := [.int v9]) rfl ?_
      refine j_if_eq (tgt := 60) E dX2_becomeSlopesOfRight_40 (by decide) (fun z11 => ?_) (fun z11 => ?_)
      · have hf := ifp hf z11
        refine j_iinc (v := (x5 + 1)) (k0 := 5) (lv' := [(5, .int (x5 + 1)), (0, .ref (ad x0)), (1, .ref (ad x1)), (2, .ref (ad x2)), (3, .ref (ad x3)), (4, .int x4)]) E dX2_becomeSlopesOfRight_60 rfl (congrArg (fun z => x5 + z) (by decide)) (by decide) rfl ?_
        refine j_goto (tgt := 25) E dX2_becomeSlopesOfRight_63 (by decide) ?_
        refine j_perm (lv' := [(0, .ref (ad x0)), (1, .ref (ad x1)), (2, .ref (ad x2)), (3, .ref (ad x3)), (4, .int x4), (5, .int (x5 + 1))]) [1, 2, 3, 4, 5, 0] rfl ?_
        exact ih k h (x5 + 1) hk hf
      · have hf := ifn hf z11
        refine j_aload_n E 0 rfl dX2_becomeSlopesOfRight_43 rfl ?_
        refine j_iload E 4 rfl dX2_becomeSlopesOfRight_44 ?_
        refine j_iload E 5 rfl dX2_becomeSlopesOfRight_46 ?_
        refine j_aload_n E 3 rfl dX2_becomeSlopesOfRight_48 rfl ?_
        refine j_iload E 5 rfl dX2_becomeSlopesOfRight_49 ?_
        refine j_aload_n E 1 rfl dX2_becomeSlopesOfRight_51 rfl ?_
        refine j_iload E 4 rfl dX2_becomeSlopesOfRight_52 ?_
        obtain ⟨k12, hf⟩ := ck_spec hf
        obtain ⟨v13, e14, hf⟩ := bs hf
        refine j_callV (ci := 1) (b := x3) (As := [.int x5, .ref (ad x1), .int x4]) (rest := [.int x5, .int x4, .ref (ad x0)]) (v := (some (.long v13))) E (c_X2_productOfColumns l D ad cy h x3 x5 x1 x4 e14) (mcw E.1.2.2.2.2 uw_2_143 uw_2_140 uw_2_142 us_1_5 uw_1_4 rfl rfl hd_X2_productOfColumns ⟨by decide, by decide⟩) rfl k12 rfl rfl (Nat.le_of_ble_eq_true rfl) dX2_becomeSlopesOfRight_54 ⟨Nat.zero_le _, Nat.zero_le _⟩ ?_
        refine j_stk (st' := [.long v13, .int x5, .int x4, .ref (ad x0)]) rfl ?_
        obtain ⟨k15, hf⟩ := ck_spec hf
        obtain ⟨h16, e17, hf⟩ := bs hf
        refine j_callV (ci := 1) (b := x0) (As := [.int x4, .int x5, .long v13]) (rest := []) (v := none) E (c_X2_put l D ad cy h x0 x4 x5 v13 e17) (mcw E.1.2.2.2.2 uw_1_229 uw_1_226 uw_1_227 uw_1_228 uw_1_4 rfl rfl hd_X2_put ⟨by decide, by decide⟩) rfl k15 rfl rfl (Nat.le_of_ble_eq_true rfl) dX2_becomeSlopesOfRight_57 ⟨Nat.zero_le _, Nat.zero_le _⟩ ?_
        refine j_stk (st' := []) rfl ?_
        refine j_iinc (v := (x5 + 1)) (k0 := 5) (lv' := [(5, .int (x5 + 1)), (0, .ref (ad x0)), (1, .ref (ad x1)), (2, .ref (ad x2)), (3, .ref (ad x3)), (4, .int x4)]) E dX2_becomeSlopesOfRight_60 rfl (congrArg (fun z => x5 + z) (by decide)) (by decide) rfl ?_
        refine j_goto (tgt := 25) E dX2_becomeSlopesOfRight_63 (by decide) ?_
        refine j_perm (lv' := [(0, .ref (ad x0)), (1, .ref (ad x1)), (2, .ref (ad x2)), (3, .ref (ad x3)), (4, .int x4), (5, .int (x5 + 1))]) [1, 2, 3, 4, 5, 0] rfl ?_
        exact ih k h16 (x5 + 1) hk hf
set_option maxRecDepth 100000 in
set_option maxHeartbeats 4000000 in
theorem w_X2_becomeSlopesOfRight_15 {p : Program} {l : Launch} {e : Env} {s : State} {m : MethodId} {args : Array Value} {below : List Frame} {meth : Method} {c : Code} {D : va_G} {ad : Nat → Nat} {cy : Nat → ClassId} (E : EE p s m args c cX2_becomeSlopesOfRight 6 (wsM yX2_becomeSlopesOfRight cX2_becomeSlopesOfRight 6 none) RX2 D cy) (hr : meth.sig.returnType = none) (hlk : meth.locks = false) {h' : HP} (x0 : Nat) (x1 : Nat) (x2 : Nat) (x3 : Nat) : ∀ (n : Nat) (k : (HP → Option (HP))) (h : HP) (x4 : Int32), (∀ (h : HP), k h = some h' → JJ p l e rmX2_becomeSlopesOfRight s m args below meth c 0 0 (MQ below (QV D ad cy none h') args s 0 0 (Aw ad)) D ad cy (Aw ad) 6 h [] 72 []) → L_X2_becomeSlopesOfRight_15 x0 x1 x2 x3 n k h x4 = some h' → JJ p l e rmX2_becomeSlopesOfRight s m args below meth c 0 0 (MQ below (QV D ad cy none h') args s 0 0 (Aw ad)) D ad cy (Aw ad) 6 h [(0, .ref (ad x0)), (1, .ref (ad x1)), (2, .ref (ad x2)), (3, .ref (ad x3)), (4, .int x4)] 15 [] := by
  intro n
  induction n with
  | zero => intro k h x4 hk hf; cases hf
  | succ n ih =>
    intro k h x4 hk hf
    unfold L_X2_becomeSlopesOfRight_15 at hf
    refine j_iload E 4 rfl dX2_becomeSlopesOfRight_15 ?_
    refine j_bipush (v := 16) E dX2_becomeSlopesOfRight_17 (by decide) ?_
    refine j_icmp_ge (tgt := 72) E dX2_becomeSlopesOfRight_19 (by decide) (fun z6 => ?_) (fun z6 => ?_)
    · have hf := ifp hf z6
      refine j_perm (lv' := []) [] rfl ?_
      exact hk h hf
    · have hf := ifn hf z6
      refine j_iconst (v := 0) E dX2_becomeSlopesOfRight_22 (by decide) ?_
      refine j_istore (lv' := [(5, .int 0), (0, .ref (ad x0)), (1, .ref (ad x1)), (2, .ref (ad x2)), (3, .ref (ad x3)), (4, .int x4)]) E dX2_becomeSlopesOfRight_23 (by decide) rfl ?_
      refine j_perm (lv' := [(0, .ref (ad x0)), (1, .ref (ad x1)), (2, .ref (ad x2)), (3, .ref (ad x3)), (4, .int x4), (5, .int 0)]) [1, 2, 3, 4, 5, 0] rfl ?_
      refine w_X2_becomeSlopesOfRight_25 E hr hlk x0 x1 x2 x3 x4 FU _ h 0 (fun h18 hf => ?_) hf
      refine j_iinc (v := (x4 + 1)) (k0 := 4) (lv' := [(4, .int (x4 + 1)), (0, .ref (ad x0)), (1, .ref (ad x1)), (2, .ref (ad x2)), (3, .ref (ad x3))]) E dX2_becomeSlopesOfRight_66 rfl (congrArg (fun z => x4 + z) (by decide)) (by decide) rfl ?_
      refine j_goto (tgt := 15) E dX2_becomeSlopesOfRight_69 (by decide) ?_
      refine j_perm (lv' := [(0, .ref (ad x0)), (1, .ref (ad x1)), (2, .ref (ad x2)), (3, .ref (ad x3)), (4, .int (x4 + 1))]) [1, 2, 3, 4, 0] rfl ?_
      exact ih k h18 (x4 + 1) hk hf
set_option maxRecDepth 100000 in
set_option maxHeartbeats 4000000 in
theorem c_X2_becomeSlopesOfRight (l : Launch) (D : va_G) (ad : Nat → Nat) (cy : Nat → ClassId) (h : HP) (x0 : Nat) (x1 : Nat) (x2 : Nat) (x3 : Nat) {h' : HP} (hf : f_X2_becomeSlopesOfRight h x0 x1 x2 x3 = some h') : Met l yX2_becomeSlopesOfRight (wsM yX2_becomeSlopesOfRight cX2_becomeSlopesOfRight 6 none) rmX2_becomeSlopesOfRight (va_Pc [.ref (ad x0), .ref (ad x1), .ref (ad x2), .ref (ad x3)] (PW D ad cy h)) (QV D ad cy none h') 0 0 (Aw ad) := by
  refine met_of (own := RX2) (lv := [(0, .ref (ad x0)), (1, .ref (ad x1)), (2, .ref (ad x2)), (3, .ref (ad x3))]) (by decide) rfl (Nat.le_of_ble_eq_true rfl) rfl (fun p e s m args below meth c E hr hlk => ?_)
  unfold f_X2_becomeSlopesOfRight at hf
  refine j_aload_n E 0 rfl dX2_becomeSlopesOfRight_0 rfl ?_
  refine j_aload_n E 2 rfl dX2_becomeSlopesOfRight_1 rfl ?_
  obtain ⟨v1, ev1, hf⟩ := bs hf
  refine j_getI (ci := 1) (k0 := 0) (T := TX2) (N := 4) E (mI inUX2) rfl (by decide) (mU uw_1_73) ev1 dX2_becomeSlopesOfRight_2 ?_
  refine j_aload_n E 2 rfl dX2_becomeSlopesOfRight_5 rfl ?_
  obtain ⟨v2, ev2, hf⟩ := bs hf
  refine j_getI (ci := 1) (k0 := 1) (T := TX2) (N := 4) E (mI inUX2) rfl (by decide) (mU uw_1_77) ev2 dX2_becomeSlopesOfRight_6 ?_
  obtain ⟨k3, hf⟩ := ck_spec hf
  obtain ⟨h4, e5, hf⟩ := bs hf
  refine j_callV (ci := 1) (b := x0) (As := [.int v1, .int v2]) (rest := []) (v := none) E (c_X2_begin l D ad cy h x0 v1 v2 e5) (mcw E.1.2.2.2.2 uw_1_139 uw_2_78 uw_1_137 uw_1_138 uw_1_4 rfl rfl hd_X2_begin ⟨by decide, by decide⟩) rfl k3 rfl rfl (Nat.le_of_ble_eq_true rfl) dX2_becomeSlopesOfRight_9 ⟨Nat.zero_le _, Nat.zero_le _⟩ ?_
  refine j_stk (st' := []) rfl ?_
  refine j_iconst (v := 0) E dX2_becomeSlopesOfRight_12 (by decide) ?_
  refine j_istore (lv' := [(4, .int 0), (0, .ref (ad x0)), (1, .ref (ad x1)), (2, .ref (ad x2)), (3, .ref (ad x3))]) E dX2_becomeSlopesOfRight_13 (by decide) rfl ?_
  refine j_perm (lv' := [(0, .ref (ad x0)), (1, .ref (ad x1)), (2, .ref (ad x2)), (3, .ref (ad x3)), (4, .int 0)]) [1, 2, 3, 4, 0] rfl ?_
  refine w_X2_becomeSlopesOfRight_15 E hr hlk x0 x1 x2 x3 FU _ h4 0 (fun h19 hf => ?_) hf
  cases hf
  exact j_vret E hr hlk dX2_becomeSlopesOfRight_72
noncomputable def L_X3_areBelow_2 (h : HP) (x0 : Nat) (x1 : Int32) : Nat → (Option (Int32)) → Int32 → Option (Int32)
  | 0, _, _ => none
  | n + 1, k, x2 =>
      if 16 ≤ x2 then (
        k
      ) else (
        (gI 2 h x0 0).bind fun v2 =>
        if v2 ≤ x2 then (
          k
        ) else (
          (gR 2 h x0 1).bind fun v4 =>
          (aI h v4 x2).bind fun v5 =>
          if v5 < x1 then (
            L_X3_areBelow_2 h x0 x1 n k (x2 + 1)
          ) else (
            some 0
          )
        )
      )
noncomputable def f_X3_areBelow (h : HP) (x0 : Nat) (x1 : Int32) : Option (Int32) :=
  L_X3_areBelow_2 h x0 x1 FU (
    some 1) 0
abbrev rmX3_areBelow : Room := { frames := 0, cells := 0, slots := 0, locals := 0 }
theorem hd_X3_areBelow : yX3_areBelow.cls = RX3 ∧ yX3_areBelow.cls ≠ "java/lang/invoke/MethodHandle" ∧ yX3_areBelow.cls ≠ "java/lang/invoke/VarHandle" ∧ (parseMethodDescriptor yX3_areBelow.desc).map (fun d => d.parameters.length) = some 1 := by decide +kernel
set_option maxRecDepth 100000 in
set_option maxHeartbeats 4000000 in
theorem w_X3_areBelow_2 {p : Program} {l : Launch} {e : Env} {s : State} {m : MethodId} {args : Array Value} {below : List Frame} {meth : Method} {c : Code} {D : va_G} {ad : Nat → Nat} {cy : Nat → ClassId} (E : EE p s m args c cX3_areBelow 3 (wsM yX3_areBelow cX3_areBelow 3 (some .boolean)) RX3 D cy) (hr : meth.sig.returnType = (some .boolean)) (hlk : meth.locks = false) {r : Int32} (h : HP) (x0 : Nat) (x1 : Int32) : ∀ (n : Nat) (k : (Option (Int32))) (x2 : Int32), (k = some r → JJ p l e rmX3_areBelow s m args below meth c 0 0 (MQ below (QV D ad cy (some (.int r)) h) args s 0 0 (Aw ad)) D ad cy (Aw ad) 3 h [] 34 []) → L_X3_areBelow_2 h x0 x1 n k x2 = some r → JJ p l e rmX3_areBelow s m args below meth c 0 0 (MQ below (QV D ad cy (some (.int r)) h) args s 0 0 (Aw ad)) D ad cy (Aw ad) 3 h [(0, .ref (ad x0)), (1, .int x1), (2, .int x2)] 2 [] := by
  intro n
  induction n with
  | zero => intro k x2 hk hf; cases hf
  | succ n ih =>
    intro k x2 hk hf
    unfold L_X3_areBelow_2 at hf
    refine j_iload_n E 2 rfl dX3_areBelow_2 rfl ?_
    refine j_bipush (v := 16) E dX3_areBelow_3 (by decide) ?_
    refine j_icmp_ge (tgt := 34) E dX3_areBelow_5 (by decide) (fun z1 => ?_) (fun z1 => ?_)
    · have hf := ifp hf z1
      refine j_perm (lv' := []) [] rfl ?_
      exact hk hf
    · have hf := ifn hf z1
      refine j_iload_n E 2 rfl dX3_areBelow_8 rfl ?_
      refine j_aload_n E 0 rfl dX3_areBelow_9 rfl ?_
      obtain ⟨v2, ev2, hf⟩ := bs hf
      refine j_getI (ci := 2) (k0 := 0) (T := TX3) (N := 2) E (mI inUX3) rfl (by decide) (mU uw_1_97) ev2 dX3_areBelow_10 ?_
      refine j_icmp_ge (tgt := 34) E dX3_areBelow_13 (by decide) (fun z3 => ?_) (fun z3 => ?_)
      · have hf := ifp hf z3
        refine j_perm (lv' := []) [] rfl ?_
        exact hk hf
      · have hf := ifn hf z3
        refine j_aload_n E 0 rfl dX3_areBelow_16 rfl ?_
        obtain ⟨v4, ev4, hf⟩ := bs hf
        refine j_getR (ci := 2) (k0 := 1) (T := TX3) (N := 2) E (mI inUX3) rfl (by decide) (mU uw_1_101) ev4 dX3_areBelow_17 ?_
        refine j_iload_n E 2 rfl dX3_areBelow_20 rfl ?_
        obtain ⟨v5, ev5, hf⟩ := bs hf
        refine j_aI E ev5 dX3_areBelow_21 ?_
        refine j_iload_n E 1 rfl dX3_areBelow_22 rfl ?_
        refine j_icmp_lt (tgt := 28) E dX3_areBelow_23 (by decide) (fun z6 => ?_) (fun z6 => ?_)
        · have hf := ifp hf z6
          refine j_iinc (v := (x2 + 1)) (k0 := 2) (lv' := [(2, .int (x2 + 1)), (0, .ref (ad x0)), (1, .int x1)]) E dX3_areBelow_28 rfl (congrArg (fun z => x2 + z) (by decide)) (by decide) rfl ?_
          refine j_goto (tgt := 2) E dX3_areBelow_31 (by decide) ?_
          refine j_perm (lv' := [(0, .ref (ad x0)), (1, .int x1), (2, .int (x2 + 1))]) [1, 2, 0] rfl ?_
          exact ih k (x2 + 1) hk hf
        · have hf := ifn hf z6
          refine j_iconst (v := 0) E dX3_areBelow_26 (by decide) ?_
          cases hf
          exact j_zret E hr hlk rfl dX3_areBelow_27
set_option maxRecDepth 100000 in
set_option maxHeartbeats 4000000 in
theorem c_X3_areBelow (l : Launch) (D : va_G) (ad : Nat → Nat) (cy : Nat → ClassId) (h : HP) (x0 : Nat) (x1 : Int32) {r : Int32} (hf : f_X3_areBelow h x0 x1 = some r) : Met l yX3_areBelow (wsM yX3_areBelow cX3_areBelow 3 (some .boolean)) rmX3_areBelow (va_Pc [.ref (ad x0), .int x1] (PW D ad cy h)) (QV D ad cy (some (.int r)) h) 0 0 (Aw ad) := by
  refine met_of (own := RX3) (lv := [(0, .ref (ad x0)), (1, .int x1)]) (by decide) rfl (Nat.le_of_ble_eq_true rfl) rfl (fun p e s m args below meth c E hr hlk => ?_)
  unfold f_X3_areBelow at hf
  refine j_iconst (v := 0) E dX3_areBelow_0 (by decide) ?_
  refine j_istore_n (lv' := [(2, .int 0), (0, .ref (ad x0)), (1, .int x1)]) E dX3_areBelow_1 rfl (by decide) rfl ?_
  refine j_perm (lv' := [(0, .ref (ad x0)), (1, .int x1), (2, .int 0)]) [1, 2, 0] rfl ?_
  refine w_X3_areBelow_2 E hr hlk h x0 x1 FU _ 0 (fun hf => ?_) hf
  refine j_iconst (v := 1) E dX3_areBelow_34 (by decide) ?_
  cases hf
  exact j_zret E hr hlk rfl dX3_areBelow_35
noncomputable def L_X3_areEachBelowOnce_4 (h : HP) (x0 : Nat) : Nat → (Int32 → Option (Int32)) → Int32 → Int32 → Option (Int32)
  | 0, _, _, _ => none
  | n + 1, k, x2, x3 =>
      if 16 ≤ x3 then (
        k x2
      ) else (
        (gI 2 h x0 0).bind fun v2 =>
        if v2 ≤ x3 then (
          k x2
        ) else (
          (gR 2 h x0 1).bind fun v4 =>
          (aI h v4 x3).bind fun v5 =>
          L_X3_areEachBelowOnce_4 h x0 n k (x2 ||| (1 <<< (v5 &&& 31))) (x3 + 1)
        )
      )
noncomputable def f_X3_areEachBelowOnce (h : HP) (x0 : Nat) (x1 : Int32) : Option (Int32) :=
  L_X3_areEachBelowOnce_4 h x0 FU (fun x6 =>
    (gI 2 h x0 0).bind fun v7 =>
    if v7 = x1 then (
      ck 2 h x0 <|
      (f_X3_areBelow h x0 x1).bind fun v10 =>
      if v10 = 0 then (
        some 0
      ) else (
        (f_J6_bitCount_0f7a4 x6).bind fun v13 =>
        if v13 = x1 then (
          some 1
        ) else (
          some 0
        )
      )
    ) else (
      some 0
    )) 0 0
abbrev rmX3_areEachBelowOnce : Room := { frames := 1, cells := 0, slots := 0, locals := 22 }
theorem hd_X3_areEachBelowOnce : yX3_areEachBelowOnce.cls = RX3 ∧ yX3_areEachBelowOnce.cls ≠ "java/lang/invoke/MethodHandle" ∧ yX3_areEachBelowOnce.cls ≠ "java/lang/invoke/VarHandle" ∧ (parseMethodDescriptor yX3_areEachBelowOnce.desc).map (fun d => d.parameters.length) = some 1 := by decide +kernel
set_option maxRecDepth 100000 in
set_option maxHeartbeats 4000000 in
theorem w_X3_areEachBelowOnce_4 {p : Program} {l : Launch} {e : Env} {s : State} {m : MethodId} {args : Array Value} {below : List Frame} {meth : Method} {c : Code} {D : va_G} {ad : Nat → Nat} {cy : Nat → ClassId} (E : EE p s m args c cX3_areEachBelowOnce 4 (wsM yX3_areEachBelowOnce cX3_areEachBelowOnce 4 (some .boolean)) RX3 D cy) (hr : meth.sig.returnType = (some .boolean)) (hlk : meth.locks = false) {r : Int32} (h : HP) (x0 : Nat) (x1 : Int32) : ∀ (n : Nat) (k : (Int32 → Option (Int32))) (x2 : Int32) (x3 : Int32), (∀ (x2 : Int32), k x2 = some r → JJ p l e rmX3_areEachBelowOnce s m args below meth c 0 0 (MQ below (QV D ad cy (some (.int r)) h) args s 0 0 (Aw ad)) D ad cy (Aw ad) 4 h [(0, .ref (ad x0)), (1, .int x1), (2, .int x2)] 35 []) → L_X3_areEachBelowOnce_4 h x0 n k x2 x3 = some r → JJ p l e rmX3_areEachBelowOnce s m args below meth c 0 0 (MQ below (QV D ad cy (some (.int r)) h) args s 0 0 (Aw ad)) D ad cy (Aw ad) 4 h [(0, .ref (ad x0)), (1, .int x1), (2, .int x2), (3, .int x3)] 4 [] := by
  intro n
  induction n with
  | zero => intro k x2 x3 hk hf; cases hf
  | succ n ih =>
    intro k x2 x3 hk hf
    unfold L_X3_areEachBelowOnce_4 at hf
    refine j_iload_n E 3 rfl dX3_areEachBelowOnce_4 rfl ?_
    refine j_bipush (v := 16) E dX3_areEachBelowOnce_5 (by decide) ?_
    refine j_icmp_ge (tgt := 35) E dX3_areEachBelowOnce_7 (by decide) (fun z1 => ?_) (fun z1 => ?_)
    · have hf := ifp hf z1
      refine j_perm (lv' := [(0, .ref (ad x0)), (1, .int x1), (2, .int x2)]) [0, 1, 2] rfl ?_
      exact hk x2 hf
    · have hf := ifn hf z1
      refine j_iload_n E 3 rfl dX3_areEachBelowOnce_10 rfl ?_
      refine j_aload_n E 0 rfl dX3_areEachBelowOnce_11 rfl ?_
      obtain ⟨v2, ev2, hf⟩ := bs hf
      refine j_getI (ci := 2) (k0 := 0) (T := TX3) (N := 2) E (mI inUX3) rfl (by decide) (mU uw_1_97) ev2 dX3_areEachBelowOnce_12 ?_
      refine j_icmp_ge (tgt := 35) E dX3_areEachBelowOnce_15 (by decide) (fun z3 => ?_) (fun z3 => ?_)
      · have hf := ifp hf z3
        refine j_perm (lv' := [(0, .ref (ad x0)), (1, .int x1), (2, .int x2)]) [0, 1, 2] rfl ?_
        exact hk x2 hf
      · have hf := ifn hf z3
        refine j_iload_n E 2 rfl dX3_areEachBelowOnce_18 rfl ?_
        refine j_iconst (v := 1) E dX3_areEachBelowOnce_19 (by decide) ?_
        refine j_aload_n E 0 rfl dX3_areEachBelowOnce_20 rfl ?_
        obtain ⟨v4, ev4, hf⟩ := bs hf
        refine j_getR (ci := 2) (k0 := 1) (T := TX3) (N := 2) E (mI inUX3) rfl (by decide) (mU uw_1_101) ev4 dX3_areEachBelowOnce_21 ?_
        refine j_iload_n E 3 rfl dX3_areEachBelowOnce_24 rfl ?_
        obtain ⟨v5, ev5, hf⟩ := bs hf
        refine j_aI E ev5 dX3_areEachBelowOnce_25 ?_
        refine j_ishl E dX3_areEachBelowOnce_26 ?_
        refine j_ior E dX3_areEachBelowOnce_27 ?_
        refine j_istore_n (lv' := [(2, .int (x2 ||| (1 <<< (v5 &&& 31)))), (0, .ref (ad x0)), (1, .int x1), (3, .int x3)]) E dX3_areEachBelowOnce_28 rfl (by decide) rfl ?_
        refine j_iinc (v := (x3 + 1)) (k0 := 3) (lv' := [(3, .int (x3 + 1)), (2, .int (x2 ||| (1 <<< (v5 &&& 31)))), (0, .ref (ad x0)), (1, .int x1)]) E dX3_areEachBelowOnce_29 rfl (congrArg (fun z => x3 + z) (by decide)) (by decide) rfl ?_
        refine j_goto (tgt := 4) E dX3_areEachBelowOnce_32 (by decide) ?_
        refine j_perm (lv' := [(0, .ref (ad x0)), (1, .int x1), (2, .int (x2 ||| (1 <<< (v5 &&& 31)))), (3, .int (x3 + 1))]) [2, 3, 1, 0] rfl ?_
        exact ih k (x2 ||| (1 <<< (v5 &&& 31))) (x3 + 1) hk hf
set_option maxRecDepth 100000 in
set_option maxHeartbeats 4000000 in
theorem c_X3_areEachBelowOnce (l : Launch) (D : va_G) (ad : Nat → Nat) (cy : Nat → ClassId) (h : HP) (x0 : Nat) (x1 : Int32) {r : Int32} (hf : f_X3_areEachBelowOnce h x0 x1 = some r) : Met l yX3_areEachBelowOnce (wsM yX3_areEachBelowOnce cX3_areEachBelowOnce 4 (some .boolean)) rmX3_areEachBelowOnce (va_Pc [.ref (ad x0), .int x1] (PW D ad cy h)) (QV D ad cy (some (.int r)) h) 0 0 (Aw ad) := by
  refine met_of (own := RX3) (lv := [(0, .ref (ad x0)), (1, .int x1)]) (by decide) rfl (Nat.le_of_ble_eq_true rfl) rfl (fun p e s m args below meth c E hr hlk => ?_)
  unfold f_X3_areEachBelowOnce at hf
  refine j_iconst (v := 0) E dX3_areEachBelowOnce_0 (by decide) ?_
  refine j_istore_n (lv' := [(2, .int 0), (0, .ref (ad x0)), (1, .int x1)]) E dX3_areEachBelowOnce_1 rfl (by decide) rfl ?_
  refine j_iconst (v := 0) E dX3_areEachBelowOnce_2 (by decide) ?_
  refine j_istore_n (lv' := [(3, .int 0), (2, .int 0), (0, .ref (ad x0)), (1, .int x1)]) E dX3_areEachBelowOnce_3 rfl (by decide) rfl ?_
  refine j_perm (lv' := [(0, .ref (ad x0)), (1, .int x1), (2, .int 0), (3, .int 0)]) [2, 3, 1, 0] rfl ?_
  refine w_X3_areEachBelowOnce_4 E hr hlk h x0 x1 FU _ 0 0 (fun x6 hf => ?_) hf
  refine j_aload_n E 0 rfl dX3_areEachBelowOnce_35 rfl ?_
  obtain ⟨v7, ev7, hf⟩ := bs hf
  refine j_getI (ci := 2) (k0 := 0) (T := TX3) (N := 2) E (mI inUX3) rfl (by decide) (mU uw_1_97) ev7 dX3_areEachBelowOnce_36 ?_
  refine j_iload_n E 1 rfl dX3_areEachBelowOnce_39 rfl ?_
  refine j_icmp_ne (tgt := 63) E dX3_areEachBelowOnce_40 (by decide) (fun z8 => ?_) (fun z8 => ?_)
  · have hf := ifn hf z8
    refine j_iconst (v := 0) E dX3_areEachBelowOnce_63 (by decide) ?_
    cases hf
    exact j_zret E hr hlk rfl dX3_areEachBelowOnce_64
  · have hf := ifp hf z8
    refine j_aload_n E 0 rfl dX3_areEachBelowOnce_43 rfl ?_
    refine j_iload_n E 1 rfl dX3_areEachBelowOnce_44 rfl ?_
    obtain ⟨k9, hf⟩ := ck_spec hf
    obtain ⟨v10, e11, hf⟩ := bs hf
    refine j_callV (ci := 2) (b := x0) (As := [.int x1]) (rest := []) (v := (some (.int v10))) E (c_X3_areBelow l D ad cy h x0 x1 e11) (mcw E.1.2.2.2.2 uw_2_114 uw_3_96 uw_2_112 uw_2_113 uw_1_5 rfl rfl hd_X3_areBelow ⟨by decide, by decide⟩) rfl k9 rfl rfl (Nat.le_of_ble_eq_true rfl) dX3_areEachBelowOnce_45 ⟨Nat.zero_le _, Nat.zero_le _⟩ ?_
    refine j_stk (st' := [.int v10]) rfl ?_
    refine j_if_eq (tgt := 63) E dX3_areEachBelowOnce_48 (by decide) (fun z12 => ?_) (fun z12 => ?_)
    · have hf := ifp hf z12
      refine j_iconst (v := 0) E dX3_areEachBelowOnce_63 (by decide) ?_
      cases hf
      exact j_zret E hr hlk rfl dX3_areEachBelowOnce_64
    · have hf := ifn hf z12
      refine j_iload_n E 2 rfl dX3_areEachBelowOnce_51 rfl ?_
      obtain ⟨v13, e14, hf⟩ := bs hf
      refine j_callS (As := [.int x6]) (rest := []) (v := (some (.int v13))) E (c_J6_bitCount_0f7a4 l D ad cy h x6 e14) (mcs E.1.2.2.2.2 uw_1_154 uw_3_97 uw_1_153 uw_1_7 rfl rfl hd_J6_bitCount_0f7a4 ⟨by decide, by decide⟩) rfl rfl (Nat.le_of_ble_eq_true rfl) dX3_areEachBelowOnce_52 ⟨Nat.zero_le _, Nat.zero_le _⟩ ?_
      refine j_stk (st' := [.int v13]) rfl ?_
      refine j_iload_n E 1 rfl dX3_areEachBelowOnce_55 rfl ?_
      refine j_icmp_ne (tgt := 63) E dX3_areEachBelowOnce_56 (by decide) (fun z15 => ?_) (fun z15 => ?_)
      · have hf := ifn hf z15
        refine j_iconst (v := 0) E dX3_areEachBelowOnce_63 (by decide) ?_
        cases hf
        exact j_zret E hr hlk rfl dX3_areEachBelowOnce_64
      · have hf := ifp hf z15
        refine j_iconst (v := 1) E dX3_areEachBelowOnce_59 (by decide) ?_
        refine j_goto (tgt := 64) E dX3_areEachBelowOnce_60 (by decide) ?_
        cases hf
        exact j_zret E hr hlk rfl dX3_areEachBelowOnce_64
noncomputable def f_X4_append (h : HP) (x0 : Nat) (x1 : Int32) (x2 : Int32) (x3 : Int64) : Option (HP) :=
  (gI 3 h x0 0).bind fun v1 =>
  if v1 < 0 then (
    some h
  ) else (
    (gI 3 h x0 0).bind fun v3 =>
    if 64 ≤ v3 then (
      some h
    ) else (
      (gR 3 h x0 1).bind fun v5 =>
      (gI 3 h x0 0).bind fun v6 =>
      (sI h v5 v6 x1).bind fun h7 =>
      (gR 3 h7 x0 2).bind fun v8 =>
      (gI 3 h7 x0 0).bind fun v9 =>
      (sI h7 v8 v9 x2).bind fun h10 =>
      (gR 3 h10 x0 3).bind fun v11 =>
      (gI 3 h10 x0 0).bind fun v12 =>
      (sJ h10 v11 v12 x3).bind fun h13 =>
      (gI 3 h13 x0 0).bind fun v14 =>
      (pI 3 h13 x0 0 (v14 + 1)).bind fun h15 =>
      some h15
    )
  )
abbrev rmX4_append : Room := { frames := 0, cells := 0, slots := 0, locals := 0 }
theorem hd_X4_append : yX4_append.cls = RX4 ∧ yX4_append.cls ≠ "java/lang/invoke/MethodHandle" ∧ yX4_append.cls ≠ "java/lang/invoke/VarHandle" ∧ (parseMethodDescriptor yX4_append.desc).map (fun d => d.parameters.length) = some 3 := by decide +kernel
set_option maxRecDepth 100000 in
set_option maxHeartbeats 4000000 in
theorem c_X4_append (l : Launch) (D : va_G) (ad : Nat → Nat) (cy : Nat → ClassId) (h : HP) (x0 : Nat) (x1 : Int32) (x2 : Int32) (x3 : Int64) {h' : HP} (hf : f_X4_append h x0 x1 x2 x3 = some h') : Met l yX4_append (wsM yX4_append cX4_append 5 none) rmX4_append (va_Pc [.ref (ad x0), .int x1, .int x2, .long x3] (PW D ad cy h)) (QV D ad cy none h') 0 0 (Aw ad) := by
  refine met_of (own := RX4) (lv := [(0, .ref (ad x0)), (1, .int x1), (2, .int x2), (3, .long x3)]) (by decide) rfl (Nat.le_of_ble_eq_true rfl) rfl (fun p e s m args below meth c E hr hlk => ?_)
  unfold f_X4_append at hf
  refine j_aload_n E 0 rfl dX4_append_0 rfl ?_
  obtain ⟨v1, ev1, hf⟩ := bs hf
  refine j_getI (ci := 3) (k0 := 0) (T := TX4) (N := 4) E (mI inUX4) rfl (by decide) (mU uw_1_27) ev1 dX4_append_1 ?_
  refine j_if_lt (tgt := 56) E dX4_append_4 (by decide) (fun z2 => ?_) (fun z2 => ?_)
  · have hf := ifp hf z2
    cases hf
    exact j_vret E hr hlk dX4_append_56
  · have hf := ifn hf z2
    refine j_aload_n E 0 rfl dX4_append_7 rfl ?_
    obtain ⟨v3, ev3, hf⟩ := bs hf
    refine j_getI (ci := 3) (k0 := 0) (T := TX4) (N := 4) E (mI inUX4) rfl (by decide) (mU uw_1_27) ev3 dX4_append_8 ?_
    refine j_bipush (v := 64) E dX4_append_11 (by decide) ?_
    refine j_icmp_ge (tgt := 56) E dX4_append_13 (by decide) (fun z4 => ?_) (fun z4 => ?_)
    · have hf := ifp hf z4
      cases hf
      exact j_vret E hr hlk dX4_append_56
    · have hf := ifn hf z4
      refine j_aload_n E 0 rfl dX4_append_16 rfl ?_
      obtain ⟨v5, ev5, hf⟩ := bs hf
      refine j_getR (ci := 3) (k0 := 1) (T := TX4) (N := 4) E (mI inUX4) rfl (by decide) (mU uw_1_29) ev5 dX4_append_17 ?_
      refine j_aload_n E 0 rfl dX4_append_20 rfl ?_
      obtain ⟨v6, ev6, hf⟩ := bs hf
      refine j_getI (ci := 3) (k0 := 0) (T := TX4) (N := 4) E (mI inUX4) rfl (by decide) (mU uw_1_27) ev6 dX4_append_21 ?_
      refine j_iload_n E 1 rfl dX4_append_24 rfl ?_
      obtain ⟨h7, eh7, hf⟩ := bs hf
      refine j_sI E eh7 dX4_append_25 ?_
      refine j_aload_n E 0 rfl dX4_append_26 rfl ?_
      obtain ⟨v8, ev8, hf⟩ := bs hf
      refine j_getR (ci := 3) (k0 := 2) (T := TX4) (N := 4) E (mI inUX4) rfl (by decide) (mU uw_1_30) ev8 dX4_append_27 ?_
      refine j_aload_n E 0 rfl dX4_append_30 rfl ?_
      obtain ⟨v9, ev9, hf⟩ := bs hf
      refine j_getI (ci := 3) (k0 := 0) (T := TX4) (N := 4) E (mI inUX4) rfl (by decide) (mU uw_1_27) ev9 dX4_append_31 ?_
      refine j_iload_n E 2 rfl dX4_append_34 rfl ?_
      obtain ⟨h10, eh10, hf⟩ := bs hf
      refine j_sI E eh10 dX4_append_35 ?_
      refine j_aload_n E 0 rfl dX4_append_36 rfl ?_
      obtain ⟨v11, ev11, hf⟩ := bs hf
      refine j_getR (ci := 3) (k0 := 3) (T := TX4) (N := 4) E (mI inUX4) rfl (by decide) (mU uw_1_31) ev11 dX4_append_37 ?_
      refine j_aload_n E 0 rfl dX4_append_40 rfl ?_
      obtain ⟨v12, ev12, hf⟩ := bs hf
      refine j_getI (ci := 3) (k0 := 0) (T := TX4) (N := 4) E (mI inUX4) rfl (by decide) (mU uw_1_27) ev12 dX4_append_41 ?_
      refine j_lload_n E 3 rfl dX4_append_44 rfl ?_
      obtain ⟨h13, eh13, hf⟩ := bs hf
      refine j_sJ E eh13 dX4_append_45 ?_
      refine j_aload_n E 0 rfl dX4_append_46 rfl ?_
      refine j_dup E dX4_append_47 rfl ?_
      obtain ⟨v14, ev14, hf⟩ := bs hf
      refine j_getI (ci := 3) (k0 := 0) (T := TX4) (N := 4) E (mI inUX4) rfl (by decide) (mU uw_1_27) ev14 dX4_append_48 ?_
      refine j_iconst (v := 1) E dX4_append_51 (by decide) ?_
      refine j_iadd E dX4_append_52 ?_
      obtain ⟨h15, eh15, hf⟩ := bs hf
      refine j_putI (ci := 3) (k0 := 0) (T := TX4) (N := 4) E (mI inUX4) rfl (by decide) (mU uw_1_27) tyX4 tyX4_ok nmX4 rfl (by decide +kernel) eh15 dX4_append_53 ?_
      cases hf
      exact j_vret E hr hlk dX4_append_56
noncomputable def f_X4_clear (h : HP) (x0 : Nat) : Option (HP) :=
  (pI 3 h x0 0 0).bind fun h1 =>
  some h1
abbrev rmX4_clear : Room := { frames := 0, cells := 0, slots := 0, locals := 0 }
theorem hd_X4_clear : yX4_clear.cls = RX4 ∧ yX4_clear.cls ≠ "java/lang/invoke/MethodHandle" ∧ yX4_clear.cls ≠ "java/lang/invoke/VarHandle" ∧ (parseMethodDescriptor yX4_clear.desc).map (fun d => d.parameters.length) = some 0 := by decide +kernel
set_option maxRecDepth 100000 in
set_option maxHeartbeats 4000000 in
theorem c_X4_clear (l : Launch) (D : va_G) (ad : Nat → Nat) (cy : Nat → ClassId) (h : HP) (x0 : Nat) {h' : HP} (hf : f_X4_clear h x0 = some h') : Met l yX4_clear (wsM yX4_clear cX4_clear 1 none) rmX4_clear (va_Pc [.ref (ad x0)] (PW D ad cy h)) (QV D ad cy none h') 0 0 (Aw ad) := by
  refine met_of (own := RX4) (lv := [(0, .ref (ad x0))]) (by decide) rfl (Nat.le_of_ble_eq_true rfl) rfl (fun p e s m args below meth c E hr hlk => ?_)
  unfold f_X4_clear at hf
  refine j_aload_n E 0 rfl dX4_clear_0 rfl ?_
  refine j_iconst (v := 0) E dX4_clear_1 (by decide) ?_
  obtain ⟨h1, eh1, hf⟩ := bs hf
  refine j_putI (ci := 3) (k0 := 0) (T := TX4) (N := 4) E (mI inUX4) rfl (by decide) (mU uw_1_27) tyX4 tyX4_ok nmX4 rfl (by decide +kernel) eh1 dX4_clear_2 ?_
  cases hf
  exact j_vret E hr hlk dX4_clear_5
noncomputable def L_X4_lieIn_2 (h : HP) (x0 : Nat) (x1 : Nat) : Nat → (Option (Int32)) → Int32 → Option (Int32)
  | 0, _, _ => none
  | n + 1, k, x2 =>
      if 64 ≤ x2 then (
        k
      ) else (
        (gI 3 h x0 0).bind fun v2 =>
        if v2 ≤ x2 then (
          k
        ) else (
          (gR 3 h x0 1).bind fun v4 =>
          (aI h v4 x2).bind fun v5 =>
          (gR 3 h x0 2).bind fun v6 =>
          (aI h v6 x2).bind fun v7 =>
          ck 1 h x1 <|
          (f_X2_covers h x1 v5 v7).bind fun v9 =>
          if v9 = 0 then (
            some 0
          ) else (
            L_X4_lieIn_2 h x0 x1 n k (x2 + 1)
          )
        )
      )
noncomputable def f_X4_lieIn (h : HP) (x0 : Nat) (x1 : Nat) : Option (Int32) :=
  L_X4_lieIn_2 h x0 x1 FU (
    some 1) 0
abbrev rmX4_lieIn : Room := { frames := 2, cells := 0, slots := 0, locals := 43 }
theorem hd_X4_lieIn : yX4_lieIn.cls = RX4 ∧ yX4_lieIn.cls ≠ "java/lang/invoke/MethodHandle" ∧ yX4_lieIn.cls ≠ "java/lang/invoke/VarHandle" ∧ (parseMethodDescriptor yX4_lieIn.desc).map (fun d => d.parameters.length) = some 1 := by decide +kernel
set_option maxRecDepth 100000 in
set_option maxHeartbeats 4000000 in
theorem w_X4_lieIn_2 {p : Program} {l : Launch} {e : Env} {s : State} {m : MethodId} {args : Array Value} {below : List Frame} {meth : Method} {c : Code} {D : va_G} {ad : Nat → Nat} {cy : Nat → ClassId} (E : EE p s m args c cX4_lieIn 3 (wsM yX4_lieIn cX4_lieIn 3 (some .boolean)) RX4 D cy) (hr : meth.sig.returnType = (some .boolean)) (hlk : meth.locks = false) {r : Int32} (h : HP) (x0 : Nat) (x1 : Nat) : ∀ (n : Nat) (k : (Option (Int32))) (x2 : Int32), (k = some r → JJ p l e rmX4_lieIn s m args below meth c 0 0 (MQ below (QV D ad cy (some (.int r)) h) args s 0 0 (Aw ad)) D ad cy (Aw ad) 3 h [] 43 []) → L_X4_lieIn_2 h x0 x1 n k x2 = some r → JJ p l e rmX4_lieIn s m args below meth c 0 0 (MQ below (QV D ad cy (some (.int r)) h) args s 0 0 (Aw ad)) D ad cy (Aw ad) 3 h [(0, .ref (ad x0)), (1, .ref (ad x1)), (2, .int x2)] 2 [] := by
  intro n
  induction n with
  | zero => intro k x2 hk hf; cases hf
  | succ n ih =>
    intro k x2 hk hf
    unfold L_X4_lieIn_2 at hf
    refine j_iload_n E 2 rfl dX4_lieIn_2 rfl ?_
    refine j_bipush (v := 64) E dX4_lieIn_3 (by decide) ?_
    refine j_icmp_ge (tgt := 43) E dX4_lieIn_5 (by decide) (fun z1 => ?_) (fun z1 => ?_)
    · have hf := ifp hf z1
      refine j_perm (lv' := []) [] rfl ?_
      exact hk hf
    · have hf := ifn hf z1
      refine j_iload_n E 2 rfl dX4_lieIn_8 rfl ?_
      refine j_aload_n E 0 rfl dX4_lieIn_9 rfl ?_
      obtain ⟨v2, ev2, hf⟩ := bs hf
      refine j_getI (ci := 3) (k0 := 0) (T := TX4) (N := 4) E (mI inUX4) rfl (by decide) (mU uw_1_27) ev2 dX4_lieIn_10 ?_
      refine j_icmp_ge (tgt := 43) E dX4_lieIn_13 (by decide) (fun z3 => ?_) (fun z3 => ?_)
      · have hf := ifp hf z3
        refine j_perm (lv' := []) [] rfl ?_
        exact hk hf
      · have hf := ifn hf z3
        refine j_aload_n E 1 rfl dX4_lieIn_16 rfl ?_
        refine j_aload_n E 0 rfl dX4_lieIn_17 rfl ?_
        obtain ⟨v4, ev4, hf⟩ := bs hf
        refine j_getR (ci := 3) (k0 := 1) (T := TX4) (N := 4) E (mI inUX4) rfl (by decide) (mU uw_1_29) ev4 dX4_lieIn_18 ?_
        refine j_iload_n E 2 rfl dX4_lieIn_21 rfl ?_
        obtain ⟨v5, ev5, hf⟩ := bs hf
        refine j_aI E ev5 dX4_lieIn_22 ?_
        refine j_aload_n E 0 rfl dX4_lieIn_23 rfl ?_
        obtain ⟨v6, ev6, hf⟩ := bs hf
        refine j_getR (ci := 3) (k0 := 2) (T := TX4) (N := 4) E (mI inUX4) rfl (by decide) (mU uw_1_30) ev6 dX4_lieIn_24 ?_
        refine j_iload_n E 2 rfl dX4_lieIn_27 rfl ?_
        obtain ⟨v7, ev7, hf⟩ := bs hf
        refine j_aI E ev7 dX4_lieIn_28 ?_
        obtain ⟨k8, hf⟩ := ck_spec hf
        obtain ⟨v9, e10, hf⟩ := bs hf
        refine j_callV (ci := 1) (b := x1) (As := [.int v5, .int v7]) (rest := []) (v := (some (.int v9))) E (c_X2_covers l D ad cy h x1 v5 v7 e10) (mcw E.1.2.2.2.2 uw_1_201 uw_1_198 uw_1_199 uw_1_200 uw_1_4 rfl rfl hd_X2_covers ⟨by decide, by decide⟩) rfl k8 rfl rfl (Nat.le_of_ble_eq_true rfl) dX4_lieIn_29 ⟨Nat.zero_le _, Nat.zero_le _⟩ ?_
        refine j_stk (st' := [.int v9]) rfl ?_
        refine j_if_ne (tgt := 37) E dX4_lieIn_32 (by decide) (fun z11 => ?_) (fun z11 => ?_)
        · have hf := ifn hf z11
          refine j_iinc (v := (x2 + 1)) (k0 := 2) (lv' := [(2, .int (x2 + 1)), (0, .ref (ad x0)), (1, .ref (ad x1))]) E dX4_lieIn_37 rfl (congrArg (fun z => x2 + z) (by decide)) (by decide) rfl ?_
          refine j_goto (tgt := 2) E dX4_lieIn_40 (by decide) ?_
          refine j_perm (lv' := [(0, .ref (ad x0)), (1, .ref (ad x1)), (2, .int (x2 + 1))]) [1, 2, 0] rfl ?_
          exact ih k (x2 + 1) hk hf
        · have hf := ifp hf z11
          refine j_iconst (v := 0) E dX4_lieIn_35 (by decide) ?_
          cases hf
          exact j_zret E hr hlk rfl dX4_lieIn_36
set_option maxRecDepth 100000 in
set_option maxHeartbeats 4000000 in
theorem c_X4_lieIn (l : Launch) (D : va_G) (ad : Nat → Nat) (cy : Nat → ClassId) (h : HP) (x0 : Nat) (x1 : Nat) {r : Int32} (hf : f_X4_lieIn h x0 x1 = some r) : Met l yX4_lieIn (wsM yX4_lieIn cX4_lieIn 3 (some .boolean)) rmX4_lieIn (va_Pc [.ref (ad x0), .ref (ad x1)] (PW D ad cy h)) (QV D ad cy (some (.int r)) h) 0 0 (Aw ad) := by
  refine met_of (own := RX4) (lv := [(0, .ref (ad x0)), (1, .ref (ad x1))]) (by decide) rfl (Nat.le_of_ble_eq_true rfl) rfl (fun p e s m args below meth c E hr hlk => ?_)
  unfold f_X4_lieIn at hf
  refine j_iconst (v := 0) E dX4_lieIn_0 (by decide) ?_
  refine j_istore_n (lv' := [(2, .int 0), (0, .ref (ad x0)), (1, .ref (ad x1))]) E dX4_lieIn_1 rfl (by decide) rfl ?_
  refine j_perm (lv' := [(0, .ref (ad x0)), (1, .ref (ad x1)), (2, .int 0)]) [1, 2, 0] rfl ?_
  refine w_X4_lieIn_2 E hr hlk h x0 x1 FU _ 0 (fun hf => ?_) hf
  refine j_iconst (v := 1) E dX4_lieIn_43 (by decide) ?_
  cases hf
  exact j_zret E hr hlk rfl dX4_lieIn_44
noncomputable def L_X4_addTo_2 (x0 : Nat) (x1 : Nat) : Nat → (HP → Option (HP)) → HP → Int32 → Option (HP)
  | 0, _, _, _ => none
  | n + 1, k, h, x2 =>
      if 64 ≤ x2 then (
        k h
      ) else (
        (gI 3 h x0 0).bind fun v2 =>
        if v2 ≤ x2 then (
          k h
        ) else (
          (gR 3 h x0 1).bind fun v4 =>
          (aI h v4 x2).bind fun v5 =>
          (gR 3 h x0 2).bind fun v6 =>
          (aI h v6 x2).bind fun v7 =>
          (gR 3 h x0 3).bind fun v8 =>
          (aJ h v8 x2).bind fun v9 =>
          ck 1 h x1 <|
          (f_X2_putSum h x1 v5 v7 v9).bind fun h11 =>
          L_X4_addTo_2 x0 x1 n k h11 (x2 + 1)
        )
      )
noncomputable def f_X4_addTo (h : HP) (x0 : Nat) (x1 : Nat) : Option (HP) :=
  L_X4_addTo_2 x0 x1 FU (fun h13 =>
    some h13) h 0
abbrev rmX4_addTo : Room := { frames := 3, cells := 0, slots := 0, locals := 68 }
theorem hd_X4_addTo : yX4_addTo.cls = RX4 ∧ yX4_addTo.cls ≠ "java/lang/invoke/MethodHandle" ∧ yX4_addTo.cls ≠ "java/lang/invoke/VarHandle" ∧ (parseMethodDescriptor yX4_addTo.desc).map (fun d => d.parameters.length) = some 1 := by decide +kernel
set_option maxRecDepth 100000 in
set_option maxHeartbeats 4000000 in
theorem w_X4_addTo_2 {p : Program} {l : Launch} {e : Env} {s : State} {m : MethodId} {args : Array Value} {below : List Frame} {meth : Method} {c : Code} {D : va_G} {ad : Nat → Nat} {cy : Nat → ClassId} (E : EE p s m args c cX4_addTo 3 (wsM yX4_addTo cX4_addTo 3 none) RX4 D cy) (hr : meth.sig.returnType = none) (hlk : meth.locks = false) {h' : HP} (x0 : Nat) (x1 : Nat) : ∀ (n : Nat) (k : (HP → Option (HP))) (h : HP) (x2 : Int32), (∀ (h : HP), k h = some h' → JJ p l e rmX4_addTo s m args below meth c 0 0 (MQ below (QV D ad cy none h') args s 0 0 (Aw ad)) D ad cy (Aw ad) 3 h [] 44 []) → L_X4_addTo_2 x0 x1 n k h x2 = some h' → JJ p l e rmX4_addTo s m args below meth c 0 0 (MQ below (QV D ad cy none h') args s 0 0 (Aw ad)) D ad cy (Aw ad) 3 h [(0, .ref (ad x0)), (1, .ref (ad x1)), (2, .int x2)] 2 [] := by
  intro n
  induction n with
  | zero => intro k h x2 hk hf; cases hf
  | succ n ih =>
    intro k h x2 hk hf
    unfold L_X4_addTo_2 at hf
    refine j_iload_n E 2 rfl dX4_addTo_2 rfl ?_
    refine j_bipush (v := 64) E dX4_addTo_3 (by decide) ?_
    refine j_icmp_ge (tgt := 44) E dX4_addTo_5 (by decide) (fun z1 => ?_) (fun z1 => ?_)
    · have hf := ifp hf z1
      refine j_perm (lv' := []) [] rfl ?_
      exact hk h hf
    · have hf := ifn hf z1
      refine j_iload_n E 2 rfl dX4_addTo_8 rfl ?_
      refine j_aload_n E 0 rfl dX4_addTo_9 rfl ?_
      obtain ⟨v2, ev2, hf⟩ := bs hf
      refine j_getI (ci := 3) (k0 := 0) (T := TX4) (N := 4) E (mI inUX4) rfl (by decide) (mU uw_1_27) ev2 dX4_addTo_10 ?_
      refine j_icmp_ge (tgt := 44) E dX4_addTo_13 (by decide) (fun z3 => ?_) (fun z3 => ?_)
      · have hf := ifp hf z3
        refine j_perm (lv' := []) [] rfl ?_
        exact hk h hf
      · have hf := ifn hf z3
        refine j_aload_n E 1 rfl dX4_addTo_16 rfl ?_
        refine j_aload_n E 0 rfl dX4_addTo_17 rfl ?_
        obtain ⟨v4, ev4, hf⟩ := bs hf
        refine j_getR (ci := 3) (k0 := 1) (T := TX4) (N := 4) E (mI inUX4) rfl (by decide) (mU uw_1_29) ev4 dX4_addTo_18 ?_
        refine j_iload_n E 2 rfl dX4_addTo_21 rfl ?_
        obtain ⟨v5, ev5, hf⟩ := bs hf
        refine j_aI E ev5 dX4_addTo_22 ?_
        refine j_aload_n E 0 rfl dX4_addTo_23 rfl ?_
        obtain ⟨v6, ev6, hf⟩ := bs hf
        refine j_getR (ci := 3) (k0 := 2) (T := TX4) (N := 4) E (mI inUX4) rfl (by decide) (mU uw_1_30) ev6 dX4_addTo_24 ?_
        refine j_iload_n E 2 rfl dX4_addTo_27 rfl ?_
        obtain ⟨v7, ev7, hf⟩ := bs hf
        refine j_aI E ev7 dX4_addTo_28 ?_
        refine j_aload_n E 0 rfl dX4_addTo_29 rfl ?_
        obtain ⟨v8, ev8, hf⟩ := bs hf
        refine j_getR (ci := 3) (k0 := 3) (T := TX4) (N := 4) E (mI inUX4) rfl (by decide) (mU uw_1_31) ev8 dX4_addTo_30 ?_
        refine j_iload_n E 2 rfl dX4_addTo_33 rfl ?_
        obtain ⟨v9, ev9, hf⟩ := bs hf
        refine j_aJ E ev9 dX4_addTo_34 ?_
        obtain ⟨k10, hf⟩ := ck_spec hf
        obtain ⟨h11, e12, hf⟩ := bs hf
        refine j_callV (ci := 1) (b := x1) (As := [.int v5, .int v7, .long v9]) (rest := []) (v := none) E (c_X2_putSum l D ad cy h x1 v5 v7 v9 e12) (mcw E.1.2.2.2.2 uw_1_220 uw_1_217 uw_1_218 uw_1_219 uw_1_4 rfl rfl hd_X2_putSum ⟨by decide, by decide⟩) rfl k10 rfl rfl (Nat.le_of_ble_eq_true rfl) dX4_addTo_35 ⟨Nat.zero_le _, Nat.zero_le _⟩ ?_
        refine j_stk (st' := []) rfl ?_
        refine j_iinc (v := (x2 + 1)) (k0 := 2) (lv' := [(2, .int (x2 + 1)), (0, .ref (ad x0)), (1, .ref (ad x1))]) E dX4_addTo_38 rfl (congrArg (fun z => x2 + z) (by decide)) (by decide) rfl ?_
        refine j_goto (tgt := 2) E dX4_addTo_41 (by decide) ?_
        refine j_perm (lv' := [(0, .ref (ad x0)), (1, .ref (ad x1)), (2, .int (x2 + 1))]) [1, 2, 0] rfl ?_
        exact ih k h11 (x2 + 1) hk hf
set_option maxRecDepth 100000 in
set_option maxHeartbeats 4000000 in
theorem c_X4_addTo (l : Launch) (D : va_G) (ad : Nat → Nat) (cy : Nat → ClassId) (h : HP) (x0 : Nat) (x1 : Nat) {h' : HP} (hf : f_X4_addTo h x0 x1 = some h') : Met l yX4_addTo (wsM yX4_addTo cX4_addTo 3 none) rmX4_addTo (va_Pc [.ref (ad x0), .ref (ad x1)] (PW D ad cy h)) (QV D ad cy none h') 0 0 (Aw ad) := by
  refine met_of (own := RX4) (lv := [(0, .ref (ad x0)), (1, .ref (ad x1))]) (by decide) rfl (Nat.le_of_ble_eq_true rfl) rfl (fun p e s m args below meth c E hr hlk => ?_)
  unfold f_X4_addTo at hf
  refine j_iconst (v := 0) E dX4_addTo_0 (by decide) ?_
  refine j_istore_n (lv' := [(2, .int 0), (0, .ref (ad x0)), (1, .ref (ad x1))]) E dX4_addTo_1 rfl (by decide) rfl ?_
  refine j_perm (lv' := [(0, .ref (ad x0)), (1, .ref (ad x1)), (2, .int 0)]) [1, 2, 0] rfl ?_
  refine w_X4_addTo_2 E hr hlk x0 x1 FU _ h 0 (fun h13 hf => ?_) hf
  cases hf
  exact j_vret E hr hlk dX4_addTo_44
noncomputable def f_X5_isSlot (x0 : Int32) : Option (Int32) :=
  if x0 < 0 then (
    some 0
  ) else (
    if 8 ≤ x0 then (
      some 0
    ) else (
      some 1
    )
  )
abbrev rmX5_isSlot : Room := { frames := 0, cells := 0, slots := 0, locals := 0 }
theorem hd_X5_isSlot : yX5_isSlot.cls = RX5 ∧ yX5_isSlot.cls ≠ "java/lang/invoke/MethodHandle" ∧ yX5_isSlot.cls ≠ "java/lang/invoke/VarHandle" ∧ (parseMethodDescriptor yX5_isSlot.desc).map (fun d => d.parameters.length) = some 1 := by decide +kernel
set_option maxRecDepth 100000 in
set_option maxHeartbeats 4000000 in
theorem c_X5_isSlot (l : Launch) (D : va_G) (ad : Nat → Nat) (cy : Nat → ClassId) (h : HP) (x0 : Int32) {r : Int32} (hf : f_X5_isSlot x0 = some r) : Met l yX5_isSlot (wsM yX5_isSlot cX5_isSlot 1 (some .boolean)) rmX5_isSlot (va_Pc [.int x0] (PW D ad cy h)) (QV D ad cy (some (.int r)) h) 0 0 (Aw ad) := by
  refine met_of (own := RX5) (lv := [(0, .int x0)]) (by decide) rfl (Nat.le_of_ble_eq_true rfl) rfl (fun p e s m args below meth c E hr hlk => ?_)
  unfold f_X5_isSlot at hf
  refine j_iload_n E 0 rfl dX5_isSlot_0 rfl ?_
  refine j_if_lt (tgt := 14) E dX5_isSlot_1 (by decide) (fun z1 => ?_) (fun z1 => ?_)
  · have hf := ifp hf z1
    refine j_iconst (v := 0) E dX5_isSlot_14 (by decide) ?_
    cases hf
    exact j_zret E hr hlk rfl dX5_isSlot_15
  · have hf := ifn hf z1
    refine j_iload_n E 0 rfl dX5_isSlot_4 rfl ?_
    refine j_bipush (v := 8) E dX5_isSlot_5 (by decide) ?_
    refine j_icmp_ge (tgt := 14) E dX5_isSlot_7 (by decide) (fun z2 => ?_) (fun z2 => ?_)
    · have hf := ifp hf z2
      refine j_iconst (v := 0) E dX5_isSlot_14 (by decide) ?_
      cases hf
      exact j_zret E hr hlk rfl dX5_isSlot_15
    · have hf := ifn hf z2
      refine j_iconst (v := 1) E dX5_isSlot_10 (by decide) ?_
      refine j_goto (tgt := 15) E dX5_isSlot_11 (by decide) ?_
      cases hf
      exact j_zret E hr hlk rfl dX5_isSlot_15
noncomputable def f_X5_putDraft (h : HP) (x0 : Nat) (x1 : Int32) : Option (HP × Int32) :=
  (f_X5_isSlot x1).bind fun v1 =>
  if v1 = 0 then (
    some (h, (-1))
  ) else (
    (gR 4 h x0 0).bind fun v4 =>
    (aG h v4 x1).bind fun v5 =>
    om v5 (
      some (h, (-1))
    ) fun a6 =>
      (gR 4 h x0 3).bind fun v7 =>
      ck 1 h v7 <|
      (f_X2_keptCount h v7).bind fun v9 =>
      if v9 ≤ 128 then (
        (gR 4 h x0 0).bind fun v12 =>
        (gR 4 h x0 3).bind fun v13 =>
        (sG h v12 x1 v13).bind fun h14 =>
        (pR 4 h14 x0 3 (some a6)).bind fun h15 =>
        some (h15, v9)
      ) else (
        some (h, (-4))
      )
  )
abbrev rmX5_putDraft : Room := { frames := 3, cells := 0, slots := 0, locals := 63 }
theorem hd_X5_putDraft : yX5_putDraft.cls = RX5 ∧ yX5_putDraft.cls ≠ "java/lang/invoke/MethodHandle" ∧ yX5_putDraft.cls ≠ "java/lang/invoke/VarHandle" ∧ (parseMethodDescriptor yX5_putDraft.desc).map (fun d => d.parameters.length) = some 1 := by decide +kernel
set_option maxRecDepth 100000 in
set_option maxHeartbeats 4000000 in
theorem c_X5_putDraft (l : Launch) (D : va_G) (ad : Nat → Nat) (cy : Nat → ClassId) (h : HP) (x0 : Nat) (x1 : Int32) {h' : HP} {r : Int32} (hf : f_X5_putDraft h x0 x1 = some (h', r)) : Met l yX5_putDraft (wsM yX5_putDraft cX5_putDraft 4 (some .int)) rmX5_putDraft (va_Pc [.ref (ad x0), .int x1] (PW D ad cy h)) (QV D ad cy (some (.int r)) h') 0 0 (Aw ad) := by
  refine met_of (own := RX5) (lv := [(0, .ref (ad x0)), (1, .int x1)]) (by decide) rfl (Nat.le_of_ble_eq_true rfl) rfl (fun p e s m args below meth c E hr hlk => ?_)
  unfold f_X5_putDraft at hf
  refine j_iload_n E 1 rfl dX5_putDraft_0 rfl ?_
  obtain ⟨v1, e2, hf⟩ := bs hf
  refine j_callS (As := [.int x1]) (rest := []) (v := (some (.int v1))) E (c_X5_isSlot l D ad cy h x1 e2) (mcs E.1.2.2.2.2 uw_1_132 uw_1_130 uw_1_131 uw_1_1 rfl rfl hd_X5_isSlot ⟨by decide, by decide⟩) rfl rfl (Nat.le_of_ble_eq_true rfl) dX5_putDraft_1 ⟨Nat.zero_le _, Nat.zero_le _⟩ ?_
  refine j_stk (st' := [.int v1]) rfl ?_
  refine j_if_eq (tgt := 16) E dX5_putDraft_4 (by decide) (fun z3 => ?_) (fun z3 => ?_)
  · have hf := ifp hf z3
    refine j_null E dX5_putDraft_16 ?_
    refine j_astore_nN (lv' := [(2, .null), (0, .ref (ad x0)), (1, .int x1)]) E dX5_putDraft_17 rfl (by decide) rfl ?_
    refine j_aload_nN E 0 rfl dX5_putDraft_18 rfl ?_
    refine j_ifnonnullN E dX5_putDraft_19 ?_
    refine j_iconst (v := (-1)) E dX5_putDraft_22 (by decide) ?_
    cases hf
    exact j_iret E hr hlk dX5_putDraft_23
  · have hf := ifn hf z3
    refine j_aload_n E 0 rfl dX5_putDraft_7 rfl ?_
    obtain ⟨v4, ev4, hf⟩ := bs hf
    refine j_getR (ci := 4) (k0 := 0) (T := TX5) (N := 6) E (mI inUX5) rfl (by decide) (mU uw_1_107) ev4 dX5_putDraft_8 ?_
    refine j_iload_n E 1 rfl dX5_putDraft_11 rfl ?_
    obtain ⟨v5, ev5, hf⟩ := bs hf
    refine j_aG E ev5 dX5_putDraft_12 ?_
    rcases om_spec hf with ⟨rfl, hf⟩ | ⟨a6, rfl, hf⟩
    · refine j_stk (st' := [.null]) rfl ?_
      refine j_goto (tgt := 17) E dX5_putDraft_13 (by decide) ?_
      refine j_astore_nN (lv' := [(2, .null), (0, .ref (ad x0)), (1, .int x1)]) E dX5_putDraft_17 rfl (by decide) rfl ?_
      refine j_aload_nN E 0 rfl dX5_putDraft_18 rfl ?_
      refine j_ifnonnullN E dX5_putDraft_19 ?_
      refine j_iconst (v := (-1)) E dX5_putDraft_22 (by decide) ?_
      cases hf
      exact j_iret E hr hlk dX5_putDraft_23
    · refine j_stk (st' := [.ref (ad a6)]) rfl ?_
      refine j_goto (tgt := 17) E dX5_putDraft_13 (by decide) ?_
      refine j_astore_n (lv' := [(2, .ref (ad a6)), (0, .ref (ad x0)), (1, .int x1)]) E dX5_putDraft_17 rfl (by decide) rfl ?_
      refine j_aload_n E 0 rfl dX5_putDraft_18 rfl ?_
      refine j_ifnonnull (tgt := 24) E dX5_putDraft_19 (by decide) ?_
      refine j_aload_n E 1 rfl dX5_putDraft_24 rfl ?_
      obtain ⟨v7, ev7, hf⟩ := bs hf
      refine j_getR (ci := 4) (k0 := 3) (T := TX5) (N := 6) E (mI inUX5) rfl (by decide) (mU uw_1_110) ev7 dX5_putDraft_25 ?_
      obtain ⟨k8, hf⟩ := ck_spec hf
      obtain ⟨v9, e10, hf⟩ := bs hf
      refine j_callV (ci := 1) (b := v7) (As := []) (rest := []) (v := (some (.int v9))) E (c_X2_keptCount l D ad cy h v7 e10) (mcw E.1.2.2.2.2 uw_1_147 uw_1_144 uw_1_145 uw_1_146 uw_1_4 rfl rfl hd_X2_keptCount ⟨by decide, by decide⟩) rfl k8 rfl rfl (Nat.le_of_ble_eq_true rfl) dX5_putDraft_28 ⟨Nat.zero_le _, Nat.zero_le _⟩ ?_
      refine j_stk (st' := [.int v9]) rfl ?_
      refine j_istore_n (lv' := [(3, .int v9), (2, .ref (ad a6)), (0, .ref (ad x0)), (1, .int x1)]) E dX5_putDraft_31 rfl (by decide) rfl ?_
      refine j_iload_n E 0 rfl dX5_putDraft_32 rfl ?_
      refine j_sipush (v := 128) E dX5_putDraft_33 (by decide) ?_
      refine j_icmp_le (tgt := 42) E dX5_putDraft_36 (by decide) (fun z11 => ?_) (fun z11 => ?_)
      · have hf := ifp hf z11
        refine j_aload_n E 2 rfl dX5_putDraft_42 rfl ?_
        obtain ⟨v12, ev12, hf⟩ := bs hf
        refine j_getR (ci := 4) (k0 := 0) (T := TX5) (N := 6) E (mI inUX5) rfl (by decide) (mU uw_1_107) ev12 dX5_putDraft_43 ?_
        refine j_iload_n E 3 rfl dX5_putDraft_46 rfl ?_
        refine j_aload_n E 2 rfl dX5_putDraft_47 rfl ?_
        obtain ⟨v13, ev13, hf⟩ := bs hf
        refine j_getR (ci := 4) (k0 := 3) (T := TX5) (N := 6) E (mI inUX5) rfl (by decide) (mU uw_1_110) ev13 dX5_putDraft_48 ?_
        obtain ⟨h14, eh14, hf⟩ := bs hf
        refine j_sG E eh14 dX5_putDraft_51 ?_
        refine j_aload_n E 2 rfl dX5_putDraft_52 rfl ?_
        refine j_aload_n E 1 rfl dX5_putDraft_53 rfl ?_
        obtain ⟨h15, eh15, hf⟩ := bs hf
        refine j_putR (ci := 4) (k0 := 3) (T := TX5) (N := 6) E (mI inUX5) rfl (by decide) (mU uw_1_110) tyX5 tyX5_ok nmX5 rfl (tyX5_ok 3 (by decide)) (Or.inl ⟨_, rfl⟩) eh15 dX5_putDraft_54 ?_
        refine j_iload_n E 0 rfl dX5_putDraft_57 rfl ?_
        cases hf
        exact j_iret E hr hlk dX5_putDraft_58
      · have hf := ifn hf z11
        refine j_bipush (v := (-4)) E dX5_putDraft_39 (by decide) ?_
        cases hf
        exact j_iret E hr hlk dX5_putDraft_41
noncomputable def f_X5_table (h : HP) (x0 : Nat) (x1 : Int32) (x2 : Int32) (x3 : Int32) : Option (HP × Int32) :=
  (f_X5_isSlot x1).bind fun v1 =>
  if v1 = 0 then (
    some (h, (-1))
  ) else (
    (f_X5_isSize x2).bind fun v4 =>
    if v4 = 0 then (
      some (h, (-2))
    ) else (
      (f_X5_isSize x3).bind fun v7 =>
      if v7 = 0 then (
        some (h, (-2))
      ) else (
        (gR 4 h x0 3).bind fun v10 =>
        ck 1 h v10 <|
        (f_X2_begin h v10 x2 x3).bind fun h12 =>
        ck 4 h12 x0 <|
        (f_X5_putDraft h12 x0 x1).bind fun (h15, v16) =>
        some (h15, 1)
      )
    )
  )
abbrev rmX5_table : Room := { frames := 4, cells := 0, slots := 0, locals := 86 }
theorem hd_X5_table : yX5_table.cls = RX5 ∧ yX5_table.cls ≠ "java/lang/invoke/MethodHandle" ∧ yX5_table.cls ≠ "java/lang/invoke/VarHandle" ∧ (parseMethodDescriptor yX5_table.desc).map (fun d => d.parameters.length) = some 3 := by decide +kernel
set_option maxRecDepth 100000 in
set_option maxHeartbeats 4000000 in
theorem c_X5_table (l : Launch) (D : va_G) (ad : Nat → Nat) (cy : Nat → ClassId) (h : HP) (x0 : Nat) (x1 : Int32) (x2 : Int32) (x3 : Int32) {h' : HP} {r : Int32} (hf : f_X5_table h x0 x1 x2 x3 = some (h', r)) : Met l yX5_table (wsM yX5_table cX5_table 4 (some .int)) rmX5_table (va_Pc [.ref (ad x0), .int x1, .int x2, .int x3] (PW D ad cy h)) (QV D ad cy (some (.int r)) h') 0 0 (Aw ad) := by
  refine met_of (own := RX5) (lv := [(0, .ref (ad x0)), (1, .int x1), (2, .int x2), (3, .int x3)]) (by decide) rfl (Nat.le_of_ble_eq_true rfl) rfl (fun p e s m args below meth c E hr hlk => ?_)
  unfold f_X5_table at hf
  refine j_iload_n E 1 rfl dX5_table_0 rfl ?_
  obtain ⟨v1, e2, hf⟩ := bs hf
  refine j_callS (As := [.int x1]) (rest := []) (v := (some (.int v1))) E (c_X5_isSlot l D ad cy h x1 e2) (mcs E.1.2.2.2.2 uw_1_132 uw_1_130 uw_1_131 uw_1_1 rfl rfl hd_X5_isSlot ⟨by decide, by decide⟩) rfl rfl (Nat.le_of_ble_eq_true rfl) dX5_table_1 ⟨Nat.zero_le _, Nat.zero_le _⟩ ?_
  refine j_stk (st' := [.int v1]) rfl ?_
  refine j_if_ne (tgt := 9) E dX5_table_4 (by decide) (fun z3 => ?_) (fun z3 => ?_)
  · have hf := ifn hf z3
    refine j_iload_n E 2 rfl dX5_table_9 rfl ?_
    obtain ⟨v4, e5, hf⟩ := bs hf
    refine j_callS (As := [.int x2]) (rest := []) (v := (some (.int v4))) E (c_X5_isSize l D ad cy h x2 e5) (mcs E.1.2.2.2.2 uw_1_135 uw_1_133 uw_1_134 uw_1_1 rfl rfl hd_X5_isSize ⟨by decide, by decide⟩) rfl rfl (Nat.le_of_ble_eq_true rfl) dX5_table_10 ⟨Nat.zero_le _, Nat.zero_le _⟩ ?_
    refine j_stk (st' := [.int v4]) rfl ?_
    refine j_if_eq (tgt := 23) E dX5_table_13 (by decide) (fun z6 => ?_) (fun z6 => ?_)
    · have hf := ifp hf z6
      refine j_bipush (v := (-2)) E dX5_table_23 (by decide) ?_
      cases hf
      exact j_iret E hr hlk dX5_table_25
    · have hf := ifn hf z6
      refine j_iload_n E 3 rfl dX5_table_16 rfl ?_
      obtain ⟨v7, e8, hf⟩ := bs hf
      refine j_callS (As := [.int x3]) (rest := []) (v := (some (.int v7))) E (c_X5_isSize l D ad cy h x3 e8) (mcs E.1.2.2.2.2 uw_1_135 uw_1_133 uw_1_134 uw_1_1 rfl rfl hd_X5_isSize ⟨by decide, by decide⟩) rfl rfl (Nat.le_of_ble_eq_true rfl) dX5_table_17 ⟨Nat.zero_le _, Nat.zero_le _⟩ ?_
      refine j_stk (st' := [.int v7]) rfl ?_
      refine j_if_ne (tgt := 26) E dX5_table_20 (by decide) (fun z9 => ?_) (fun z9 => ?_)
      · have hf := ifn hf z9
        refine j_aload_n E 0 rfl dX5_table_26 rfl ?_
        obtain ⟨v10, ev10, hf⟩ := bs hf
        refine j_getR (ci := 4) (k0 := 3) (T := TX5) (N := 6) E (mI inUX5) rfl (by decide) (mU uw_1_110) ev10 dX5_table_27 ?_
        refine j_iload_n E 2 rfl dX5_table_30 rfl ?_
        refine j_iload_n E 3 rfl dX5_table_31 rfl ?_
        obtain ⟨k11, hf⟩ := ck_spec hf
        obtain ⟨h12, e13, hf⟩ := bs hf
        refine j_callV (ci := 1) (b := v10) (As := [.int x2, .int x3]) (rest := []) (v := none) E (c_X2_begin l D ad cy h v10 x2 x3 e13) (mcw E.1.2.2.2.2 uw_1_139 uw_1_136 uw_1_137 uw_1_138 uw_1_4 rfl rfl hd_X2_begin ⟨by decide, by decide⟩) rfl k11 rfl rfl (Nat.le_of_ble_eq_true rfl) dX5_table_32 ⟨Nat.zero_le _, Nat.zero_le _⟩ ?_
        refine j_stk (st' := []) rfl ?_
        refine j_aload_n E 0 rfl dX5_table_35 rfl ?_
        refine j_iload_n E 1 rfl dX5_table_36 rfl ?_
        obtain ⟨k14, hf⟩ := ck_spec hf
        obtain ⟨⟨h15, v16⟩, e17, hf⟩ := bs hf
        refine j_callV (ci := 4) (b := x0) (As := [.int x1]) (rest := []) (v := (some (.int v16))) E (c_X5_putDraft l D ad cy h12 x0 x1 e17) (mcw E.1.2.2.2.2 uw_1_143 uw_1_140 uw_1_142 us_1_0 uw_1_1 rfl rfl hd_X5_putDraft ⟨by decide, by decide⟩) rfl k14 rfl rfl (Nat.le_of_ble_eq_true rfl) dX5_table_37 ⟨Nat.zero_le _, Nat.zero_le _⟩ ?_
        refine j_stk (st' := [.int v16]) rfl ?_
        refine j_pop E dX5_table_40 rfl ?_
        refine j_iconst (v := 1) E dX5_table_41 (by decide) ?_
        cases hf
        exact j_iret E hr hlk dX5_table_42
      · have hf := ifp hf z9
        refine j_bipush (v := (-2)) E dX5_table_23 (by decide) ?_
        cases hf
        exact j_iret E hr hlk dX5_table_25
  · have hf := ifp hf z3
    refine j_iconst (v := (-1)) E dX5_table_7 (by decide) ?_
    cases hf
    exact j_iret E hr hlk dX5_table_8
noncomputable def f_X5_triple (h : HP) (x0 : Nat) (x1 : Int32) (x2 : Int32) (x3 : Int64) : Option (HP × Int32) :=
  (f_X5_isLine x1).bind fun v1 =>
  if v1 = 0 then (
    some (h, (-2))
  ) else (
    (f_X5_isLine x2).bind fun v4 =>
    if v4 = 0 then (
      some (h, (-2))
    ) else (
      (gR 4 h x0 1).bind fun v7 =>
      (gI 3 h v7 0).bind fun v8 =>
      if v8 < 64 then (
        (gR 4 h x0 1).bind fun v10 =>
        ck 3 h v10 <|
        (f_X4_append h v10 x1 x2 x3).bind fun h12 =>
        (gR 4 h12 x0 1).bind fun v14 =>
        (gI 3 h12 v14 0).bind fun v15 =>
        some (h12, v15)
      ) else (
        some (h, (-4))
      )
    )
  )
abbrev rmX5_triple : Room := { frames := 1, cells := 0, slots := 0, locals := 24 }
theorem hd_X5_triple : yX5_triple.cls = RX5 ∧ yX5_triple.cls ≠ "java/lang/invoke/MethodHandle" ∧ yX5_triple.cls ≠ "java/lang/invoke/VarHandle" ∧ (parseMethodDescriptor yX5_triple.desc).map (fun d => d.parameters.length) = some 3 := by decide +kernel
set_option maxRecDepth 100000 in
set_option maxHeartbeats 4000000 in
theorem c_X5_triple (l : Launch) (D : va_G) (ad : Nat → Nat) (cy : Nat → ClassId) (h : HP) (x0 : Nat) (x1 : Int32) (x2 : Int32) (x3 : Int64) {h' : HP} {r : Int32} (hf : f_X5_triple h x0 x1 x2 x3 = some (h', r)) : Met l yX5_triple (wsM yX5_triple cX5_triple 5 (some .int)) rmX5_triple (va_Pc [.ref (ad x0), .int x1, .int x2, .long x3] (PW D ad cy h)) (QV D ad cy (some (.int r)) h') 0 0 (Aw ad) := by
  refine met_of (own := RX5) (lv := [(0, .ref (ad x0)), (1, .int x1), (2, .int x2), (3, .long x3)]) (by decide) rfl (Nat.le_of_ble_eq_true rfl) rfl (fun p e s m args below meth c E hr hlk => ?_)
  unfold f_X5_triple at hf
  refine j_iload_n E 1 rfl dX5_triple_0 rfl ?_
  obtain ⟨v1, e2, hf⟩ := bs hf
  refine j_callS (As := [.int x1]) (rest := []) (v := (some (.int v1))) E (c_X5_isLine l D ad cy h x1 e2) (mcs E.1.2.2.2.2 uw_1_164 uw_1_162 uw_1_163 uw_1_1 rfl rfl hd_X5_isLine ⟨by decide, by decide⟩) rfl rfl (Nat.le_of_ble_eq_true rfl) dX5_triple_1 ⟨Nat.zero_le _, Nat.zero_le _⟩ ?_
  refine j_stk (st' := [.int v1]) rfl ?_
  refine j_if_eq (tgt := 14) E dX5_triple_4 (by decide) (fun z3 => ?_) (fun z3 => ?_)
  · have hf := ifp hf z3
    refine j_bipush (v := (-2)) E dX5_triple_14 (by decide) ?_
    cases hf
    exact j_iret E hr hlk dX5_triple_16
  · have hf := ifn hf z3
    refine j_iload_n E 2 rfl dX5_triple_7 rfl ?_
    obtain ⟨v4, e5, hf⟩ := bs hf
    refine j_callS (As := [.int x2]) (rest := []) (v := (some (.int v4))) E (c_X5_isLine l D ad cy h x2 e5) (mcs E.1.2.2.2.2 uw_1_164 uw_1_162 uw_1_163 uw_1_1 rfl rfl hd_X5_isLine ⟨by decide, by decide⟩) rfl rfl (Nat.le_of_ble_eq_true rfl) dX5_triple_8 ⟨Nat.zero_le _, Nat.zero_le _⟩ ?_
    refine j_stk (st' := [.int v4]) rfl ?_
    refine j_if_ne (tgt := 17) E dX5_triple_11 (by decide) (fun z6 => ?_) (fun z6 => ?_)
    · have hf := ifn hf z6
      refine j_aload_n E 0 rfl dX5_triple_17 rfl ?_
      obtain ⟨v7, ev7, hf⟩ := bs hf
      refine j_getR (ci := 4) (k0 := 1) (T := TX5) (N := 6) E (mI inUX5) rfl (by decide) (mU uw_1_108) ev7 dX5_triple_18 ?_
      obtain ⟨v8, ev8, hf⟩ := bs hf
      refine j_getI (ci := 3) (k0 := 0) (T := TX4) (N := 4) E (mI inUX4) rfl (by decide) (mU uw_1_28) ev8 dX5_triple_21 ?_
      refine j_bipush (v := 64) E dX5_triple_24 (by decide) ?_
      refine j_icmp_lt (tgt := 32) E dX5_triple_26 (by decide) (fun z9 => ?_) (fun z9 => ?_)
      · have hf := ifp hf z9
        refine j_aload_n E 0 rfl dX5_triple_32 rfl ?_
        obtain ⟨v10, ev10, hf⟩ := bs hf
        refine j_getR (ci := 4) (k0 := 1) (T := TX5) (N := 6) E (mI inUX5) rfl (by decide) (mU uw_1_108) ev10 dX5_triple_33 ?_
        refine j_iload_n E 1 rfl dX5_triple_36 rfl ?_
        refine j_iload_n E 2 rfl dX5_triple_37 rfl ?_
        refine j_lload_n E 3 rfl dX5_triple_38 rfl ?_
        obtain ⟨k11, hf⟩ := ck_spec hf
        obtain ⟨h12, e13, hf⟩ := bs hf
        refine j_callV (ci := 3) (b := v10) (As := [.int x1, .int x2, .long x3]) (rest := []) (v := none) E (c_X4_append l D ad cy h v10 x1 x2 x3 e13) (mcw E.1.2.2.2.2 uw_1_168 uw_1_165 uw_1_166 uw_1_167 uw_1_2 rfl rfl hd_X4_append ⟨by decide, by decide⟩) rfl k11 rfl rfl (Nat.le_of_ble_eq_true rfl) dX5_triple_39 ⟨Nat.zero_le _, Nat.zero_le _⟩ ?_
        refine j_stk (st' := []) rfl ?_
        refine j_aload_n E 0 rfl dX5_triple_42 rfl ?_
        obtain ⟨v14, ev14, hf⟩ := bs hf
        refine j_getR (ci := 4) (k0 := 1) (T := TX5) (N := 6) E (mI inUX5) rfl (by decide) (mU uw_1_108) ev14 dX5_triple_43 ?_
        obtain ⟨v15, ev15, hf⟩ := bs hf
        refine j_getI (ci := 3) (k0 := 0) (T := TX4) (N := 4) E (mI inUX4) rfl (by decide) (mU uw_1_28) ev15 dX5_triple_46 ?_
        cases hf
        exact j_iret E hr hlk dX5_triple_49
      · have hf := ifn hf z9
        refine j_bipush (v := (-4)) E dX5_triple_29 (by decide) ?_
        cases hf
        exact j_iret E hr hlk dX5_triple_31
    · have hf := ifp hf z6
      refine j_bipush (v := (-2)) E dX5_triple_14 (by decide) ?_
      cases hf
      exact j_iret E hr hlk dX5_triple_16
noncomputable def f_X5_list (h : HP) (x0 : Nat) (x1 : Int32) : Option (HP × Int32) :=
  (f_X5_isLine x1).bind fun v1 =>
  if v1 = 0 then (
    some (h, (-2))
  ) else (
    (gR 4 h x0 4).bind fun v4 =>
    (gI 2 h v4 0).bind fun v5 =>
    if v5 < 16 then (
      (gR 4 h x0 4).bind fun v7 =>
      ck 2 h v7 <|
      (f_X3_append h v7 x1).bind fun h9 =>
      (gR 4 h9 x0 4).bind fun v11 =>
      (gI 2 h9 v11 0).bind fun v12 =>
      some (h9, v12)
    ) else (
      some (h, (-4))
    )
  )
abbrev rmX5_list : Room := { frames := 2, cells := 0, slots := 0, locals := 41 }
theorem hd_X5_list : yX5_list.cls = RX5 ∧ yX5_list.cls ≠ "java/lang/invoke/MethodHandle" ∧ yX5_list.cls ≠ "java/lang/invoke/VarHandle" ∧ (parseMethodDescriptor yX5_list.desc).map (fun d => d.parameters.length) = some 1 := by decide +kernel
set_option maxRecDepth 100000 in
set_option maxHeartbeats 4000000 in
theorem c_X5_list (l : Launch) (D : va_G) (ad : Nat → Nat) (cy : Nat → ClassId) (h : HP) (x0 : Nat) (x1 : Int32) {h' : HP} {r : Int32} (hf : f_X5_list h x0 x1 = some (h', r)) : Met l yX5_list (wsM yX5_list cX5_list 2 (some .int)) rmX5_list (va_Pc [.ref (ad x0), .int x1] (PW D ad cy h)) (QV D ad cy (some (.int r)) h') 0 0 (Aw ad) := by
  refine met_of (own := RX5) (lv := [(0, .ref (ad x0)), (1, .int x1)]) (by decide) rfl (Nat.le_of_ble_eq_true rfl) rfl (fun p e s m args below meth c E hr hlk => ?_)
  unfold f_X5_list at hf
  refine j_iload_n E 1 rfl dX5_list_0 rfl ?_
  obtain ⟨v1, e2, hf⟩ := bs hf
  refine j_callS (As := [.int x1]) (rest := []) (v := (some (.int v1))) E (c_X5_isLine l D ad cy h x1 e2) (mcs E.1.2.2.2.2 uw_1_164 uw_1_162 uw_1_163 uw_1_1 rfl rfl hd_X5_isLine ⟨by decide, by decide⟩) rfl rfl (Nat.le_of_ble_eq_true rfl) dX5_list_1 ⟨Nat.zero_le _, Nat.zero_le _⟩ ?_
  refine j_stk (st' := [.int v1]) rfl ?_
  refine j_if_ne (tgt := 10) E dX5_list_4 (by decide) (fun z3 => ?_) (fun z3 => ?_)
  · have hf := ifn hf z3
    refine j_aload_n E 0 rfl dX5_list_10 rfl ?_
    obtain ⟨v4, ev4, hf⟩ := bs hf
    refine j_getR (ci := 4) (k0 := 4) (T := TX5) (N := 6) E (mI inUX5) rfl (by decide) (mU uw_1_111) ev4 dX5_list_11 ?_
    obtain ⟨v5, ev5, hf⟩ := bs hf
    refine j_getI (ci := 2) (k0 := 0) (T := TX3) (N := 2) E (mI inUX3) rfl (by decide) (mU uw_1_98) ev5 dX5_list_14 ?_
    refine j_bipush (v := 16) E dX5_list_17 (by decide) ?_
    refine j_icmp_lt (tgt := 25) E dX5_list_19 (by decide) (fun z6 => ?_) (fun z6 => ?_)
    · have hf := ifp hf z6
      refine j_aload_n E 0 rfl dX5_list_25 rfl ?_
      obtain ⟨v7, ev7, hf⟩ := bs hf
      refine j_getR (ci := 4) (k0 := 4) (T := TX5) (N := 6) E (mI inUX5) rfl (by decide) (mU uw_1_111) ev7 dX5_list_26 ?_
      refine j_iload_n E 1 rfl dX5_list_29 rfl ?_
      obtain ⟨k8, hf⟩ := ck_spec hf
      obtain ⟨h9, e10, hf⟩ := bs hf
      refine j_callV (ci := 2) (b := v7) (As := [.int x1]) (rest := []) (v := none) E (c_X3_append l D ad cy h v7 x1 e10) (mcw E.1.2.2.2.2 uw_1_176 uw_1_173 uw_1_174 uw_1_175 uw_1_5 rfl rfl hd_X3_append ⟨by decide, by decide⟩) rfl k8 rfl rfl (Nat.le_of_ble_eq_true rfl) dX5_list_30 ⟨Nat.zero_le _, Nat.zero_le _⟩ ?_
      refine j_stk (st' := []) rfl ?_
      refine j_aload_n E 0 rfl dX5_list_33 rfl ?_
      obtain ⟨v11, ev11, hf⟩ := bs hf
      refine j_getR (ci := 4) (k0 := 4) (T := TX5) (N := 6) E (mI inUX5) rfl (by decide) (mU uw_1_111) ev11 dX5_list_34 ?_
      obtain ⟨v12, ev12, hf⟩ := bs hf
      refine j_getI (ci := 2) (k0 := 0) (T := TX3) (N := 2) E (mI inUX3) rfl (by decide) (mU uw_1_98) ev12 dX5_list_37 ?_
      cases hf
      exact j_iret E hr hlk dX5_list_40
    · have hf := ifn hf z6
      refine j_bipush (v := (-4)) E dX5_list_22 (by decide) ?_
      cases hf
      exact j_iret E hr hlk dX5_list_24
  · have hf := ifp hf z3
    refine j_bipush (v := (-2)) E dX5_list_7 (by decide) ?_
    cases hf
    exact j_iret E hr hlk dX5_list_9
noncomputable def f_X5_listed (h : HP) (x0 : Nat) (x1 : Int32) : Option (Int32) :=
  if x1 < 0 then (
    some (-2)
  ) else (
    (gR 4 h x0 4).bind fun v2 =>
    (gI 2 h v2 0).bind fun v3 =>
    if x1 < v3 then (
      (gR 4 h x0 4).bind fun v5 =>
      ck 2 h v5 <|
      (f_X3_item h v5 x1).bind fun v7 =>
      some v7
    ) else (
      some (-2)
    )
  )
abbrev rmX5_listed : Room := { frames := 2, cells := 0, slots := 0, locals := 41 }
theorem hd_X5_listed : yX5_listed.cls = RX5 ∧ yX5_listed.cls ≠ "java/lang/invoke/MethodHandle" ∧ yX5_listed.cls ≠ "java/lang/invoke/VarHandle" ∧ (parseMethodDescriptor yX5_listed.desc).map (fun d => d.parameters.length) = some 1 := by decide +kernel
set_option maxRecDepth 100000 in
set_option maxHeartbeats 4000000 in
theorem c_X5_listed (l : Launch) (D : va_G) (ad : Nat → Nat) (cy : Nat → ClassId) (h : HP) (x0 : Nat) (x1 : Int32) {r : Int32} (hf : f_X5_listed h x0 x1 = some r) : Met l yX5_listed (wsM yX5_listed cX5_listed 2 (some .int)) rmX5_listed (va_Pc [.ref (ad x0), .int x1] (PW D ad cy h)) (QV D ad cy (some (.int r)) h) 0 0 (Aw ad) := by
  refine met_of (own := RX5) (lv := [(0, .ref (ad x0)), (1, .int x1)]) (by decide) rfl (Nat.le_of_ble_eq_true rfl) rfl (fun p e s m args below meth c E hr hlk => ?_)
  unfold f_X5_listed at hf
  refine j_iload_n E 1 rfl dX5_listed_0 rfl ?_
  refine j_if_lt (tgt := 15) E dX5_listed_1 (by decide) (fun z1 => ?_) (fun z1 => ?_)
  · have hf := ifp hf z1
    refine j_bipush (v := (-2)) E dX5_listed_15 (by decide) ?_
    cases hf
    exact j_iret E hr hlk dX5_listed_17
  · have hf := ifn hf z1
    refine j_iload_n E 1 rfl dX5_listed_4 rfl ?_
    refine j_aload_n E 0 rfl dX5_listed_5 rfl ?_
    obtain ⟨v2, ev2, hf⟩ := bs hf
    refine j_getR (ci := 4) (k0 := 4) (T := TX5) (N := 6) E (mI inUX5) rfl (by decide) (mU uw_1_111) ev2 dX5_listed_6 ?_
    obtain ⟨v3, ev3, hf⟩ := bs hf
    refine j_getI (ci := 2) (k0 := 0) (T := TX3) (N := 2) E (mI inUX3) rfl (by decide) (mU uw_1_98) ev3 dX5_listed_9 ?_
    refine j_icmp_lt (tgt := 18) E dX5_listed_12 (by decide) (fun z4 => ?_) (fun z4 => ?_)
    · have hf := ifp hf z4
      refine j_aload_n E 0 rfl dX5_listed_18 rfl ?_
      obtain ⟨v5, ev5, hf⟩ := bs hf
      refine j_getR (ci := 4) (k0 := 4) (T := TX5) (N := 6) E (mI inUX5) rfl (by decide) (mU uw_1_111) ev5 dX5_listed_19 ?_
      refine j_iload_n E 1 rfl dX5_listed_22 rfl ?_
      obtain ⟨k6, hf⟩ := ck_spec hf
      obtain ⟨v7, e8, hf⟩ := bs hf
      refine j_callV (ci := 2) (b := v5) (As := [.int x1]) (rest := []) (v := (some (.int v7))) E (c_X3_item l D ad cy h v5 x1 e8) (mcw E.1.2.2.2.2 uw_1_185 uw_1_182 uw_1_183 uw_1_184 uw_1_5 rfl rfl hd_X3_item ⟨by decide, by decide⟩) rfl k6 rfl rfl (Nat.le_of_ble_eq_true rfl) dX5_listed_23 ⟨Nat.zero_le _, Nat.zero_le _⟩ ?_
      refine j_stk (st' := [.int v7]) rfl ?_
      cases hf
      exact j_iret E hr hlk dX5_listed_26
    · have hf := ifn hf z4
      refine j_bipush (v := (-2)) E dX5_listed_15 (by decide) ?_
      cases hf
      exact j_iret E hr hlk dX5_listed_17
noncomputable def f_X5_gridAt (h : HP) (x0 : Nat) (x1 : Int32) : Option (Option Nat) :=
  (f_X5_isSlot x1).bind fun v1 =>
  if v1 = 0 then (
    some none
  ) else (
    (gR 4 h x0 0).bind fun v4 =>
    (aG h v4 x1).bind fun v5 =>
    om v5 (
      some none
    ) fun a6 =>
      (gI 1 h a6 0).bind fun v7 =>
      if v7 ≤ 0 then (
        some none
      ) else (
        some (some a6)
      )
  )
abbrev rmX5_gridAt : Room := { frames := 1, cells := 0, slots := 0, locals := 20 }
theorem hd_X5_gridAt : yX5_gridAt.cls = RX5 ∧ yX5_gridAt.cls ≠ "java/lang/invoke/MethodHandle" ∧ yX5_gridAt.cls ≠ "java/lang/invoke/VarHandle" ∧ (parseMethodDescriptor yX5_gridAt.desc).map (fun d => d.parameters.length) = some 1 := by decide +kernel
set_option maxRecDepth 100000 in
set_option maxHeartbeats 4000000 in
theorem c_X5_gridAt (l : Launch) (D : va_G) (ad : Nat → Nat) (cy : Nat → ClassId) (h : HP) (x0 : Nat) (x1 : Int32) {r : Option Nat} (hf : f_X5_gridAt h x0 x1 = some r) : Met l yX5_gridAt (wsM yX5_gridAt cX5_gridAt 3 (some (.object "KeptTables$Grid"))) rmX5_gridAt (va_Pc [.ref (ad x0), .int x1] (PW D ad cy h)) (QV D ad cy (some (va_rf (r.map ad))) h) 0 0 (Aw ad) := by
  refine met_of (own := RX5) (lv := [(0, .ref (ad x0)), (1, .int x1)]) (by decide) rfl (Nat.le_of_ble_eq_true rfl) rfl (fun p e s m args below meth c E hr hlk => ?_)
  unfold f_X5_gridAt at hf
  refine j_iload_n E 1 rfl dX5_gridAt_0 rfl ?_
  obtain ⟨v1, e2, hf⟩ := bs hf
  refine j_callS (As := [.int x1]) (rest := []) (v := (some (.int v1))) E (c_X5_isSlot l D ad cy h x1 e2) (mcs E.1.2.2.2.2 uw_1_132 uw_1_130 uw_1_131 uw_1_1 rfl rfl hd_X5_isSlot ⟨by decide, by decide⟩) rfl rfl (Nat.le_of_ble_eq_true rfl) dX5_gridAt_1 ⟨Nat.zero_le _, Nat.zero_le _⟩ ?_
  refine j_stk (st' := [.int v1]) rfl ?_
  refine j_if_ne (tgt := 9) E dX5_gridAt_4 (by decide) (fun z3 => ?_) (fun z3 => ?_)
  · have hf := ifn hf z3
    refine j_aload_n E 0 rfl dX5_gridAt_9 rfl ?_
    obtain ⟨v4, ev4, hf⟩ := bs hf
    refine j_getR (ci := 4) (k0 := 0) (T := TX5) (N := 6) E (mI inUX5) rfl (by decide) (mU uw_1_107) ev4 dX5_gridAt_10 ?_
    refine j_iload_n E 1 rfl dX5_gridAt_13 rfl ?_
    obtain ⟨v5, ev5, hf⟩ := bs hf
    refine j_aG E ev5 dX5_gridAt_14 ?_
    rcases om_spec hf with ⟨rfl, hf⟩ | ⟨a6, rfl, hf⟩
    · refine j_stk (st' := [.null]) rfl ?_
      refine j_astore_nN (lv' := [(2, .null), (0, .ref (ad x0)), (1, .int x1)]) E dX5_gridAt_15 rfl (by decide) rfl ?_
      refine j_aload_nN E 0 rfl dX5_gridAt_16 rfl ?_
      refine j_ifnullN (tgt := 31) E dX5_gridAt_17 (by decide) ?_
      refine j_null E dX5_gridAt_31 ?_
      cases hf
      exact j_aret E hr hlk (Or.inl rfl) dX5_gridAt_32
    · refine j_stk (st' := [.ref (ad a6)]) rfl ?_
      refine j_astore_n (lv' := [(2, .ref (ad a6)), (0, .ref (ad x0)), (1, .int x1)]) E dX5_gridAt_15 rfl (by decide) rfl ?_
      refine j_aload_n E 0 rfl dX5_gridAt_16 rfl ?_
      refine j_ifnull E dX5_gridAt_17 ?_
      refine j_aload_n E 0 rfl dX5_gridAt_20 rfl ?_
      obtain ⟨v7, ev7, hf⟩ := bs hf
      refine j_getI (ci := 1) (k0 := 0) (T := TX2) (N := 4) E (mI inUX2) rfl (by decide) (mU uw_1_76) ev7 dX5_gridAt_21 ?_
      refine j_if_le (tgt := 31) E dX5_gridAt_24 (by decide) (fun z8 => ?_) (fun z8 => ?_)
      · have hf := ifp hf z8
        refine j_null E dX5_gridAt_31 ?_
        cases hf
        exact j_aret E hr hlk (Or.inl rfl) dX5_gridAt_32
      · have hf := ifn hf z8
        refine j_aload_n E 0 rfl dX5_gridAt_27 rfl ?_
        refine j_goto (tgt := 32) E dX5_gridAt_28 (by decide) ?_
        cases hf
        exact j_aret E hr hlk (Or.inr ⟨_, rfl⟩) dX5_gridAt_32
  · have hf := ifp hf z3
    refine j_null E dX5_gridAt_7 ?_
    cases hf
    exact j_aret E hr hlk (Or.inl rfl) dX5_gridAt_8
noncomputable def f_X5_join (h : HP) (x0 : Nat) (x1 : Int32) : Option (HP × Int32) :=
  ck 4 h x0 <|
  (f_X5_gridAt h x0 x1).bind fun v2 =>
  om v2 (
    some (h, (-1))
  ) fun a4 =>
    (gR 4 h x0 1).bind fun v5 =>
    ck 3 h v5 <|
    (f_X4_lieIn h v5 a4).bind fun v7 =>
    if v7 = 0 then (
      (gR 4 h x0 1).bind fun v10 =>
      ck 3 h v10 <|
      (f_X4_clear h v10).bind fun h12 =>
      if v7 = 0 then (
        some (h12, (-3))
      ) else (
        ck 4 h12 x0 <|
        (f_X5_putDraft h12 x0 x1).bind fun (h16, v17) =>
        some (h16, v17)
      )
    ) else (
      (gR 4 h x0 3).bind fun v19 =>
      ck 1 h v19 <|
      (f_X2_become h v19 a4).bind fun h21 =>
      (gR 4 h21 x0 1).bind fun v23 =>
      (gR 4 h21 x0 3).bind fun v24 =>
      ck 3 h21 v23 <|
      (f_X4_addTo h21 v23 v24).bind fun h26 =>
      (gR 4 h26 x0 1).bind fun v28 =>
      ck 3 h26 v28 <|
      (f_X4_clear h26 v28).bind fun h30 =>
      if v7 = 0 then (
        some (h30, (-3))
      ) else (
        ck 4 h30 x0 <|
        (f_X5_putDraft h30 x0 x1).bind fun (h34, v35) =>
        some (h34, v35)
      )
    )
abbrev rmX5_join : Room := { frames := 4, cells := 0, slots := 0, locals := 90 }
theorem hd_X5_join : yX5_join.cls = RX5 ∧ yX5_join.cls ≠ "java/lang/invoke/MethodHandle" ∧ yX5_join.cls ≠ "java/lang/invoke/VarHandle" ∧ (parseMethodDescriptor yX5_join.desc).map (fun d => d.parameters.length) = some 1 := by decide +kernel
set_option maxRecDepth 100000 in
set_option maxHeartbeats 4000000 in
theorem c_X5_join (l : Launch) (D : va_G) (ad : Nat → Nat) (cy : Nat → ClassId) (h : HP) (x0 : Nat) (x1 : Int32) {h' : HP} {r : Int32} (hf : f_X5_join h x0 x1 = some (h', r)) : Met l yX5_join (wsM yX5_join cX5_join 4 (some .int)) rmX5_join (va_Pc [.ref (ad x0), .int x1] (PW D ad cy h)) (QV D ad cy (some (.int r)) h') 0 0 (Aw ad) := by
  refine met_of (own := RX5) (lv := [(0, .ref (ad x0)), (1, .int x1)]) (by decide) rfl (Nat.le_of_ble_eq_true rfl) rfl (fun p e s m args below meth c E hr hlk => ?_)
  unfold f_X5_join at hf
  refine j_aload_n E 0 rfl dX5_join_0 rfl ?_
  refine j_iload_n E 1 rfl dX5_join_1 rfl ?_
  obtain ⟨k1, hf⟩ := ck_spec hf
  obtain ⟨v2, e3, hf⟩ := bs hf
  refine j_callV (ci := 4) (b := x0) (As := [.int x1]) (rest := []) (v := (some (va_rf (v2.map ad)))) E (c_X5_gridAt l D ad cy h x0 x1 e3) (mcw E.1.2.2.2.2 uw_1_193 uw_1_190 uw_1_192 us_1_1 uw_1_1 rfl rfl hd_X5_gridAt ⟨by decide, by decide⟩) rfl k1 rfl rfl (Nat.le_of_ble_eq_true rfl) dX5_join_2 ⟨Nat.zero_le _, Nat.zero_le _⟩ ?_
  rcases om_spec hf with ⟨rfl, hf⟩ | ⟨a4, rfl, hf⟩
  · refine j_stk (st' := [.null]) rfl ?_
    refine j_astore_nN (lv' := [(2, .null), (0, .ref (ad x0)), (1, .int x1)]) E dX5_join_5 rfl (by decide) rfl ?_
    refine j_aload_nN E 0 rfl dX5_join_6 rfl ?_
    refine j_ifnonnullN E dX5_join_7 ?_
    refine j_iconst (v := (-1)) E dX5_join_10 (by decide) ?_
    cases hf
    exact j_iret E hr hlk dX5_join_11
  · refine j_stk (st' := [.ref (ad a4)]) rfl ?_
    refine j_astore_n (lv' := [(2, .ref (ad a4)), (0, .ref (ad x0)), (1, .int x1)]) E dX5_join_5 rfl (by decide) rfl ?_
    refine j_aload_n E 0 rfl dX5_join_6 rfl ?_
    refine j_ifnonnull (tgt := 12) E dX5_join_7 (by decide) ?_
    refine j_aload_n E 1 rfl dX5_join_12 rfl ?_
    obtain ⟨v5, ev5, hf⟩ := bs hf
    refine j_getR (ci := 4) (k0 := 1) (T := TX5) (N := 6) E (mI inUX5) rfl (by decide) (mU uw_1_108) ev5 dX5_join_13 ?_
    refine j_aload_n E 0 rfl dX5_join_16 rfl ?_
    obtain ⟨k6, hf⟩ := ck_spec hf
    obtain ⟨v7, e8, hf⟩ := bs hf
    refine j_callV (ci := 3) (b := v5) (As := [.ref (ad a4)]) (rest := []) (v := (some (.int v7))) E (c_X4_lieIn l D ad cy h v5 a4 e8) (mcw E.1.2.2.2.2 uw_1_197 uw_1_194 uw_1_195 uw_1_196 uw_1_2 rfl rfl hd_X4_lieIn ⟨by decide, by decide⟩) rfl k6 rfl rfl (Nat.le_of_ble_eq_true rfl) dX5_join_17 ⟨Nat.zero_le _, Nat.zero_le _⟩ ?_
    refine j_stk (st' := [.int v7]) rfl ?_
    refine j_istore_n (lv' := [(3, .int v7), (2, .ref (ad a4)), (0, .ref (ad x0)), (1, .int x1)]) E dX5_join_20 rfl (by decide) rfl ?_
    refine j_iload_n E 0 rfl dX5_join_21 rfl ?_
    refine j_if_eq (tgt := 44) E dX5_join_22 (by decide) (fun z9 => ?_) (fun z9 => ?_)
    · have hf := ifp hf z9
      refine j_aload_n E 2 rfl dX5_join_44 rfl ?_
      obtain ⟨v10, ev10, hf⟩ := bs hf
      refine j_getR (ci := 4) (k0 := 1) (T := TX5) (N := 6) E (mI inUX5) rfl (by decide) (mU uw_1_108) ev10 dX5_join_45 ?_
      obtain ⟨k11, hf⟩ := ck_spec hf
      obtain ⟨h12, e13, hf⟩ := bs hf
      refine j_callV (ci := 3) (b := v10) (As := []) (rest := []) (v := none) E (c_X4_clear l D ad cy h v10 e13) (mcw E.1.2.2.2.2 uw_1_233 uw_1_230 uw_1_231 uw_1_232 uw_1_2 rfl rfl hd_X4_clear ⟨by decide, by decide⟩) rfl k11 rfl rfl (Nat.le_of_ble_eq_true rfl) dX5_join_48 ⟨Nat.zero_le _, Nat.zero_le _⟩ ?_
      refine j_stk (st' := []) rfl ?_
      refine j_iload_n E 0 rfl dX5_join_51 rfl ?_
      refine j_if_eq (tgt := 63) E dX5_join_52 (by decide) (fun z14 => ?_) (fun z14 => ?_)
      · have hf := ifp hf z14
        refine j_bipush (v := (-3)) E dX5_join_63 (by decide) ?_
        cases hf
        exact j_iret E hr hlk dX5_join_65
      · have hf := ifn hf z14
        refine j_aload_n E 2 rfl dX5_join_55 rfl ?_
        refine j_iload_n E 3 rfl dX5_join_56 rfl ?_
        obtain ⟨k15, hf⟩ := ck_spec hf
        obtain ⟨⟨h16, v17⟩, e18, hf⟩ := bs hf
        refine j_callV (ci := 4) (b := x0) (As := [.int x1]) (rest := []) (v := (some (.int v17))) E (c_X5_putDraft l D ad cy h12 x0 x1 e18) (mcw E.1.2.2.2.2 uw_1_143 uw_1_140 uw_1_142 us_1_0 uw_1_1 rfl rfl hd_X5_putDraft ⟨by decide, by decide⟩) rfl k15 rfl rfl (Nat.le_of_ble_eq_true rfl) dX5_join_57 ⟨Nat.zero_le _, Nat.zero_le _⟩ ?_
        refine j_stk (st' := [.int v17]) rfl ?_
        refine j_goto (tgt := 65) E dX5_join_60 (by decide) ?_
        cases hf
        exact j_iret E hr hlk dX5_join_65
    · have hf := ifn hf z9
      refine j_aload_n E 2 rfl dX5_join_25 rfl ?_
      obtain ⟨v19, ev19, hf⟩ := bs hf
      refine j_getR (ci := 4) (k0 := 3) (T := TX5) (N := 6) E (mI inUX5) rfl (by decide) (mU uw_1_110) ev19 dX5_join_26 ?_
      refine j_aload_n E 1 rfl dX5_join_29 rfl ?_
      obtain ⟨k20, hf⟩ := ck_spec hf
      obtain ⟨h21, e22, hf⟩ := bs hf
      refine j_callV (ci := 1) (b := v19) (As := [.ref (ad a4)]) (rest := []) (v := none) E (c_X2_become l D ad cy h v19 a4 e22) (mcw E.1.2.2.2.2 uw_1_209 uw_1_206 uw_1_207 uw_1_208 uw_1_4 rfl rfl hd_X2_become ⟨by decide, by decide⟩) rfl k20 rfl rfl (Nat.le_of_ble_eq_true rfl) dX5_join_30 ⟨Nat.zero_le _, Nat.zero_le _⟩ ?_
      refine j_stk (st' := []) rfl ?_
      refine j_aload_n E 2 rfl dX5_join_33 rfl ?_
      obtain ⟨v23, ev23, hf⟩ := bs hf
      refine j_getR (ci := 4) (k0 := 1) (T := TX5) (N := 6) E (mI inUX5) rfl (by decide) (mU uw_1_108) ev23 dX5_join_34 ?_
      refine j_aload_n E 2 rfl dX5_join_37 rfl ?_
      obtain ⟨v24, ev24, hf⟩ := bs hf
      refine j_getR (ci := 4) (k0 := 3) (T := TX5) (N := 6) E (mI inUX5) rfl (by decide) (mU uw_1_110) ev24 dX5_join_38 ?_
      obtain ⟨k25, hf⟩ := ck_spec hf
      obtain ⟨h26, e27, hf⟩ := bs hf
      refine j_callV (ci := 3) (b := v23) (As := [.ref (ad v24)]) (rest := []) (v := none) E (c_X4_addTo l D ad cy h21 v23 v24 e27) (mcw E.1.2.2.2.2 uw_1_216 uw_1_213 uw_1_214 uw_1_215 uw_1_2 rfl rfl hd_X4_addTo ⟨by decide, by decide⟩) rfl k25 rfl rfl (Nat.le_of_ble_eq_true rfl) dX5_join_41 ⟨Nat.zero_le _, Nat.zero_le _⟩ ?_
      refine j_stk (st' := []) rfl ?_
      refine j_aload_n E 2 rfl dX5_join_44 rfl ?_
      obtain ⟨v28, ev28, hf⟩ := bs hf
      refine j_getR (ci := 4) (k0 := 1) (T := TX5) (N := 6) E (mI inUX5) rfl (by decide) (mU uw_1_108) ev28 dX5_join_45 ?_
      obtain ⟨k29, hf⟩ := ck_spec hf
      obtain ⟨h30, e31, hf⟩ := bs hf
      refine j_callV (ci := 3) (b := v28) (As := []) (rest := []) (v := none) E (c_X4_clear l D ad cy h26 v28 e31) (mcw E.1.2.2.2.2 uw_1_233 uw_1_230 uw_1_231 uw_1_232 uw_1_2 rfl rfl hd_X4_clear ⟨by decide, by decide⟩) rfl k29 rfl rfl (Nat.le_of_ble_eq_true rfl) dX5_join_48 ⟨Nat.zero_le _, Nat.zero_le _⟩ ?_
      refine j_stk (st' := []) rfl ?_
      refine j_iload_n E 0 rfl dX5_join_51 rfl ?_
      refine j_if_eq (tgt := 63) E dX5_join_52 (by decide) (fun z32 => ?_) (fun z32 => ?_)
      · have hf := ifp hf z32
        refine j_bipush (v := (-3)) E dX5_join_63 (by decide) ?_
        cases hf
        exact j_iret E hr hlk dX5_join_65
      · have hf := ifn hf z32
        refine j_aload_n E 2 rfl dX5_join_55 rfl ?_
        refine j_iload_n E 3 rfl dX5_join_56 rfl ?_
        obtain ⟨k33, hf⟩ := ck_spec hf
        obtain ⟨⟨h34, v35⟩, e36, hf⟩ := bs hf
        refine j_callV (ci := 4) (b := x0) (As := [.int x1]) (rest := []) (v := (some (.int v35))) E (c_X5_putDraft l D ad cy h30 x0 x1 e36) (mcw E.1.2.2.2.2 uw_1_143 uw_1_140 uw_1_142 us_1_0 uw_1_1 rfl rfl hd_X5_putDraft ⟨by decide, by decide⟩) rfl k33 rfl rfl (Nat.le_of_ble_eq_true rfl) dX5_join_57 ⟨Nat.zero_le _, Nat.zero_le _⟩ ?_
        refine j_stk (st' := [.int v35]) rfl ?_
        refine j_goto (tgt := 65) E dX5_join_60 (by decide) ?_
        cases hf
        exact j_iret E hr hlk dX5_join_65
noncomputable def f_X5_count (h : HP) (x0 : Nat) (x1 : Int32) (x2 : Int32) : Option (Int32) :=
  ck 4 h x0 <|
  (f_X5_gridAt h x0 x1).bind fun v2 =>
  om v2 (
    some (-1)
  ) fun a4 =>
    if x2 = 0 then (
      (gI 1 h a4 0).bind fun v6 =>
      some v6
    ) else
    if x2 = 1 then (
      (gI 1 h a4 1).bind fun v8 =>
      some v8
    ) else
    if x2 = 2 then (
      ck 1 h a4 <|
      (f_X2_keptCount h a4).bind fun v11 =>
      some v11
    ) else
    if x2 = 3 then (
      ck 1 h a4 <|
      (f_X2_keptZeros h a4).bind fun v15 =>
      some v15
    ) else
    if x2 = 4 then (
      (gR 4 h x0 1).bind fun v18 =>
      (gI 3 h v18 0).bind fun v19 =>
      some v19
    ) else
    if x2 = 5 then (
      (gR 4 h x0 4).bind fun v21 =>
      (gI 2 h v21 0).bind fun v22 =>
      some v22
    ) else
    (
      some (-2)
    )
abbrev rmX5_count : Room := { frames := 3, cells := 0, slots := 0, locals := 66 }
theorem hd_X5_count : yX5_count.cls = RX5 ∧ yX5_count.cls ≠ "java/lang/invoke/MethodHandle" ∧ yX5_count.cls ≠ "java/lang/invoke/VarHandle" ∧ (parseMethodDescriptor yX5_count.desc).map (fun d => d.parameters.length) = some 2 := by decide +kernel
set_option maxRecDepth 100000 in
set_option maxHeartbeats 4000000 in
theorem c_X5_count (l : Launch) (D : va_G) (ad : Nat → Nat) (cy : Nat → ClassId) (h : HP) (x0 : Nat) (x1 : Int32) (x2 : Int32) {r : Int32} (hf : f_X5_count h x0 x1 x2 = some r) : Met l yX5_count (wsM yX5_count cX5_count 4 (some .int)) rmX5_count (va_Pc [.ref (ad x0), .int x1, .int x2] (PW D ad cy h)) (QV D ad cy (some (.int r)) h) 0 0 (Aw ad) := by
  refine met_of (own := RX5) (lv := [(0, .ref (ad x0)), (1, .int x1), (2, .int x2)]) (by decide) rfl (Nat.le_of_ble_eq_true rfl) rfl (fun p e s m args below meth c E hr hlk => ?_)
  unfold f_X5_count at hf
  refine j_aload_n E 0 rfl dX5_count_0 rfl ?_
  refine j_iload_n E 1 rfl dX5_count_1 rfl ?_
  obtain ⟨k1, hf⟩ := ck_spec hf
  obtain ⟨v2, e3, hf⟩ := bs hf
  refine j_callV (ci := 4) (b := x0) (As := [.int x1]) (rest := []) (v := (some (va_rf (v2.map ad)))) E (c_X5_gridAt l D ad cy h x0 x1 e3) (mcw E.1.2.2.2.2 uw_1_193 uw_1_190 uw_1_192 us_1_1 uw_1_1 rfl rfl hd_X5_gridAt ⟨by decide, by decide⟩) rfl k1 rfl rfl (Nat.le_of_ble_eq_true rfl) dX5_count_2 ⟨Nat.zero_le _, Nat.zero_le _⟩ ?_
  rcases om_spec hf with ⟨rfl, hf⟩ | ⟨a4, rfl, hf⟩
  · refine j_stk (st' := [.null]) rfl ?_
    refine j_astore_nN (lv' := [(3, .null), (0, .ref (ad x0)), (1, .int x1), (2, .int x2)]) E dX5_count_5 rfl (by decide) rfl ?_
    refine j_aload_nN E 0 rfl dX5_count_6 rfl ?_
    refine j_ifnonnullN E dX5_count_7 ?_
    refine j_iconst (v := (-1)) E dX5_count_10 (by decide) ?_
    cases hf
    exact j_iret E hr hlk dX5_count_11
  · refine j_stk (st' := [.ref (ad a4)]) rfl ?_
    refine j_astore_n (lv' := [(3, .ref (ad a4)), (0, .ref (ad x0)), (1, .int x1), (2, .int x2)]) E dX5_count_5 rfl (by decide) rfl ?_
    refine j_aload_n E 0 rfl dX5_count_6 rfl ?_
    refine j_ifnonnull (tgt := 12) E dX5_count_7 (by decide) ?_
    refine j_iload_n E 3 rfl dX5_count_12 rfl ?_
    by_cases z5 : x2 = 0
    · have hf := ifp hf z5
      refine j_tabIn (off := 39) (tgt := 52) E dX5_count_13 (by rw [z5]; decide) (by rw [z5]; decide) (by rw [z5]; decide) (by decide) ?_
      refine j_aload_n E 0 rfl dX5_count_52 rfl ?_
      obtain ⟨v6, ev6, hf⟩ := bs hf
      refine j_getI (ci := 1) (k0 := 0) (T := TX2) (N := 4) E (mI inUX2) rfl (by decide) (mU uw_1_76) ev6 dX5_count_53 ?_
      cases hf
      exact j_iret E hr hlk dX5_count_56
    · have hf := ifn hf z5
      by_cases z7 : x2 = 1
      · have hf := ifp hf z7
        refine j_tabIn (off := 44) (tgt := 57) E dX5_count_13 (by rw [z7]; decide) (by rw [z7]; decide) (by rw [z7]; decide) (by decide) ?_
        refine j_aload_n E 0 rfl dX5_count_57 rfl ?_
        obtain ⟨v8, ev8, hf⟩ := bs hf
        refine j_getI (ci := 1) (k0 := 1) (T := TX2) (N := 4) E (mI inUX2) rfl (by decide) (mU uw_1_79) ev8 dX5_count_58 ?_
        cases hf
        exact j_iret E hr hlk dX5_count_61
      · have hf := ifn hf z7
        by_cases z9 : x2 = 2
        · have hf := ifp hf z9
          refine j_tabIn (off := 49) (tgt := 62) E dX5_count_13 (by rw [z9]; decide) (by rw [z9]; decide) (by rw [z9]; decide) (by decide) ?_
          refine j_aload_n E 0 rfl dX5_count_62 rfl ?_
          obtain ⟨k10, hf⟩ := ck_spec hf
          obtain ⟨v11, e12, hf⟩ := bs hf
          refine j_callV (ci := 1) (b := a4) (As := []) (rest := []) (v := (some (.int v11))) E (c_X2_keptCount l D ad cy h a4 e12) (mcw E.1.2.2.2.2 uw_1_147 uw_1_144 uw_1_145 uw_1_146 uw_1_4 rfl rfl hd_X2_keptCount ⟨by decide, by decide⟩) rfl k10 rfl rfl (Nat.le_of_ble_eq_true rfl) dX5_count_63 ⟨Nat.zero_le _, Nat.zero_le _⟩ ?_
          refine j_stk (st' := [.int v11]) rfl ?_
          cases hf
          exact j_iret E hr hlk dX5_count_66
        · have hf := ifn hf z9
          by_cases z13 : x2 = 3
          · have hf := ifp hf z13
            refine j_tabIn (off := 54) (tgt := 67) E dX5_count_13 (by rw [z13]; decide) (by rw [z13]; decide) (by rw [z13]; decide) (by decide) ?_
            refine j_aload_n E 0 rfl dX5_count_67 rfl ?_
            obtain ⟨k14, hf⟩ := ck_spec hf
            obtain ⟨v15, e16, hf⟩ := bs hf
            refine j_callV (ci := 1) (b := a4) (As := []) (rest := []) (v := (some (.int v15))) E (c_X2_keptZeros l D ad cy h a4 e16) (mcw E.1.2.2.2.2 uw_2_1 uw_1_238 uw_1_239 uw_2_0 uw_1_4 rfl rfl hd_X2_keptZeros ⟨by decide, by decide⟩) rfl k14 rfl rfl (Nat.le_of_ble_eq_true rfl) dX5_count_68 ⟨Nat.zero_le _, Nat.zero_le _⟩ ?_
            refine j_stk (st' := [.int v15]) rfl ?_
            cases hf
            exact j_iret E hr hlk dX5_count_71
          · have hf := ifn hf z13
            by_cases z17 : x2 = 4
            · have hf := ifp hf z17
              refine j_tabIn (off := 59) (tgt := 72) E dX5_count_13 (by rw [z17]; decide) (by rw [z17]; decide) (by rw [z17]; decide) (by decide) ?_
              refine j_aload_n E 1 rfl dX5_count_72 rfl ?_
              obtain ⟨v18, ev18, hf⟩ := bs hf
              refine j_getR (ci := 4) (k0 := 1) (T := TX5) (N := 6) E (mI inUX5) rfl (by decide) (mU uw_1_108) ev18 dX5_count_73 ?_
              obtain ⟨v19, ev19, hf⟩ := bs hf
              refine j_getI (ci := 3) (k0 := 0) (T := TX4) (N := 4) E (mI inUX4) rfl (by decide) (mU uw_1_28) ev19 dX5_count_76 ?_
              cases hf
              exact j_iret E hr hlk dX5_count_79
            · have hf := ifn hf z17
              by_cases z20 : x2 = 5
              · have hf := ifp hf z20
                refine j_tabIn (off := 67) (tgt := 80) E dX5_count_13 (by rw [z20]; decide) (by rw [z20]; decide) (by rw [z20]; decide) (by decide) ?_
                refine j_aload_n E 1 rfl dX5_count_80 rfl ?_
                obtain ⟨v21, ev21, hf⟩ := bs hf
                refine j_getR (ci := 4) (k0 := 4) (T := TX5) (N := 6) E (mI inUX5) rfl (by decide) (mU uw_1_111) ev21 dX5_count_81 ?_
                obtain ⟨v22, ev22, hf⟩ := bs hf
                refine j_getI (ci := 2) (k0 := 0) (T := TX3) (N := 2) E (mI inUX3) rfl (by decide) (mU uw_1_98) ev22 dX5_count_84 ?_
                cases hf
                exact j_iret E hr hlk dX5_count_87
              · have hf := ifn hf z20
                refine j_tabOut (tgt := 88) E dX5_count_13 (sw_out x2 5 5 rfl (by decide) (fun k hk => match k, hk with | 0, _ => z5 | 1, _ => z7 | 2, _ => z9 | 3, _ => z13 | 4, _ => z17 | 5, _ => z20 | k + 6, hk => absurd hk (by omega))) (by decide) ?_
                refine j_bipush (v := (-2)) E dX5_count_88 (by decide) ?_
                cases hf
                exact j_iret E hr hlk dX5_count_90
