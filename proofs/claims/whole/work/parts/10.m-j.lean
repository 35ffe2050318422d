noncomputable def L_X6_count_77 (h : HP) (x0 : Nat) (x1 : Int32) : Nat → (Int32 → Option (Int32)) → Int32 → Int32 → Option (Int32)
  | 0, _, _, _ => none
  | n + 1, k, x3, x4 =>
      if ((256 * x1) + 256) ≤ x4 then (
        k x3
      ) else (
        (gR 5 h x0 3).bind fun v17 =>
        (aZ h v17 x4).bind fun v18 =>
        if v18 = 0 then (
          L_X6_count_77 h x0 x1 n k (x3 + 0) (x4 + 1)
        ) else (
          (gR 5 h x0 4).bind fun v20 =>
          (aJ h v20 x4).bind fun v21 =>
          if (lg_cmp v21 0) = 0 then (
            L_X6_count_77 h x0 x1 n k (x3 + 1) (x4 + 1)
          ) else (
            L_X6_count_77 h x0 x1 n k (x3 + 0) (x4 + 1)
          )
        )
      )
noncomputable def f_X6_count (h : HP) (x0 : Nat) (x1 : Int32) (x2 : Int32) : Option (Int32) :=
  ck 5 h x0 <|
  (f_X6_isTable h x0 x1).bind fun v2 =>
  if v2 = 0 then (
    some (-1)
  ) else (
    if x2 = 0 then (
      (gR 5 h x0 1).bind fun v6 =>
      (aI h v6 x1).bind fun v7 =>
      some v7
    ) else
    if x2 = 1 then (
      (gR 5 h x0 2).bind fun v9 =>
      (aI h v9 x1).bind fun v10 =>
      some v10
    ) else
    if x2 = 2 then (
      ck 5 h x0 <|
      (f_X6_many h x0 x1).bind fun v13 =>
      some v13
    ) else
    if x2 = 3 then (
      L_X6_count_77 h x0 x1 FU (fun x23 =>
        some x23) 0 (256 * x1)
    ) else
    if x2 = 4 then (
      (gI 5 h x0 5).bind fun v25 =>
      some v25
    ) else
    if x2 = 5 then (
      (gI 5 h x0 8).bind fun v27 =>
      some v27
    ) else
    (
      some (-2)
    )
  )
abbrev rmX6_count : Room := { frames := 2, cells := 0, slots := 0, locals := 41 }
theorem hd_X6_count : yX6_count.cls = RX6 ∧ yX6_count.cls ≠ "java/lang/invoke/MethodHandle" ∧ yX6_count.cls ≠ "java/lang/invoke/VarHandle" ∧ (parseMethodDescriptor yX6_count.desc).map (fun d => d.parameters.length) = some 2 := by decide +kernel
set_option maxRecDepth 100000 in
set_option maxHeartbeats 4000000 in
theorem w_X6_count_77 {p : Program} {l : Launch} {e : Env} {s : State} {m : MethodId} {args : Array Value} {below : List Frame} {meth : Method} {c : Code} {D : va_G} {ad : Nat → Nat} {cy : Nat → ClassId} (E : EE p s m args c cX6_count 5 (wsM yX6_count cX6_count 5 (some .int)) RX6 D cy) (hr : meth.sig.returnType = (some .int)) (hlk : meth.locks = false) {r : Int32} (h : HP) (x0 : Nat) (x1 : Int32) : ∀ (n : Nat) (k : (Int32 → Option (Int32))) (x3 : Int32) (x4 : Int32), (∀ (x3 : Int32), k x3 = some r → JJ p l e rmX6_count s m args below meth c 0 0 (MQ below (QV D ad cy (some (.int r)) h) args s 0 0 (Aw ad)) D ad cy (Aw ad) 5 h [(3, .int x3)] 127 []) → L_X6_count_77 h x0 x1 n k x3 x4 = some r → JJ p l e rmX6_count s m args below meth c 0 0 (MQ below (QV D ad cy (some (.int r)) h) args s 0 0 (Aw ad)) D ad cy (Aw ad) 5 h [(0, .ref (ad x0)), (1, .int x1), (3, .int x3), (4, .int x4)] 77 [] := by
  intro n
  induction n with
  | zero => intro k x3 x4 hk hf; cases hf
  | succ n ih =>
    intro k x3 x4 hk hf
    unfold L_X6_count_77 at hf
    refine j_iload E 3 rfl dX6_count_77 ?_
    refine j_sipush (v := 256) E dX6_count_79 (by decide) ?_
    refine j_iload_n E 1 rfl dX6_count_82 rfl ?_
    refine j_imul E dX6_count_83 ?_
    refine j_sipush (v := 256) E dX6_count_84 (by decide) ?_
    refine j_iadd E dX6_count_87 ?_
    refine j_icmp_ge (tgt := 127) E dX6_count_88 (by decide) (fun z16 => ?_) (fun z16 => ?_)
    · have hf := ifp hf z16
      refine j_perm (lv' := [(3, .int x3)]) [2] rfl ?_
      exact hk x3 hf
    · have hf := ifn hf z16
      refine j_iload_n E 2 rfl dX6_count_91 rfl ?_
      refine j_aload_n E 0 rfl dX6_count_92 rfl ?_
      obtain ⟨v17, ev17, hf⟩ := bs hf
      refine j_getR (ci := 5) (k0 := 3) (T := TX6) (N := 14) E (mI inUX6) rfl (by decide) (mU uw_3_107) ev17 dX6_count_93 ?_
      refine j_iload E 3 rfl dX6_count_96 ?_
      obtain ⟨v18, ev18, hf⟩ := bs hf
      refine j_aZ E ev18 dX6_count_98 ?_
      refine j_if_eq (tgt := 118) E dX6_count_99 (by decide) (fun z19 => ?_) (fun z19 => ?_)
      · have hf := ifp hf z19
        refine j_iconst (v := 0) E dX6_count_118 (by decide) ?_
        refine j_iadd E dX6_count_119 ?_
        refine j_istore_n (lv' := [(3, .int (x3 + 0)), (0, .ref (ad x0)), (1, .int x1), (4, .int x4)]) E dX6_count_120 rfl (by decide) rfl ?_
        refine j_iinc (v := (x4 + 1)) (k0 := 3) (lv' := [(4, .int (x4 + 1)), (3, .int (x3 + 0)), (0, .ref (ad x0)), (1, .int x1)]) E dX6_count_121 rfl (congrArg (fun z => x4 + z) (by decide)) (by decide) rfl ?_
        refine j_goto (tgt := 77) E dX6_count_124 (by decide) ?_
        refine j_perm (lv' := [(0, .ref (ad x0)), (1, .int x1), (3, .int (x3 + 0)), (4, .int (x4 + 1))]) [2, 3, 1, 0] rfl ?_
        exact ih k (x3 + 0) (x4 + 1) hk hf
      · have hf := ifn hf z19
        refine j_aload_n E 0 rfl dX6_count_102 rfl ?_
        obtain ⟨v20, ev20, hf⟩ := bs hf
        refine j_getR (ci := 5) (k0 := 4) (T := TX6) (N := 14) E (mI inUX6) rfl (by decide) (mU uw_3_108) ev20 dX6_count_103 ?_
        refine j_iload E 3 rfl dX6_count_106 ?_
        obtain ⟨v21, ev21, hf⟩ := bs hf
        refine j_aJ E ev21 dX6_count_108 ?_
        refine j_lconst (v := 0) E dX6_count_109 (by decide) ?_
        refine j_lcmp E dX6_count_110 ?_
        refine j_if_ne (tgt := 118) E dX6_count_111 (by decide) (fun z22 => ?_) (fun z22 => ?_)
        · have hf := ifn hf z22
          refine j_iconst (v := 0) E dX6_count_118 (by decide) ?_
          refine j_iadd E dX6_count_119 ?_
          refine j_istore_n (lv' := [(3, .int (x3 + 0)), (0, .ref (ad x0)), (1, .int x1), (4, .int x4)]) E dX6_count_120 rfl (by decide) rfl ?_
          refine j_iinc (v := (x4 + 1)) (k0 := 3) (lv' := [(4, .int (x4 + 1)), (3, .int (x3 + 0)), (0, .ref (ad x0)), (1, .int x1)]) E dX6_count_121 rfl (congrArg (fun z => x4 + z) (by decide)) (by decide) rfl ?_
          refine j_goto (tgt := 77) E dX6_count_124 (by decide) ?_
          refine j_perm (lv' := [(0, .ref (ad x0)), (1, .int x1), (3, .int (x3 + 0)), (4, .int (x4 + 1))]) [2, 3, 1, 0] rfl ?_
          exact ih k (x3 + 0) (x4 + 1) hk hf
        · have hf := ifp hf z22
          refine j_iconst (v := 1) E dX6_count_114 (by decide) ?_
          refine j_goto (tgt := 119) E dX6_count_115 (by decide) ?_
          refine j_iadd E dX6_count_119 ?_
          refine j_istore_n (lv' := [(3, .int (x3 + 1)), (0, .ref (ad x0)), (1, .int x1), (4, .int x4)]) E dX6_count_120 rfl (by decide) rfl ?_
          refine j_iinc (v := (x4 + 1)) (k0 := 3) (lv' := [(4, .int (x4 + 1)), (3, .int (x3 + 1)), (0, .ref (ad x0)), (1, .int x1)]) E dX6_count_121 rfl (congrArg (fun z => x4 + z) (by decide)) (by decide) rfl ?_
          refine j_goto (tgt := 77) E dX6_count_124 (by decide) ?_
          refine j_perm (lv' := [(0, .ref (ad x0)), (1, .int x1), (3, .int (x3 + 1)), (4, .int (x4 + 1))]) [2, 3, 1, 0] rfl ?_
          exact ih k (x3 + 1) (x4 + 1) hk hf
set_option maxRecDepth 100000 in
set_option maxHeartbeats 4000000 in
theorem c_X6_count (l : Launch) (D : va_G) (ad : Nat → Nat) (cy : Nat → ClassId) (h : HP) (x0 : Nat) (x1 : Int32) (x2 : Int32) {r : Int32} (hf : f_X6_count h x0 x1 x2 = some r) : Met l yX6_count (wsM yX6_count cX6_count 5 (some .int)) rmX6_count (va_Pc [.ref (ad x0), .int x1, .int x2] (PW D ad cy h)) (QV D ad cy (some (.int r)) h) 0 0 (Aw ad) := by
  refine met_of (own := RX6) (lv := [(0, .ref (ad x0)), (1, .int x1), (2, .int x2)]) (by decide) rfl (Nat.le_of_ble_eq_true rfl) rfl (fun p e s m args below meth c E hr hlk => ?_)
  unfold f_X6_count at hf
  refine j_aload_n E 0 rfl dX6_count_0 rfl ?_
  refine j_iload_n E 1 rfl dX6_count_1 rfl ?_
  obtain ⟨k1, hf⟩ := ck_spec hf
  obtain ⟨v2, e3, hf⟩ := bs hf
  refine j_callV (ci := 5) (b := x0) (As := [.int x1]) (rest := []) (v := (some (.int v2))) E (c_X6_isTable l D ad cy h x0 x1 e3) (mcw E.1.2.2.2.2 uw_3_186 uw_3_183 uw_3_185 us_2_2 uw_1_6 rfl rfl hd_X6_isTable ⟨by decide, by decide⟩) rfl k1 rfl rfl (Nat.le_of_ble_eq_true rfl) dX6_count_2 ⟨Nat.zero_le _, Nat.zero_le _⟩ ?_
  refine j_stk (st' := [.int v2]) rfl ?_
  refine j_if_ne (tgt := 10) E dX6_count_5 (by decide) (fun z4 => ?_) (fun z4 => ?_)
  · have hf := ifn hf z4
    refine j_iload_n E 2 rfl dX6_count_10 rfl ?_
    by_cases z5 : x2 = 0
    · have hf := ifp hf z5
      refine j_tabIn (off := 37) (tgt := 48) E dX6_count_11 (by rw [z5]; decide) (by rw [z5]; decide) (by rw [z5]; decide) (by decide) ?_
      refine j_aload_n E 0 rfl dX6_count_48 rfl ?_
      obtain ⟨v6, ev6, hf⟩ := bs hf
      refine j_getR (ci := 5) (k0 := 1) (T := TX6) (N := 14) E (mI inUX6) rfl (by decide) (mU uw_3_105) ev6 dX6_count_49 ?_
      refine j_iload_n E 1 rfl dX6_count_52 rfl ?_
      obtain ⟨v7, ev7, hf⟩ := bs hf
      refine j_aI E ev7 dX6_count_53 ?_
      cases hf
      exact j_iret E hr hlk dX6_count_54
    · have hf := ifn hf z5
      by_cases z8 : x2 = 1
      · have hf := ifp hf z8
        refine j_tabIn (off := 44) (tgt := 55) E dX6_count_11 (by rw [z8]; decide) (by rw [z8]; decide) (by rw [z8]; decide) (by decide) ?_
        refine j_aload_n E 0 rfl dX6_count_55 rfl ?_
        obtain ⟨v9, ev9, hf⟩ := bs hf
        refine j_getR (ci := 5) (k0 := 2) (T := TX6) (N := 14) E (mI inUX6) rfl (by decide) (mU uw_3_106) ev9 dX6_count_56 ?_
        refine j_iload_n E 1 rfl dX6_count_59 rfl ?_
        obtain ⟨v10, ev10, hf⟩ := bs hf
        refine j_aI E ev10 dX6_count_60 ?_
        cases hf
        exact j_iret E hr hlk dX6_count_61
      · have hf := ifn hf z8
        by_cases z11 : x2 = 2
        · have hf := ifp hf z11
          refine j_tabIn (off := 51) (tgt := 62) E dX6_count_11 (by rw [z11]; decide) (by rw [z11]; decide) (by rw [z11]; decide) (by decide) ?_
          refine j_aload_n E 0 rfl dX6_count_62 rfl ?_
          refine j_iload_n E 1 rfl dX6_count_63 rfl ?_
          obtain ⟨k12, hf⟩ := ck_spec hf
          obtain ⟨v13, e14, hf⟩ := bs hf
          refine j_callV (ci := 5) (b := x0) (As := [.int x1]) (rest := []) (v := (some (.int v13))) E (c_X6_many l D ad cy h x0 x1 e14) (mcw E.1.2.2.2.2 uw_3_166 uw_3_163 uw_3_165 us_2_1 uw_1_6 rfl rfl hd_X6_many ⟨by decide, by decide⟩) rfl k12 rfl rfl (Nat.le_of_ble_eq_true rfl) dX6_count_64 ⟨Nat.zero_le _, Nat.zero_le _⟩ ?_
          refine j_stk (st' := [.int v13]) rfl ?_
          cases hf
          exact j_iret E hr hlk dX6_count_67
        · have hf := ifn hf z11
          by_cases z15 : x2 = 3
          · have hf := ifp hf z15
            refine j_tabIn (off := 57) (tgt := 68) E dX6_count_11 (by rw [z15]; decide) (by rw [z15]; decide) (by rw [z15]; decide) (by decide) ?_
            refine j_iconst (v := 0) E dX6_count_68 (by decide) ?_
            refine j_istore_n (lv' := [(3, .int 0), (0, .ref (ad x0)), (1, .int x1), (2, .int x2)]) E dX6_count_69 rfl (by decide) rfl ?_
            refine j_sipush (v := 256) E dX6_count_70 (by decide) ?_
            refine j_iload_n E 2 rfl dX6_count_73 rfl ?_
            refine j_imul E dX6_count_74 ?_
            refine j_istore (lv' := [(4, .int (256 * x1)), (3, .int 0), (0, .ref (ad x0)), (1, .int x1), (2, .int x2)]) E dX6_count_75 (by decide) rfl ?_
            refine j_perm (lv' := [(0, .ref (ad x0)), (1, .int x1), (3, .int 0), (4, .int (256 * x1))]) [2, 3, 1, 0] rfl ?_
            refine w_X6_count_77 E hr hlk h x0 x1 FU _ 0 (256 * x1) (fun x23 hf => ?_) hf
            refine j_iload_n E 0 rfl dX6_count_127 rfl ?_
            cases hf
            exact j_iret E hr hlk dX6_count_128
          · have hf := ifn hf z15
            by_cases z24 : x2 = 4
            · have hf := ifp hf z24
              refine j_tabIn (off := 118) (tgt := 129) E dX6_count_11 (by rw [z24]; decide) (by rw [z24]; decide) (by rw [z24]; decide) (by decide) ?_
              refine j_aload_n E 0 rfl dX6_count_129 rfl ?_
              obtain ⟨v25, ev25, hf⟩ := bs hf
              refine j_getI (ci := 5) (k0 := 5) (T := TX6) (N := 14) E (mI inUX6) rfl (by decide) (mU uw_3_109) ev25 dX6_count_130 ?_
              cases hf
              exact j_iret E hr hlk dX6_count_133
            · have hf := ifn hf z24
              by_cases z26 : x2 = 5
              · have hf := ifp hf z26
                refine j_tabIn (off := 123) (tgt := 134) E dX6_count_11 (by rw [z26]; decide) (by rw [z26]; decide) (by rw [z26]; decide) (by decide) ?_
                refine j_aload_n E 0 rfl dX6_count_134 rfl ?_
                obtain ⟨v27, ev27, hf⟩ := bs hf
                refine j_getI (ci := 5) (k0 := 8) (T := TX6) (N := 14) E (mI inUX6) rfl (by decide) (mU uw_3_112) ev27 dX6_count_135 ?_
                cases hf
                exact j_iret E hr hlk dX6_count_138
              · have hf := ifn hf z26
                refine j_tabOut (tgt := 139) E dX6_count_11 (sw_out x2 5 5 rfl (by decide) (fun k hk => match k, hk with | 0, _ => z5 | 1, _ => z8 | 2, _ => z11 | 3, _ => z15 | 4, _ => z24 | 5, _ => z26 | k + 6, hk => absurd hk (by omega))) (by decide) ?_
                refine j_bipush (v := (-2)) E dX6_count_139 (by decide) ?_
                cases hf
                exact j_iret E hr hlk dX6_count_141
  · have hf := ifp hf z4
    refine j_iconst (v := (-1)) E dX6_count_8 (by decide) ?_
    cases hf
    exact j_iret E hr hlk dX6_count_9
noncomputable def f_X6_at (h : HP) (x0 : Nat) (x1 : Int32) (x2 : Int32) (x3 : Int32) : Option (Int64) :=
  ck 5 h x0 <|
  (f_X6_isTable h x0 x1).bind fun v2 =>
  if v2 = 0 then (
    some 0
  ) else (
    ck 5 h x0 <|
    (f_X6_holds h x0 x1 x2 x3).bind fun v6 =>
    some v6
  )
abbrev rmX6_at : Room := { frames := 3, cells := 0, slots := 0, locals := 68 }
theorem hd_X6_at : yX6_at.cls = RX6 ∧ yX6_at.cls ≠ "java/lang/invoke/MethodHandle" ∧ yX6_at.cls ≠ "java/lang/invoke/VarHandle" ∧ (parseMethodDescriptor yX6_at.desc).map (fun d => d.parameters.length) = some 3 := by decide +kernel
set_option maxRecDepth 100000 in
set_option maxHeartbeats 4000000 in
theorem c_X6_at (l : Launch) (D : va_G) (ad : Nat → Nat) (cy : Nat → ClassId) (h : HP) (x0 : Nat) (x1 : Int32) (x2 : Int32) (x3 : Int32) {r : Int64} (hf : f_X6_at h x0 x1 x2 x3 = some r) : Met l yX6_at (wsM yX6_at cX6_at 4 (some .long)) rmX6_at (va_Pc [.ref (ad x0), .int x1, .int x2, .int x3] (PW D ad cy h)) (QV D ad cy (some (.long r)) h) 0 0 (Aw ad) := by
  refine met_of (own := RX6) (lv := [(0, .ref (ad x0)), (1, .int x1), (2, .int x2), (3, .int x3)]) (by decide) rfl (Nat.le_of_ble_eq_true rfl) rfl (fun p e s m args below meth c E hr hlk => ?_)
  unfold f_X6_at at hf
  refine j_aload_n E 0 rfl dX6_at_0 rfl ?_
  refine j_iload_n E 1 rfl dX6_at_1 rfl ?_
  obtain ⟨k1, hf⟩ := ck_spec hf
  obtain ⟨v2, e3, hf⟩ := bs hf
  refine j_callV (ci := 5) (b := x0) (As := [.int x1]) (rest := []) (v := (some (.int v2))) E (c_X6_isTable l D ad cy h x0 x1 e3) (mcw E.1.2.2.2.2 uw_3_186 uw_3_183 uw_3_185 us_2_2 uw_1_6 rfl rfl hd_X6_isTable ⟨by decide, by decide⟩) rfl k1 rfl rfl (Nat.le_of_ble_eq_true rfl) dX6_at_2 ⟨Nat.zero_le _, Nat.zero_le _⟩ ?_
  refine j_stk (st' := [.int v2]) rfl ?_
  refine j_if_eq (tgt := 18) E dX6_at_5 (by decide) (fun z4 => ?_) (fun z4 => ?_)
  · have hf := ifp hf z4
    refine j_lconst (v := 0) E dX6_at_18 (by decide) ?_
    cases hf
    exact j_lret E hr hlk dX6_at_19
  · have hf := ifn hf z4
    refine j_aload_n E 0 rfl dX6_at_8 rfl ?_
    refine j_iload_n E 1 rfl dX6_at_9 rfl ?_
    refine j_iload_n E 2 rfl dX6_at_10 rfl ?_
    refine j_iload_n E 3 rfl dX6_at_11 rfl ?_
    obtain ⟨k5, hf⟩ := ck_spec hf
    obtain ⟨v6, e7, hf⟩ := bs hf
    refine j_callV (ci := 5) (b := x0) (As := [.int x1, .int x2, .int x3]) (rest := []) (v := (some (.long v6))) E (c_X6_holds l D ad cy h x0 x1 x2 x3 e7) (mcw E.1.2.2.2.2 uw_3_206 uw_3_203 uw_3_205 us_2_5 uw_1_6 rfl rfl hd_X6_holds ⟨by decide, by decide⟩) rfl k5 rfl rfl (Nat.le_of_ble_eq_true rfl) dX6_at_12 ⟨Nat.zero_le _, Nat.zero_le _⟩ ?_
    refine j_stk (st' := [.long v6]) rfl ?_
    refine j_goto (tgt := 19) E dX6_at_15 (by decide) ?_
    cases hf
    exact j_lret E hr hlk dX6_at_19
noncomputable def L_X6_kept_46 (h : HP) (x0 : Nat) (x1 : Int32) (x2 : Int32) (x3 : Int32) : Nat → (Int32 → Option (Int32)) → Int32 → Int32 → Option (Int32)
  | 0, _, _, _ => none
  | n + 1, k, x4, x5 =>
      (f_X6_cellOf x1 x2 x3).bind fun v13 =>
      if v13 ≤ x5 then (
        k x4
      ) else (
        (gR 5 h x0 3).bind fun v16 =>
        (aZ h v16 x5).bind fun v17 =>
        if v17 = 0 then (
          L_X6_kept_46 h x0 x1 x2 x3 n k (x4 + 0) (x5 + 1)
        ) else (
          L_X6_kept_46 h x0 x1 x2 x3 n k (x4 + 1) (x5 + 1)
        )
      )
noncomputable def f_X6_kept (h : HP) (x0 : Nat) (x1 : Int32) (x2 : Int32) (x3 : Int32) : Option (Int32) :=
  ck 5 h x0 <|
  (f_X6_isTable h x0 x1).bind fun v2 =>
  if v2 = 0 then (
    some (-1)
  ) else (
    ck 5 h x0 <|
    (f_X6_isIn h x0 x1 x2 x3).bind fun v6 =>
    if v6 = 0 then (
      some (-2)
    ) else (
      ck 5 h x0 <|
      (f_X6_has h x0 x1 x2 x3).bind fun v10 =>
      if v10 = 0 then (
        some (-3)
      ) else (
        L_X6_kept_46 h x0 x1 x2 x3 FU (fun x19 =>
          some x19) 0 (256 * x1)
      )
    )
  )
abbrev rmX6_kept : Room := { frames := 2, cells := 0, slots := 0, locals := 45 }
theorem hd_X6_kept : yX6_kept.cls = RX6 ∧ yX6_kept.cls ≠ "java/lang/invoke/MethodHandle" ∧ yX6_kept.cls ≠ "java/lang/invoke/VarHandle" ∧ (parseMethodDescriptor yX6_kept.desc).map (fun d => d.parameters.length) = some 3 := by decide +kernel
set_option maxRecDepth 100000 in
set_option maxHeartbeats 4000000 in
theorem w_X6_kept_46 {p : Program} {l : Launch} {e : Env} {s : State} {m : MethodId} {args : Array Value} {below : List Frame} {meth : Method} {c : Code} {D : va_G} {ad : Nat → Nat} {cy : Nat → ClassId} (E : EE p s m args c cX6_kept 6 (wsM yX6_kept cX6_kept 6 (some .int)) RX6 D cy) (hr : meth.sig.returnType = (some .int)) (hlk : meth.locks = false) {r : Int32} (h : HP) (x0 : Nat) (x1 : Int32) (x2 : Int32) (x3 : Int32) : ∀ (n : Nat) (k : (Int32 → Option (Int32))) (x4 : Int32) (x5 : Int32), (∀ (x4 : Int32), k x4 = some r → JJ p l e rmX6_kept s m args below meth c 0 0 (MQ below (QV D ad cy (some (.int r)) h) args s 0 0 (Aw ad)) D ad cy (Aw ad) 6 h [(4, .int x4)] 83 []) → L_X6_kept_46 h x0 x1 x2 x3 n k x4 x5 = some r → JJ p l e rmX6_kept s m args below meth c 0 0 (MQ below (QV D ad cy (some (.int r)) h) args s 0 0 (Aw ad)) D ad cy (Aw ad) 6 h [(0, .ref (ad x0)), (1, .int x1), (2, .int x2), (3, .int x3), (4, .int x4), (5, .int x5)] 46 [] := by
  intro n
  induction n with
  | zero => intro k x4 x5 hk hf; cases hf
  | succ n ih =>
    intro k x4 x5 hk hf
    unfold L_X6_kept_46 at hf
    refine j_iload E 5 rfl dX6_kept_46 ?_
    refine j_iload_n E 1 rfl dX6_kept_48 rfl ?_
    refine j_iload_n E 2 rfl dX6_kept_49 rfl ?_
    refine j_iload_n E 3 rfl dX6_kept_50 rfl ?_
    obtain ⟨v13, e14, hf⟩ := bs hf
    refine j_callS (As := [.int x1, .int x2, .int x3]) (rest := [.int x5]) (v := (some (.int v13))) E (c_X6_cellOf l D ad cy h x1 x2 x3 e14) (mcs E.1.2.2.2.2 uw_3_213 uw_3_211 uw_3_212 uw_1_6 rfl rfl hd_X6_cellOf ⟨by decide, by decide⟩) rfl rfl (Nat.le_of_ble_eq_true rfl) dX6_kept_51 ⟨Nat.zero_le _, Nat.zero_le _⟩ ?_
    refine j_stk (st' := [.int v13, .int x5]) rfl ?_
    refine j_icmp_ge (tgt := 83) E dX6_kept_54 (by decide) (fun z15 => ?_) (fun z15 => ?_)
    · have hf := ifp hf z15
      refine j_perm (lv' := [(4, .int x4)]) [4] rfl ?_
      exact hk x4 hf
    · have hf := ifn hf z15
      refine j_iload E 4 rfl dX6_kept_57 ?_
      refine j_aload_n E 0 rfl dX6_kept_59 rfl ?_
      obtain ⟨v16, ev16, hf⟩ := bs hf
      refine j_getR (ci := 5) (k0 := 3) (T := TX6) (N := 14) E (mI inUX6) rfl (by decide) (mU uw_3_107) ev16 dX6_kept_60 ?_
      refine j_iload E 5 rfl dX6_kept_63 ?_
      obtain ⟨v17, ev17, hf⟩ := bs hf
      refine j_aZ E ev17 dX6_kept_65 ?_
      refine j_if_eq (tgt := 73) E dX6_kept_66 (by decide) (fun z18 => ?_) (fun z18 => ?_)
      · have hf := ifp hf z18
        refine j_iconst (v := 0) E dX6_kept_73 (by decide) ?_
        refine j_iadd E dX6_kept_74 ?_
        refine j_istore (lv' := [(4, .int (x4 + 0)), (0, .ref (ad x0)), (1, .int x1), (2, .int x2), (3, .int x3), (5, .int x5)]) E dX6_kept_75 (by decide) rfl ?_
        refine j_iinc (v := (x5 + 1)) (k0 := 5) (lv' := [(5, .int (x5 + 1)), (4, .int (x4 + 0)), (0, .ref (ad x0)), (1, .int x1), (2, .int x2), (3, .int x3)]) E dX6_kept_77 rfl (congrArg (fun z => x5 + z) (by decide)) (by decide) rfl ?_
        refine j_goto (tgt := 46) E dX6_kept_80 (by decide) ?_
        refine j_perm (lv' := [(0, .ref (ad x0)), (1, .int x1), (2, .int x2), (3, .int x3), (4, .int (x4 + 0)), (5, .int (x5 + 1))]) [2, 3, 4, 5, 1, 0] rfl ?_
        exact ih k (x4 + 0) (x5 + 1) hk hf
      · have hf := ifn hf z18
        refine j_iconst (v := 1) E dX6_kept_69 (by decide) ?_
        refine j_goto (tgt := 74) E dX6_kept_70 (by decide) ?_
        refine j_iadd E dX6_kept_74 ?_
        refine j_istore (lv' := [(4, .int (x4 + 1)), (0, .ref (ad x0)), (1, .int x1), (2, .int x2), (3, .int x3), (5, .int x5)]) E dX6_kept_75 (by decide) rfl ?_
        refine j_iinc (v := (x5 + 1)) (k0 := 5) (lv' := [(5, .int (x5 + 1)), (4, .int (x4 + 1)), (0, .ref (ad x0)), (1, .int x1), (2, .int x2), (3, .int x3)]) E dX6_kept_77 rfl (congrArg (fun z => x5 + z) (by decide)) (by decide) rfl ?_
        refine j_goto (tgt := 46) E dX6_kept_80 (by decide) ?_
        refine j_perm (lv' := [(0, .ref (ad x0)), (1, .int x1), (2, .int x2), (3, .int x3), (4, .int (x4 + 1)), (5, .int (x5 + 1))]) [2, 3, 4, 5, 1, 0] rfl ?_
        exact ih k (x4 + 1) (x5 + 1) hk hf
set_option maxRecDepth 100000 in
set_option maxHeartbeats 4000000 in
theorem c_X6_kept (l : Launch) (D : va_G) (ad : Nat → Nat) (cy : Nat → ClassId) (h : HP) (x0 : Nat) (x1 : Int32) (x2 : Int32) (x3 : Int32) {r : Int32} (hf : f_X6_kept h x0 x1 x2 x3 = some r) : Met l yX6_kept (wsM yX6_kept cX6_kept 6 (some .int)) rmX6_kept (va_Pc [.ref (ad x0), .int x1, .int x2, .int x3] (PW D ad cy h)) (QV D ad cy (some (.int r)) h) 0 0 (Aw ad) := by
  refine met_of (own := RX6) (lv := [(0, .ref (ad x0)), (1, .int x1), (2, .int x2), (3, .int x3)]) (by decide) rfl (Nat.le_of_ble_eq_true rfl) rfl (fun p e s m args below meth c E hr hlk => ?_)
  unfold f_X6_kept at hf
  refine j_aload_n E 0 rfl dX6_kept_0 rfl ?_
  refine j_iload_n E 1 rfl dX6_kept_1 rfl ?_
  obtain ⟨k1, hf⟩ := ck_spec hf
  obtain ⟨v2, e3, hf⟩ := bs hf
  refine j_callV (ci := 5) (b := x0) (As := [.int x1]) (rest := []) (v := (some (.int v2))) E (c_X6_isTable l D ad cy h x0 x1 e3) (mcw E.1.2.2.2.2 uw_3_186 uw_3_183 uw_3_185 us_2_2 uw_1_6 rfl rfl hd_X6_isTable ⟨by decide, by decide⟩) rfl k1 rfl rfl (Nat.le_of_ble_eq_true rfl) dX6_kept_2 ⟨Nat.zero_le _, Nat.zero_le _⟩ ?_
  refine j_stk (st' := [.int v2]) rfl ?_
  refine j_if_ne (tgt := 10) E dX6_kept_5 (by decide) (fun z4 => ?_) (fun z4 => ?_)
  · have hf := ifn hf z4
    refine j_aload_n E 0 rfl dX6_kept_10 rfl ?_
    refine j_iload_n E 1 rfl dX6_kept_11 rfl ?_
    refine j_iload_n E 2 rfl dX6_kept_12 rfl ?_
    refine j_iload_n E 3 rfl dX6_kept_13 rfl ?_
    obtain ⟨k5, hf⟩ := ck_spec hf
    obtain ⟨v6, e7, hf⟩ := bs hf
    refine j_callV (ci := 5) (b := x0) (As := [.int x1, .int x2, .int x3]) (rest := []) (v := (some (.int v6))) E (c_X6_isIn l D ad cy h x0 x1 x2 x3 e7) (mcw E.1.2.2.2.2 uw_3_194 uw_3_191 uw_3_193 us_2_4 uw_1_6 rfl rfl hd_X6_isIn ⟨by decide, by decide⟩) rfl k5 rfl rfl (Nat.le_of_ble_eq_true rfl) dX6_kept_14 ⟨Nat.zero_le _, Nat.zero_le _⟩ ?_
    refine j_stk (st' := [.int v6]) rfl ?_
    refine j_if_ne (tgt := 23) E dX6_kept_17 (by decide) (fun z8 => ?_) (fun z8 => ?_)
    · have hf := ifn hf z8
      refine j_aload_n E 0 rfl dX6_kept_23 rfl ?_
      refine j_iload_n E 1 rfl dX6_kept_24 rfl ?_
      refine j_iload_n E 2 rfl dX6_kept_25 rfl ?_
      refine j_iload_n E 3 rfl dX6_kept_26 rfl ?_
      obtain ⟨k9, hf⟩ := ck_spec hf
      obtain ⟨v10, e11, hf⟩ := bs hf
      refine j_callV (ci := 5) (b := x0) (As := [.int x1, .int x2, .int x3]) (rest := []) (v := (some (.int v10))) E (c_X6_has l D ad cy h x0 x1 x2 x3 e11) (mcw E.1.2.2.2.2 uw_3_210 uw_3_207 uw_3_209 us_2_6 uw_1_6 rfl rfl hd_X6_has ⟨by decide, by decide⟩) rfl k9 rfl rfl (Nat.le_of_ble_eq_true rfl) dX6_kept_27 ⟨Nat.zero_le _, Nat.zero_le _⟩ ?_
      refine j_stk (st' := [.int v10]) rfl ?_
      refine j_if_ne (tgt := 36) E dX6_kept_30 (by decide) (fun z12 => ?_) (fun z12 => ?_)
      · have hf := ifn hf z12
        refine j_iconst (v := 0) E dX6_kept_36 (by decide) ?_
        refine j_istore (lv' := [(4, .int 0), (0, .ref (ad x0)), (1, .int x1), (2, .int x2), (3, .int x3)]) E dX6_kept_37 (by decide) rfl ?_
        refine j_sipush (v := 256) E dX6_kept_39 (by decide) ?_
        refine j_iload_n E 2 rfl dX6_kept_42 rfl ?_
        refine j_imul E dX6_kept_43 ?_
        refine j_istore (lv' := [(5, .int (256 * x1)), (4, .int 0), (0, .ref (ad x0)), (1, .int x1), (2, .int x2), (3, .int x3)]) E dX6_kept_44 (by decide) rfl ?_
        refine j_perm (lv' := [(0, .ref (ad x0)), (1, .int x1), (2, .int x2), (3, .int x3), (4, .int 0), (5, .int (256 * x1))]) [2, 3, 4, 5, 1, 0] rfl ?_
        refine w_X6_kept_46 E hr hlk h x0 x1 x2 x3 FU _ 0 (256 * x1) (fun x19 hf => ?_) hf
        refine j_iload E 0 rfl dX6_kept_83 ?_
        cases hf
        exact j_iret E hr hlk dX6_kept_85
      · have hf := ifp hf z12
        refine j_bipush (v := (-3)) E dX6_kept_33 (by decide) ?_
        cases hf
        exact j_iret E hr hlk dX6_kept_35
    · have hf := ifp hf z8
      refine j_bipush (v := (-2)) E dX6_kept_20 (by decide) ?_
      cases hf
      exact j_iret E hr hlk dX6_kept_22
  · have hf := ifp hf z4
    refine j_iconst (v := (-1)) E dX6_kept_8 (by decide) ?_
    cases hf
    exact j_iret E hr hlk dX6_kept_9
noncomputable def L_X6_place_15 (h : HP) (x0 : Nat) (x1 : Int32) (x2 : Int32) : Nat → (Option (Int32)) → Int32 → Int32 → Option (Int32)
  | 0, _, _, _ => none
  | n + 1, k, x3, x4 =>
      if 256 ≤ x4 then (
        k
      ) else (
        if x2 < 0 then (
          k
        ) else (
          (gR 5 h x0 3).bind fun v7 =>
          (aZ h v7 ((256 * x1) + x4)).bind fun v8 =>
          if v8 = 0 then (
            L_X6_place_15 h x0 x1 x2 n k x3 (x4 + 1)
          ) else (
            if x3 = 0 then (
              some x4
            ) else (
              L_X6_place_15 h x0 x1 x2 n k (x3 + (-1)) (x4 + 1)
            )
          )
        )
      )
noncomputable def f_X6_place (h : HP) (x0 : Nat) (x1 : Int32) (x2 : Int32) : Option (Int32) :=
  ck 5 h x0 <|
  (f_X6_isTable h x0 x1).bind fun v2 =>
  if v2 = 0 then (
    some (-1)
  ) else (
    L_X6_place_15 h x0 x1 x2 FU (
      some (-2)) x2 0
  )
abbrev rmX6_place : Room := { frames := 2, cells := 0, slots := 0, locals := 41 }
theorem hd_X6_place : yX6_place.cls = RX6 ∧ yX6_place.cls ≠ "java/lang/invoke/MethodHandle" ∧ yX6_place.cls ≠ "java/lang/invoke/VarHandle" ∧ (parseMethodDescriptor yX6_place.desc).map (fun d => d.parameters.length) = some 2 := by decide +kernel
set_option maxRecDepth 100000 in
set_option maxHeartbeats 4000000 in
theorem w_X6_place_15 {p : Program} {l : Launch} {e : Env} {s : State} {m : MethodId} {args : Array Value} {below : List Frame} {meth : Method} {c : Code} {D : va_G} {ad : Nat → Nat} {cy : Nat → ClassId} (E : EE p s m args c cX6_place 5 (wsM yX6_place cX6_place 5 (some .int)) RX6 D cy) (hr : meth.sig.returnType = (some .int)) (hlk : meth.locks = false) {r : Int32} (h : HP) (x0 : Nat) (x1 : Int32) (x2 : Int32) : ∀ (n : Nat) (k : (Option (Int32))) (x3 : Int32) (x4 : Int32), (k = some r → JJ p l e rmX6_place s m args below meth c 0 0 (MQ below (QV D ad cy (some (.int r)) h) args s 0 0 (Aw ad)) D ad cy (Aw ad) 5 h [] 59 []) → L_X6_place_15 h x0 x1 x2 n k x3 x4 = some r → JJ p l e rmX6_place s m args below meth c 0 0 (MQ below (QV D ad cy (some (.int r)) h) args s 0 0 (Aw ad)) D ad cy (Aw ad) 5 h [(0, .ref (ad x0)), (1, .int x1), (2, .int x2), (3, .int x3), (4, .int x4)] 15 [] := by
  intro n
  induction n with
  | zero => intro k x3 x4 hk hf; cases hf
  | succ n ih =>
    intro k x3 x4 hk hf
    unfold L_X6_place_15 at hf
    refine j_iload E 4 rfl dX6_place_15 ?_
    refine j_sipush (v := 256) E dX6_place_17 (by decide) ?_
    refine j_icmp_ge (tgt := 59) E dX6_place_20 (by decide) (fun z5 => ?_) (fun z5 => ?_)
    · have hf := ifp hf z5
      refine j_perm (lv' := []) [] rfl ?_
      exact hk hf
    · have hf := ifn hf z5
      refine j_iload_n E 2 rfl dX6_place_23 rfl ?_
      refine j_if_lt (tgt := 59) E dX6_place_24 (by decide) (fun z6 => ?_) (fun z6 => ?_)
      · have hf := ifp hf z6
        refine j_perm (lv' := []) [] rfl ?_
        exact hk hf
      · have hf := ifn hf z6
        refine j_aload_n E 0 rfl dX6_place_27 rfl ?_
        obtain ⟨v7, ev7, hf⟩ := bs hf
        refine j_getR (ci := 5) (k0 := 3) (T := TX6) (N := 14) E (mI inUX6) rfl (by decide) (mU uw_3_107) ev7 dX6_place_28 ?_
        refine j_sipush (v := 256) E dX6_place_31 (by decide) ?_
        refine j_iload_n E 1 rfl dX6_place_34 rfl ?_
        refine j_imul E dX6_place_35 ?_
        refine j_iload E 4 rfl dX6_place_36 ?_
        refine j_iadd E dX6_place_38 ?_
        obtain ⟨v8, ev8, hf⟩ := bs hf
        refine j_aZ E ev8 dX6_place_39 ?_
        refine j_if_eq (tgt := 53) E dX6_place_40 (by decide) (fun z9 => ?_) (fun z9 => ?_)
        · have hf := ifp hf z9
          refine j_iinc (v := (x4 + 1)) (k0 := 4) (lv' := [(4, .int (x4 + 1)), (0, .ref (ad x0)), (1, .int x1), (2, .int x2), (3, .int x3)]) E dX6_place_53 rfl (congrArg (fun z => x4 + z) (by decide)) (by decide) rfl ?_
          refine j_goto (tgt := 15) E dX6_place_56 (by decide) ?_
          refine j_perm (lv' := [(0, .ref (ad x0)), (1, .int x1), (2, .int x2), (3, .int x3), (4, .int (x4 + 1))]) [1, 2, 3, 4, 0] rfl ?_
          exact ih k x3 (x4 + 1) hk hf
        · have hf := ifn hf z9
          refine j_iload_n E 3 rfl dX6_place_43 rfl ?_
          refine j_if_ne (tgt := 50) E dX6_place_44 (by decide) (fun z10 => ?_) (fun z10 => ?_)
          · have hf := ifn hf z10
            refine j_iinc (v := (x3 + (-1))) (k0 := 3) (lv' := [(3, .int (x3 + (-1))), (0, .ref (ad x0)), (1, .int x1), (2, .int x2), (4, .int x4)]) E dX6_place_50 rfl (congrArg (fun z => x3 + z) (by decide)) (by decide) rfl ?_
            refine j_iinc (v := (x4 + 1)) (k0 := 4) (lv' := [(4, .int (x4 + 1)), (3, .int (x3 + (-1))), (0, .ref (ad x0)), (1, .int x1), (2, .int x2)]) E dX6_place_53 rfl (congrArg (fun z => x4 + z) (by decide)) (by decide) rfl ?_
            refine j_goto (tgt := 15) E dX6_place_56 (by decide) ?_
            refine j_perm (lv' := [(0, .ref (ad x0)), (1, .int x1), (2, .int x2), (3, .int (x3 + (-1))), (4, .int (x4 + 1))]) [2, 3, 4, 1, 0] rfl ?_
            exact ih k (x3 + (-1)) (x4 + 1) hk hf
          · have hf := ifp hf z10
            refine j_iload E 4 rfl dX6_place_47 ?_
            cases hf
            exact j_iret E hr hlk dX6_place_49
set_option maxRecDepth 100000 in
set_option maxHeartbeats 4000000 in
theorem c_X6_place (l : Launch) (D : va_G) (ad : Nat → Nat) (cy : Nat → ClassId) (h : HP) (x0 : Nat) (x1 : Int32) (x2 : Int32) {r : Int32} (hf : f_X6_place h x0 x1 x2 = some r) : Met l yX6_place (wsM yX6_place cX6_place 5 (some .int)) rmX6_place (va_Pc [.ref (ad x0), .int x1, .int x2] (PW D ad cy h)) (QV D ad cy (some (.int r)) h) 0 0 (Aw ad) := by
  refine met_of (own := RX6) (lv := [(0, .ref (ad x0)), (1, .int x1), (2, .int x2)]) (by decide) rfl (Nat.le_of_ble_eq_true rfl) rfl (fun p e s m args below meth c E hr hlk => ?_)
  unfold f_X6_place at hf
  refine j_aload_n E 0 rfl dX6_place_0 rfl ?_
  refine j_iload_n E 1 rfl dX6_place_1 rfl ?_
  obtain ⟨k1, hf⟩ := ck_spec hf
  obtain ⟨v2, e3, hf⟩ := bs hf
  refine j_callV (ci := 5) (b := x0) (As := [.int x1]) (rest := []) (v := (some (.int v2))) E (c_X6_isTable l D ad cy h x0 x1 e3) (mcw E.1.2.2.2.2 uw_3_186 uw_3_183 uw_3_185 us_2_2 uw_1_6 rfl rfl hd_X6_isTable ⟨by decide, by decide⟩) rfl k1 rfl rfl (Nat.le_of_ble_eq_true rfl) dX6_place_2 ⟨Nat.zero_le _, Nat.zero_le _⟩ ?_
  refine j_stk (st' := [.int v2]) rfl ?_
  refine j_if_ne (tgt := 10) E dX6_place_5 (by decide) (fun z4 => ?_) (fun z4 => ?_)
  · have hf := ifn hf z4
    refine j_iload_n E 2 rfl dX6_place_10 rfl ?_
    refine j_istore_n (lv' := [(3, .int x2), (0, .ref (ad x0)), (1, .int x1), (2, .int x2)]) E dX6_place_11 rfl (by decide) rfl ?_
    refine j_iconst (v := 0) E dX6_place_12 (by decide) ?_
    refine j_istore (lv' := [(4, .int 0), (3, .int x2), (0, .ref (ad x0)), (1, .int x1), (2, .int x2)]) E dX6_place_13 (by decide) rfl ?_
    refine j_perm (lv' := [(0, .ref (ad x0)), (1, .int x1), (2, .int x2), (3, .int x2), (4, .int 0)]) [2, 3, 4, 1, 0] rfl ?_
    refine w_X6_place_15 E hr hlk h x0 x1 x2 FU _ x2 0 (fun hf => ?_) hf
    refine j_bipush (v := (-2)) E dX6_place_59 (by decide) ?_
    cases hf
    exact j_iret E hr hlk dX6_place_61
  · have hf := ifp hf z4
    refine j_iconst (v := (-1)) E dX6_place_8 (by decide) ?_
    cases hf
    exact j_iret E hr hlk dX6_place_9
noncomputable def f_X6_set (h : HP) (x0 : Nat) (x1 : Int32) (x2 : Int32) (x3 : Int32) (x4 : Int64) : Option (HP × Int32) :=
  ck 5 h x0 <|
  (f_X6_isTable h x0 x1).bind fun v2 =>
  if v2 = 0 then (
    some (h, (-1))
  ) else (
    ck 5 h x0 <|
    (f_X6_isIn h x0 x1 x2 x3).bind fun v6 =>
    if v6 = 0 then (
      some (h, (-2))
    ) else (
      ck 5 h x0 <|
      (f_X6_has h x0 x1 x2 x3).bind fun v10 =>
      if v10 = 0 then (
        some (h, (-3))
      ) else (
        (gR 5 h x0 4).bind fun v13 =>
        (f_X6_cellOf x1 x2 x3).bind fun v14 =>
        (sJ h v13 v14 x4).bind fun h16 =>
        some (h16, 1)
      )
    )
  )
abbrev rmX6_set : Room := { frames := 2, cells := 0, slots := 0, locals := 45 }
theorem hd_X6_set : yX6_set.cls = RX6 ∧ yX6_set.cls ≠ "java/lang/invoke/MethodHandle" ∧ yX6_set.cls ≠ "java/lang/invoke/VarHandle" ∧ (parseMethodDescriptor yX6_set.desc).map (fun d => d.parameters.length) = some 4 := by decide +kernel
set_option maxRecDepth 100000 in
set_option maxHeartbeats 4000000 in
theorem c_X6_set (l : Launch) (D : va_G) (ad : Nat → Nat) (cy : Nat → ClassId) (h : HP) (x0 : Nat) (x1 : Int32) (x2 : Int32) (x3 : Int32) (x4 : Int64) {h' : HP} {r : Int32} (hf : f_X6_set h x0 x1 x2 x3 x4 = some (h', r)) : Met l yX6_set (wsM yX6_set cX6_set 6 (some .int)) rmX6_set (va_Pc [.ref (ad x0), .int x1, .int x2, .int x3, .long x4] (PW D ad cy h)) (QV D ad cy (some (.int r)) h') 0 0 (Aw ad) := by
  refine met_of (own := RX6) (lv := [(0, .ref (ad x0)), (1, .int x1), (2, .int x2), (3, .int x3), (4, .long x4)]) (by decide) rfl (Nat.le_of_ble_eq_true rfl) rfl (fun p e s m args below meth c E hr hlk => ?_)
  unfold f_X6_set at hf
  refine j_aload_n E 0 rfl dX6_set_0 rfl ?_
  refine j_iload_n E 1 rfl dX6_set_1 rfl ?_
  obtain ⟨k1, hf⟩ := ck_spec hf
  obtain ⟨v2, e3, hf⟩ := bs hf
  refine j_callV (ci := 5) (b := x0) (As := [.int x1]) (rest := []) (v := (some (.int v2))) E (c_X6_isTable l D ad cy h x0 x1 e3) (mcw E.1.2.2.2.2 uw_3_186 uw_3_183 uw_3_185 us_2_2 uw_1_6 rfl rfl hd_X6_isTable ⟨by decide, by decide⟩) rfl k1 rfl rfl (Nat.le_of_ble_eq_true rfl) dX6_set_2 ⟨Nat.zero_le _, Nat.zero_le _⟩ ?_
  refine j_stk (st' := [.int v2]) rfl ?_
  refine j_if_ne (tgt := 10) E dX6_set_5 (by decide) (fun z4 => ?_) (fun z4 => ?_)
  · have hf := ifn hf z4
    refine j_aload_n E 0 rfl dX6_set_10 rfl ?_
    refine j_iload_n E 1 rfl dX6_set_11 rfl ?_
    refine j_iload_n E 2 rfl dX6_set_12 rfl ?_
    refine j_iload_n E 3 rfl dX6_set_13 rfl ?_
    obtain ⟨k5, hf⟩ := ck_spec hf
    obtain ⟨v6, e7, hf⟩ := bs hf
    refine j_callV (ci := 5) (b := x0) (As := [.int x1, .int x2, .int x3]) (rest := []) (v := (some (.int v6))) E (c_X6_isIn l D ad cy h x0 x1 x2 x3 e7) (mcw E.1.2.2.2.2 uw_3_194 uw_3_191 uw_3_193 us_2_4 uw_1_6 rfl rfl hd_X6_isIn ⟨by decide, by decide⟩) rfl k5 rfl rfl (Nat.le_of_ble_eq_true rfl) dX6_set_14 ⟨Nat.zero_le _, Nat.zero_le _⟩ ?_
    refine j_stk (st' := [.int v6]) rfl ?_
    refine j_if_ne (tgt := 23) E dX6_set_17 (by decide) (fun z8 => ?_) (fun z8 => ?_)
    · have hf := ifn hf z8
      refine j_aload_n E 0 rfl dX6_set_23 rfl ?_
      refine j_iload_n E 1 rfl dX6_set_24 rfl ?_
      refine j_iload_n E 2 rfl dX6_set_25 rfl ?_
      refine j_iload_n E 3 rfl dX6_set_26 rfl ?_
      obtain ⟨k9, hf⟩ := ck_spec hf
      obtain ⟨v10, e11, hf⟩ := bs hf
      refine j_callV (ci := 5) (b := x0) (As := [.int x1, .int x2, .int x3]) (rest := []) (v := (some (.int v10))) E (c_X6_has l D ad cy h x0 x1 x2 x3 e11) (mcw E.1.2.2.2.2 uw_3_210 uw_3_207 uw_3_209 us_2_6 uw_1_6 rfl rfl hd_X6_has ⟨by decide, by decide⟩) rfl k9 rfl rfl (Nat.le_of_ble_eq_true rfl) dX6_set_27 ⟨Nat.zero_le _, Nat.zero_le _⟩ ?_
      refine j_stk (st' := [.int v10]) rfl ?_
      refine j_if_ne (tgt := 36) E dX6_set_30 (by decide) (fun z12 => ?_) (fun z12 => ?_)
      · have hf := ifn hf z12
        refine j_aload_n E 0 rfl dX6_set_36 rfl ?_
        obtain ⟨v13, ev13, hf⟩ := bs hf
        refine j_getR (ci := 5) (k0 := 4) (T := TX6) (N := 14) E (mI inUX6) rfl (by decide) (mU uw_3_108) ev13 dX6_set_37 ?_
        refine j_iload_n E 1 rfl dX6_set_40 rfl ?_
        refine j_iload_n E 2 rfl dX6_set_41 rfl ?_
        refine j_iload_n E 3 rfl dX6_set_42 rfl ?_
        obtain ⟨v14, e15, hf⟩ := bs hf
        refine j_callS (As := [.int x1, .int x2, .int x3]) (rest := [.ref (ad v13)]) (v := (some (.int v14))) E (c_X6_cellOf l D ad cy h x1 x2 x3 e15) (mcs E.1.2.2.2.2 uw_3_213 uw_3_211 uw_3_212 uw_1_6 rfl rfl hd_X6_cellOf ⟨by decide, by decide⟩) rfl rfl (Nat.le_of_ble_eq_true rfl) dX6_set_43 ⟨Nat.zero_le _, Nat.zero_le _⟩ ?_
        refine j_stk (st' := [.int v14, .ref (ad v13)]) rfl ?_
        refine j_lload E 4 rfl dX6_set_46 ?_
        obtain ⟨h16, eh16, hf⟩ := bs hf
        refine j_sJ E eh16 dX6_set_48 ?_
        refine j_iconst (v := 1) E dX6_set_49 (by decide) ?_
        cases hf
        exact j_iret E hr hlk dX6_set_50
      · have hf := ifp hf z12
        refine j_bipush (v := (-3)) E dX6_set_33 (by decide) ?_
        cases hf
        exact j_iret E hr hlk dX6_set_35
    · have hf := ifp hf z8
      refine j_bipush (v := (-2)) E dX6_set_20 (by decide) ?_
      cases hf
      exact j_iret E hr hlk dX6_set_22
  · have hf := ifp hf z4
    refine j_iconst (v := (-1)) E dX6_set_8 (by decide) ?_
    cases hf
    exact j_iret E hr hlk dX6_set_9
noncomputable def L_X6_prune_18 (x0 : Nat) (x1 : Int32) : Nat → (HP → Int32 → Option (HP × Int32)) → HP → Int32 → Int32 → Option (HP × Int32)
  | 0, _, _, _, _ => none
  | n + 1, k, h, x2, x3 =>
      if ((256 * x1) + 256) ≤ x3 then (
        k h x2
      ) else (
        (gR 5 h x0 3).bind fun v6 =>
        (aZ h v6 x3).bind fun v7 =>
        if v7 = 0 then (
          L_X6_prune_18 x0 x1 n k h x2 (x3 + 1)
        ) else (
          (gR 5 h x0 4).bind fun v9 =>
          (aJ h v9 x3).bind fun v10 =>
          if (lg_cmp v10 0) = 0 then (
            (gR 5 h x0 3).bind fun v12 =>
            (sZ h v12 x3 0).bind fun h13 =>
            L_X6_prune_18 x0 x1 n k h13 (x2 + 1) (x3 + 1)
          ) else (
            L_X6_prune_18 x0 x1 n k h x2 (x3 + 1)
          )
        )
      )
noncomputable def f_X6_prune (h : HP) (x0 : Nat) (x1 : Int32) : Option (HP × Int32) :=
  ck 5 h x0 <|
  (f_X6_isTable h x0 x1).bind fun v2 =>
  if v2 = 0 then (
    some (h, (-1))
  ) else (
    L_X6_prune_18 x0 x1 FU (fun h14 x15 =>
      some (h14, x15)) h 0 (256 * x1)
  )
abbrev rmX6_prune : Room := { frames := 2, cells := 0, slots := 0, locals := 41 }
theorem hd_X6_prune : yX6_prune.cls = RX6 ∧ yX6_prune.cls ≠ "java/lang/invoke/MethodHandle" ∧ yX6_prune.cls ≠ "java/lang/invoke/VarHandle" ∧ (parseMethodDescriptor yX6_prune.desc).map (fun d => d.parameters.length) = some 1 := by decide +kernel
set_option maxRecDepth 100000 in
set_option maxHeartbeats 4000000 in
theorem w_X6_prune_18 {p : Program} {l : Launch} {e : Env} {s : State} {m : MethodId} {args : Array Value} {below : List Frame} {meth : Method} {c : Code} {D : va_G} {ad : Nat → Nat} {cy : Nat → ClassId} (E : EE p s m args c cX6_prune 4 (wsM yX6_prune cX6_prune 4 (some .int)) RX6 D cy) (hr : meth.sig.returnType = (some .int)) (hlk : meth.locks = false) {h' : HP} {r : Int32} (x0 : Nat) (x1 : Int32) : ∀ (n : Nat) (k : (HP → Int32 → Option (HP × Int32))) (h : HP) (x2 : Int32) (x3 : Int32), (∀ (h : HP) (x2 : Int32), k h x2 = some (h', r) → JJ p l e rmX6_prune s m args below meth c 0 0 (MQ below (QV D ad cy (some (.int r)) h') args s 0 0 (Aw ad)) D ad cy (Aw ad) 4 h [(2, .int x2)] 67 []) → L_X6_prune_18 x0 x1 n k h x2 x3 = some (h', r) → JJ p l e rmX6_prune s m args below meth c 0 0 (MQ below (QV D ad cy (some (.int r)) h') args s 0 0 (Aw ad)) D ad cy (Aw ad) 4 h [(0, .ref (ad x0)), (1, .int x1), (2, .int x2), (3, .int x3)] 18 [] := by
  intro n
  induction n with
  | zero => intro k h x2 x3 hk hf; cases hf
  | succ n ih =>
    intro k h x2 x3 hk hf
    unfold L_X6_prune_18 at hf
    refine j_iload_n E 3 rfl dX6_prune_18 rfl ?_
    refine j_sipush (v := 256) E dX6_prune_19 (by decide) ?_
    refine j_iload_n E 1 rfl dX6_prune_22 rfl ?_
    refine j_imul E dX6_prune_23 ?_
    refine j_sipush (v := 256) E dX6_prune_24 (by decide) ?_
    refine j_iadd E dX6_prune_27 ?_
    refine j_icmp_ge (tgt := 67) E dX6_prune_28 (by decide) (fun z5 => ?_) (fun z5 => ?_)
    · have hf := ifp hf z5
      refine j_perm (lv' := [(2, .int x2)]) [2] rfl ?_
      exact hk h x2 hf
    · have hf := ifn hf z5
      refine j_aload_n E 0 rfl dX6_prune_31 rfl ?_
      obtain ⟨v6, ev6, hf⟩ := bs hf
      refine j_getR (ci := 5) (k0 := 3) (T := TX6) (N := 14) E (mI inUX6) rfl (by decide) (mU uw_3_107) ev6 dX6_prune_32 ?_
      refine j_iload_n E 3 rfl dX6_prune_35 rfl ?_
      obtain ⟨v7, ev7, hf⟩ := bs hf
      refine j_aZ E ev7 dX6_prune_36 ?_
      refine j_if_eq (tgt := 61) E dX6_prune_37 (by decide) (fun z8 => ?_) (fun z8 => ?_)
      · have hf := ifp hf z8
        refine j_iinc (v := (x3 + 1)) (k0 := 3) (lv' := [(3, .int (x3 + 1)), (0, .ref (ad x0)), (1, .int x1), (2, .int x2)]) E dX6_prune_61 rfl (congrArg (fun z => x3 + z) (by decide)) (by decide) rfl ?_
        refine j_goto (tgt := 18) E dX6_prune_64 (by decide) ?_
        refine j_perm (lv' := [(0, .ref (ad x0)), (1, .int x1), (2, .int x2), (3, .int (x3 + 1))]) [1, 2, 3, 0] rfl ?_
        exact ih k h x2 (x3 + 1) hk hf
      · have hf := ifn hf z8
        refine j_aload_n E 0 rfl dX6_prune_40 rfl ?_
        obtain ⟨v9, ev9, hf⟩ := bs hf
        refine j_getR (ci := 5) (k0 := 4) (T := TX6) (N := 14) E (mI inUX6) rfl (by decide) (mU uw_3_108) ev9 dX6_prune_41 ?_
        refine j_iload_n E 3 rfl dX6_prune_44 rfl ?_
        obtain ⟨v10, ev10, hf⟩ := bs hf
        refine j_aJ E ev10 dX6_prune_45 ?_
        refine j_lconst (v := 0) E dX6_prune_46 (by decide) ?_
        refine j_lcmp E dX6_prune_47 ?_
        refine j_if_ne (tgt := 61) E dX6_prune_48 (by decide) (fun z11 => ?_) (fun z11 => ?_)
        · have hf := ifn hf z11
          refine j_iinc (v := (x3 + 1)) (k0 := 3) (lv' := [(3, .int (x3 + 1)), (0, .ref (ad x0)), (1, .int x1), (2, .int x2)]) E dX6_prune_61 rfl (congrArg (fun z => x3 + z) (by decide)) (by decide) rfl ?_
          refine j_goto (tgt := 18) E dX6_prune_64 (by decide) ?_
          refine j_perm (lv' := [(0, .ref (ad x0)), (1, .int x1), (2, .int x2), (3, .int (x3 + 1))]) [1, 2, 3, 0] rfl ?_
          exact ih k h x2 (x3 + 1) hk hf
        · have hf := ifp hf z11
          refine j_aload_n E 0 rfl dX6_prune_51 rfl ?_
          obtain ⟨v12, ev12, hf⟩ := bs hf
          refine j_getR (ci := 5) (k0 := 3) (T := TX6) (N := 14) E (mI inUX6) rfl (by decide) (mU uw_3_107) ev12 dX6_prune_52 ?_
          refine j_iload_n E 3 rfl dX6_prune_55 rfl ?_
          refine j_iconst (v := 0) E dX6_prune_56 (by decide) ?_
          obtain ⟨h13, eh13, hf⟩ := bs hf
          refine j_sZ E eh13 dX6_prune_57 ?_
          refine j_iinc (v := (x2 + 1)) (k0 := 2) (lv' := [(2, .int (x2 + 1)), (0, .ref (ad x0)), (1, .int x1), (3, .int x3)]) E dX6_prune_58 rfl (congrArg (fun z => x2 + z) (by decide)) (by decide) rfl ?_
          refine j_iinc (v := (x3 + 1)) (k0 := 3) (lv' := [(3, .int (x3 + 1)), (2, .int (x2 + 1)), (0, .ref (ad x0)), (1, .int x1)]) E dX6_prune_61 rfl (congrArg (fun z => x3 + z) (by decide)) (by decide) rfl ?_
          refine j_goto (tgt := 18) E dX6_prune_64 (by decide) ?_
          refine j_perm (lv' := [(0, .ref (ad x0)), (1, .int x1), (2, .int (x2 + 1)), (3, .int (x3 + 1))]) [2, 3, 1, 0] rfl ?_
          exact ih k h13 (x2 + 1) (x3 + 1) hk hf
set_option maxRecDepth 100000 in
set_option maxHeartbeats 4000000 in
theorem c_X6_prune (l : Launch) (D : va_G) (ad : Nat → Nat) (cy : Nat → ClassId) (h : HP) (x0 : Nat) (x1 : Int32) {h' : HP} {r : Int32} (hf : f_X6_prune h x0 x1 = some (h', r)) : Met l yX6_prune (wsM yX6_prune cX6_prune 4 (some .int)) rmX6_prune (va_Pc [.ref (ad x0), .int x1] (PW D ad cy h)) (QV D ad cy (some (.int r)) h') 0 0 (Aw ad) := by
  refine met_of (own := RX6) (lv := [(0, .ref (ad x0)), (1, .int x1)]) (by decide) rfl (Nat.le_of_ble_eq_true rfl) rfl (fun p e s m args below meth c E hr hlk => ?_)
  unfold f_X6_prune at hf
  refine j_aload_n E 0 rfl dX6_prune_0 rfl ?_
  refine j_iload_n E 1 rfl dX6_prune_1 rfl ?_
  obtain ⟨k1, hf⟩ := ck_spec hf
  obtain ⟨v2, e3, hf⟩ := bs hf
  refine j_callV (ci := 5) (b := x0) (As := [.int x1]) (rest := []) (v := (some (.int v2))) E (c_X6_isTable l D ad cy h x0 x1 e3) (mcw E.1.2.2.2.2 uw_3_186 uw_3_183 uw_3_185 us_2_2 uw_1_6 rfl rfl hd_X6_isTable ⟨by decide, by decide⟩) rfl k1 rfl rfl (Nat.le_of_ble_eq_true rfl) dX6_prune_2 ⟨Nat.zero_le _, Nat.zero_le _⟩ ?_
  refine j_stk (st' := [.int v2]) rfl ?_
  refine j_if_ne (tgt := 10) E dX6_prune_5 (by decide) (fun z4 => ?_) (fun z4 => ?_)
  · have hf := ifn hf z4
    refine j_iconst (v := 0) E dX6_prune_10 (by decide) ?_
    refine j_istore_n (lv' := [(2, .int 0), (0, .ref (ad x0)), (1, .int x1)]) E dX6_prune_11 rfl (by decide) rfl ?_
    refine j_sipush (v := 256) E dX6_prune_12 (by decide) ?_
    refine j_iload_n E 2 rfl dX6_prune_15 rfl ?_
    refine j_imul E dX6_prune_16 ?_
    refine j_istore_n (lv' := [(3, .int (256 * x1)), (2, .int 0), (0, .ref (ad x0)), (1, .int x1)]) E dX6_prune_17 rfl (by decide) rfl ?_
    refine j_perm (lv' := [(0, .ref (ad x0)), (1, .int x1), (2, .int 0), (3, .int (256 * x1))]) [2, 3, 1, 0] rfl ?_
    refine w_X6_prune_18 E hr hlk x0 x1 FU _ h 0 (256 * x1) (fun h14 x15 hf => ?_) hf
    refine j_iload_n E 0 rfl dX6_prune_67 rfl ?_
    cases hf
    exact j_iret E hr hlk dX6_prune_68
  · have hf := ifp hf z4
    refine j_iconst (v := (-1)) E dX6_prune_8 (by decide) ?_
    cases hf
    exact j_iret E hr hlk dX6_prune_9
noncomputable def f_X6_areLike (h : HP) (x0 : Nat) (x1 : Int32) (x2 : Int32) : Option (Int32) :=
  (gR 5 h x0 1).bind fun v1 =>
  (aI h v1 x1).bind fun v2 =>
  (gR 5 h x0 1).bind fun v3 =>
  (aI h v3 x2).bind fun v4 =>
  if v2 = v4 then (
    (gR 5 h x0 2).bind fun v6 =>
    (aI h v6 x1).bind fun v7 =>
    (gR 5 h x0 2).bind fun v8 =>
    (aI h v8 x2).bind fun v9 =>
    if v7 = v9 then (
      some 1
    ) else (
      some 0
    )
  ) else (
    some 0
  )
abbrev rmX6_areLike : Room := { frames := 0, cells := 0, slots := 0, locals := 0 }
theorem hd_X6_areLike : yX6_areLike.cls = RX6 ∧ yX6_areLike.cls ≠ "java/lang/invoke/MethodHandle" ∧ yX6_areLike.cls ≠ "java/lang/invoke/VarHandle" ∧ (parseMethodDescriptor yX6_areLike.desc).map (fun d => d.parameters.length) = some 2 := by decide +kernel
set_option maxRecDepth 100000 in
set_option maxHeartbeats 4000000 in
theorem c_X6_areLike (l : Launch) (D : va_G) (ad : Nat → Nat) (cy : Nat → ClassId) (h : HP) (x0 : Nat) (x1 : Int32) (x2 : Int32) {r : Int32} (hf : f_X6_areLike h x0 x1 x2 = some r) : Met l yX6_areLike (wsM yX6_areLike cX6_areLike 3 (some .boolean)) rmX6_areLike (va_Pc [.ref (ad x0), .int x1, .int x2] (PW D ad cy h)) (QV D ad cy (some (.int r)) h) 0 0 (Aw ad) := by
  refine met_of (own := RX6) (lv := [(0, .ref (ad x0)), (1, .int x1), (2, .int x2)]) (by decide) rfl (Nat.le_of_ble_eq_true rfl) rfl (fun p e s m args below meth c E hr hlk => ?_)
  unfold f_X6_areLike at hf
  refine j_aload_n E 0 rfl dX6_areLike_0 rfl ?_
  obtain ⟨v1, ev1, hf⟩ := bs hf
  refine j_getR (ci := 5) (k0 := 1) (T := TX6) (N := 14) E (mI inUX6) rfl (by decide) (mU uw_3_105) ev1 dX6_areLike_1 ?_
  refine j_iload_n E 1 rfl dX6_areLike_4 rfl ?_
  obtain ⟨v2, ev2, hf⟩ := bs hf
  refine j_aI E ev2 dX6_areLike_5 ?_
  refine j_aload_n E 0 rfl dX6_areLike_6 rfl ?_
  obtain ⟨v3, ev3, hf⟩ := bs hf
  refine j_getR (ci := 5) (k0 := 1) (T := TX6) (N := 14) E (mI inUX6) rfl (by decide) (mU uw_3_105) ev3 dX6_areLike_7 ?_
  refine j_iload_n E 2 rfl dX6_areLike_10 rfl ?_
  obtain ⟨v4, ev4, hf⟩ := bs hf
  refine j_aI E ev4 dX6_areLike_11 ?_
  refine j_icmp_ne (tgt := 34) E dX6_areLike_12 (by decide) (fun z5 => ?_) (fun z5 => ?_)
  · have hf := ifn hf z5
    refine j_iconst (v := 0) E dX6_areLike_34 (by decide) ?_
    cases hf
    exact j_zret E hr hlk rfl dX6_areLike_35
  · have hf := ifp hf z5
    refine j_aload_n E 0 rfl dX6_areLike_15 rfl ?_
    obtain ⟨v6, ev6, hf⟩ := bs hf
    refine j_getR (ci := 5) (k0 := 2) (T := TX6) (N := 14) E (mI inUX6) rfl (by decide) (mU uw_3_106) ev6 dX6_areLike_16 ?_
    refine j_iload_n E 1 rfl dX6_areLike_19 rfl ?_
    obtain ⟨v7, ev7, hf⟩ := bs hf
    refine j_aI E ev7 dX6_areLike_20 ?_
    refine j_aload_n E 0 rfl dX6_areLike_21 rfl ?_
    obtain ⟨v8, ev8, hf⟩ := bs hf
    refine j_getR (ci := 5) (k0 := 2) (T := TX6) (N := 14) E (mI inUX6) rfl (by decide) (mU uw_3_106) ev8 dX6_areLike_22 ?_
    refine j_iload_n E 2 rfl dX6_areLike_25 rfl ?_
    obtain ⟨v9, ev9, hf⟩ := bs hf
    refine j_aI E ev9 dX6_areLike_26 ?_
    refine j_icmp_ne (tgt := 34) E dX6_areLike_27 (by decide) (fun z10 => ?_) (fun z10 => ?_)
    · have hf := ifn hf z10
      refine j_iconst (v := 0) E dX6_areLike_34 (by decide) ?_
      cases hf
      exact j_zret E hr hlk rfl dX6_areLike_35
    · have hf := ifp hf z10
      refine j_iconst (v := 1) E dX6_areLike_30 (by decide) ?_
      refine j_goto (tgt := 35) E dX6_areLike_31 (by decide) ?_
      cases hf
      exact j_zret E hr hlk rfl dX6_areLike_35
noncomputable def L_X6_add_70 (x0 : Nat) (x1 : Int32) (x2 : Int32) (x4 : Int64) (x6 : Int64) (x8 : Int32) : Nat → (HP → Option (HP × Int32)) → HP → Int32 → Option (HP × Int32)
  | 0, _, _, _ => none
  | n + 1, k, h, x9 =>
      (gR 5 h x0 2).bind fun v26 =>
      (aI h v26 x1).bind fun v27 =>
      if v27 ≤ x9 then (
        k h
      ) else (
        ck 5 h x0 <|
        (f_X6_has h x0 x1 x8 x9).bind fun v30 =>
        if v30 = 0 then (
          ck 5 h x0 <|
          (f_X6_has h x0 x2 x8 x9).bind fun v34 =>
          if v34 = 0 then (
            L_X6_add_70 x0 x1 x2 x4 x6 x8 n k h (x9 + 1)
          ) else (
            ck 5 h x0 <|
            (f_X6_holds h x0 x1 x8 x9).bind fun v38 =>
            ck 5 h x0 <|
            (f_X6_holds h x0 x2 x8 x9).bind fun v41 =>
            ck 5 h x0 <|
            (f_X6_keep h x0 x8 x9 ((x4 * v38) + (x6 * v41))).bind fun h44 =>
            L_X6_add_70 x0 x1 x2 x4 x6 x8 n k h44 (x9 + 1)
          )
        ) else (
          ck 5 h x0 <|
          (f_X6_holds h x0 x1 x8 x9).bind fun v47 =>
          ck 5 h x0 <|
          (f_X6_holds h x0 x2 x8 x9).bind fun v50 =>
          ck 5 h x0 <|
          (f_X6_keep h x0 x8 x9 ((x4 * v47) + (x6 * v50))).bind fun h53 =>
          L_X6_add_70 x0 x1 x2 x4 x6 x8 n k h53 (x9 + 1)
        )
      )
noncomputable def L_X6_add_56 (x0 : Nat) (x1 : Int32) (x2 : Int32) (x4 : Int64) (x6 : Int64) : Nat → (HP → Option (HP × Int32)) → HP → Int32 → Option (HP × Int32)
  | 0, _, _, _ => none
  | n + 1, k, h, x8 =>
      (gR 5 h x0 1).bind fun v23 =>
      (aI h v23 x1).bind fun v24 =>
      if v24 ≤ x8 then (
        k h
      ) else (
        L_X6_add_70 x0 x1 x2 x4 x6 x8 FU (fun h55 =>
          L_X6_add_56 x0 x1 x2 x4 x6 n k h55 (x8 + 1)) h 0
      )
noncomputable def f_X6_add (h : HP) (x0 : Nat) (x1 : Int32) (x2 : Int32) (x3 : Int32) (x4 : Int64) (x6 : Int64) : Option (HP × Int32) :=
  (f_X6_isNumber x3).bind fun v1 =>
  if v1 = 0 then (
    some (h, (-1))
  ) else (
    ck 5 h x0 <|
    (f_X6_isTable h x0 x1).bind fun v5 =>
    if v5 = 0 then (
      some (h, (-1))
    ) else (
      ck 5 h x0 <|
      (f_X6_isTable h x0 x2).bind fun v9 =>
      if v9 = 0 then (
        some (h, (-1))
      ) else (
        ck 5 h x0 <|
        (f_X6_areLike h x0 x1 x2).bind fun v13 =>
        if v13 = 0 then (
          some (h, (-3))
        ) else (
          (gR 5 h x0 1).bind fun v16 =>
          (aI h v16 x1).bind fun v17 =>
          (gR 5 h x0 2).bind fun v18 =>
          (aI h v18 x1).bind fun v19 =>
          ck 5 h x0 <|
          (f_X6_begin h x0 v17 v19).bind fun h21 =>
          L_X6_add_56 x0 x1 x2 x4 x6 FU (fun h56 =>
            ck 5 h56 x0 <|
            (f_X6_putAt h56 x0 x3).bind fun (h58, v59) =>
            some (h58, v59)) h21 0
        )
      )
    )
  )
abbrev rmX6_add : Room := { frames := 3, cells := 0, slots := 0, locals := 68 }
theorem hd_X6_add : yX6_add.cls = RX6 ∧ yX6_add.cls ≠ "java/lang/invoke/MethodHandle" ∧ yX6_add.cls ≠ "java/lang/invoke/VarHandle" ∧ (parseMethodDescriptor yX6_add.desc).map (fun d => d.parameters.length) = some 5 := by decide +kernel
set_option maxRecDepth 100000 in
set_option maxHeartbeats 4000000 in
theorem w_X6_add_70 {p : Program} {l : Launch} {e : Env} {s : State} {m : MethodId} {args : Array Value} {below : List Frame} {meth : Method} {c : Code} {D : va_G} {ad : Nat → Nat} {cy : Nat → ClassId} (E : EE p s m args c cX6_add 10 (wsM yX6_add cX6_add 10 (some .int)) RX6 D cy) (hr : meth.sig.returnType = (some .int)) (hlk : meth.locks = false) {h' : HP} {r : Int32} (x0 : Nat) (x1 : Int32) (x2 : Int32) (x4 : Int64) (x6 : Int64) (x8 : Int32) (x3 : Int32) : ∀ (n : Nat) (k : (HP → Option (HP × Int32))) (h : HP) (x9 : Int32), (∀ (h : HP), k h = some (h', r) → JJ p l e rmX6_add s m args below meth c 0 0 (MQ below (QV D ad cy (some (.int r)) h') args s 0 0 (Aw ad)) D ad cy (Aw ad) 10 h [(0, .ref (ad x0)), (1, .int x1), (2, .int x2), (3, .int x3), (4, .long x4), (6, .long x6), (8, .int x8)] 144 []) → L_X6_add_70 x0 x1 x2 x4 x6 x8 n k h x9 = some (h', r) → JJ p l e rmX6_add s m args below meth c 0 0 (MQ below (QV D ad cy (some (.int r)) h') args s 0 0 (Aw ad)) D ad cy (Aw ad) 10 h [(0, .ref (ad x0)), (1, .int x1), (2, .int x2), (3, .int x3), (4, .long x4), (6, .long x6), (8, .int x8), (9, .int x9)] 70 [] := by
  intro n
  induction n with
  | zero => intro k h x9 hk hf; cases hf
  | succ n ih =>
    intro k h x9 hk hf
    unfold L_X6_add_70 at hf
    refine j_iload E 7 rfl dX6_add_70 ?_
    refine j_aload_n E 0 rfl dX6_add_72 rfl ?_
    obtain ⟨v26, ev26, hf⟩ := bs hf
    refine j_getR (ci := 5) (k0 := 2) (T := TX6) (N := 14) E (mI inUX6) rfl (by decide) (mU uw_3_106) ev26 dX6_add_73 ?_
    refine j_iload_n E 1 rfl dX6_add_76 rfl ?_
    obtain ⟨v27, ev27, hf⟩ := bs hf
    refine j_aI E ev27 dX6_add_77 ?_
    refine j_icmp_ge (tgt := 144) E dX6_add_78 (by decide) (fun z28 => ?_) (fun z28 => ?_)
    · have hf := ifp hf z28
      refine j_perm (lv' := [(0, .ref (ad x0)), (1, .int x1), (2, .int x2), (3, .int x3), (4, .long x4), (6, .long x6), (8, .int x8)]) [0, 1, 2, 3, 4, 5, 6] rfl ?_
      exact hk h hf
    · have hf := ifn hf z28
      refine j_aload_n E 0 rfl dX6_add_81 rfl ?_
      refine j_iload_n E 1 rfl dX6_add_82 rfl ?_
      refine j_iload E 6 rfl dX6_add_83 ?_
      refine j_iload E 7 rfl dX6_add_85 ?_
      obtain ⟨k29, hf⟩ := ck_spec hf
      obtain ⟨v30, e31, hf⟩ := bs hf
      refine j_callV (ci := 5) (b := x0) (As := [.int x1, .int x8, .int x9]) (rest := []) (v := (some (.int v30))) E (c_X6_has l D ad cy h x0 x1 x8 x9 e31) (mcw E.1.2.2.2.2 uw_3_210 uw_3_207 uw_3_209 us_2_6 uw_1_6 rfl rfl hd_X6_has ⟨by decide, by decide⟩) rfl k29 rfl rfl (Nat.le_of_ble_eq_true rfl) dX6_add_87 ⟨Nat.zero_le _, Nat.zero_le _⟩ ?_
      refine j_stk (st' := [.int v30]) rfl ?_
      refine j_if_ne (tgt := 105) E dX6_add_90 (by decide) (fun z32 => ?_) (fun z32 => ?_)
      · have hf := ifn hf z32
        refine j_aload_n E 0 rfl dX6_add_105 rfl ?_
        refine j_iload E 6 rfl dX6_add_106 ?_
        refine j_iload E 7 rfl dX6_add_108 ?_
        refine j_lload E 4 rfl dX6_add_110 ?_
        refine j_aload_n E 0 rfl dX6_add_112 rfl ?_
        refine j_iload_n E 1 rfl dX6_add_113 rfl ?_
        refine j_iload E 6 rfl dX6_add_114 ?_
        refine j_iload E 7 rfl dX6_add_116 ?_
        obtain ⟨k46, hf⟩ := ck_spec hf
        obtain ⟨v47, e48, hf⟩ := bs hf
        refine j_callV (ci := 5) (b := x0) (As := [.int x1, .int x8, .int x9]) (rest := [.long x4, .int x9, .int x8, .ref (ad x0)]) (v := (some (.long v47))) E (c_X6_holds l D ad cy h x0 x1 x8 x9 e48) (mcw E.1.2.2.2.2 uw_3_206 uw_3_203 uw_3_205 us_2_5 uw_1_6 rfl rfl hd_X6_holds ⟨by decide, by decide⟩) rfl k46 rfl rfl (Nat.le_of_ble_eq_true rfl) dX6_add_118 ⟨Nat.zero_le _, Nat.zero_le _⟩ ?_
        refine j_stk (st' := [.long v47, .long x4, .int x9, .int x8, .ref (ad x0)]) rfl ?_
        refine j_lmul E dX6_add_121 ?_
        refine j_lload E 5 rfl dX6_add_122 ?_
        refine j_aload_n E 0 rfl dX6_add_124 rfl ?_
        refine j_iload_n E 2 rfl dX6_add_125 rfl ?_
        refine j_iload E 6 rfl dX6_add_126 ?_
        refine j_iload E 7 rfl dX6_add_128 ?_
        obtain ⟨k49, hf⟩ := ck_spec hf
        obtain ⟨v50, e51, hf⟩ := bs hf
        refine j_callV (ci := 5) (b := x0) (As := [.int x2, .int x8, .int x9]) (rest := [.long x6, .long (x4 * v47), .int x9, .int x8, .ref (ad x0)]) (v := (some (.long v50))) E (c_X6_holds l D ad cy h x0 x2 x8 x9 e51) (mcw E.1.2.2.2.2 uw_3_206 uw_3_203 uw_3_205 us_2_5 uw_1_6 rfl rfl hd_X6_holds ⟨by decide, by decide⟩) rfl k49 rfl rfl (Nat.le_of_ble_eq_true rfl) dX6_add_130 ⟨Nat.zero_le _, Nat.zero_le _⟩ ?_
        refine j_stk (st' := [.long v50, .long x6, .long (x4 * v47), .int x9, .int x8, .ref (ad x0)]) rfl ?_
        refine j_lmul E dX6_add_133 ?_
        refine j_ladd E dX6_add_134 ?_
        obtain ⟨k52, hf⟩ := ck_spec hf
        obtain ⟨h53, e54, hf⟩ := bs hf
        refine j_callV (ci := 5) (b := x0) (As := [.int x8, .int x9, .long ((x4 * v47) + (x6 * v50))]) (rest := []) (v := none) E (c_X6_keep l D ad cy h x0 x8 x9 ((x4 * v47) + (x6 * v50)) e54) (mcw E.1.2.2.2.2 uw_4_1 uw_3_238 uw_4_0 us_2_8 uw_1_6 rfl rfl hd_X6_keep ⟨by decide, by decide⟩) rfl k52 rfl rfl (Nat.le_of_ble_eq_true rfl) dX6_add_135 ⟨Nat.zero_le _, Nat.zero_le _⟩ ?_
        refine j_stk (st' := []) rfl ?_
        refine j_iinc (v := (x9 + 1)) (k0 := 7) (lv' := [(9, .int (x9 + 1)), (0, .ref (ad x0)), (1, .int x1), (2, .int x2), (3, .int x3), (4, .long x4), (6, .long x6), (8, .int x8)]) E dX6_add_138 rfl (congrArg (fun z => x9 + z) (by decide)) (by decide) rfl ?_
        refine j_goto (tgt := 70) E dX6_add_141 (by decide) ?_
        refine j_perm (lv' := [(0, .ref (ad x0)), (1, .int x1), (2, .int x2), (3, .int x3), (4, .long x4), (6, .long x6), (8, .int x8), (9, .int (x9 + 1))]) [1, 2, 3, 4, 5, 6, 7, 0] rfl ?_
        exact ih k h53 (x9 + 1) hk hf
      · have hf := ifp hf z32
        refine j_aload_n E 0 rfl dX6_add_93 rfl ?_
        refine j_iload_n E 2 rfl dX6_add_94 rfl ?_
        refine j_iload E 6 rfl dX6_add_95 ?_
        refine j_iload E 7 rfl dX6_add_97 ?_
        obtain ⟨k33, hf⟩ := ck_spec hf
        obtain ⟨v34, e35, hf⟩ := bs hf
        refine j_callV (ci := 5) (b := x0) (As := [.int x2, .int x8, .int x9]) (rest := []) (v := (some (.int v34))) E (c_X6_has l D ad cy h x0 x2 x8 x9 e35) (mcw E.1.2.2.2.2 uw_3_210 uw_3_207 uw_3_209 us_2_6 uw_1_6 rfl rfl hd_X6_has ⟨by decide, by decide⟩) rfl k33 rfl rfl (Nat.le_of_ble_eq_true rfl) dX6_add_99 ⟨Nat.zero_le _, Nat.zero_le _⟩ ?_
        refine j_stk (st' := [.int v34]) rfl ?_
        refine j_if_eq (tgt := 138) E dX6_add_102 (by decide) (fun z36 => ?_) (fun z36 => ?_)
        · have hf := ifp hf z36
          refine j_iinc (v := (x9 + 1)) (k0 := 7) (lv' := [(9, .int (x9 + 1)), (0, .ref (ad x0)), (1, .int x1), (2, .int x2), (3, .int x3), (4, .long x4), (6, .long x6), (8, .int x8)]) E dX6_add_138 rfl (congrArg (fun z => x9 + z) (by decide)) (by decide) rfl ?_
          refine j_goto (tgt := 70) E dX6_add_141 (by decide) ?_
          refine j_perm (lv' := [(0, .ref (ad x0)), (1, .int x1), (2, .int x2), (3, .int x3), (4, .long x4), (6, .long x6), (8, .int x8), (9, .int (x9 + 1))]) [1, 2, 3, 4, 5, 6, 7, 0] rfl ?_
          exact ih k h (x9 + 1) hk hf
        · have hf := ifn hf z36
          refine j_aload_n E 0 rfl dX6_add_105 rfl ?_
          refine j_iload E 6 rfl dX6_add_106 ?_
          refine j_iload E 7 rfl dX6_add_108 ?_
          refine j_lload E 4 rfl dX6_add_110 ?_
          refine j_aload_n E 0 rfl dX6_add_112 rfl ?_
          refine j_iload_n E 1 rfl dX6_add_113 rfl ?_
          refine j_iload E 6 rfl dX6_add_114 ?_
          refine j_iload E 7 rfl dX6_add_116 ?_
          obtain ⟨k37, hf⟩ := ck_spec hf
          obtain ⟨v38, e39, hf⟩ := bs hf
          refine j_callV (ci := 5) (b := x0) (As := [.int x1, .int x8, .int x9]) (rest := [.long x4, .int x9, .int x8, .ref (ad x0)]) (v := (some (.long v38))) E (c_X6_holds l D ad cy h x0 x1 x8 x9 e39) (mcw E.1.2.2.2.2 uw_3_206 uw_3_203 uw_3_205 us_2_5 uw_1_6 rfl rfl hd_X6_holds ⟨by decide, by decide⟩) rfl k37 rfl rfl (Nat.le_of_ble_eq_true rfl) dX6_add_118 ⟨Nat.zero_le _, Nat.zero_le _⟩ ?_
          refine j_stk (st' := [.long v38, .long x4, .int x9, .int x8, .ref (ad x0)]) rfl ?_
          refine j_lmul E dX6_add_121 ?_
          refine j_lload E 5 rfl dX6_add_122 ?_
          refine j_aload_n E 0 rfl dX6_add_124 rfl ?_
          refine j_iload_n E 2 rfl dX6_add_125 rfl ?_
          refine j_iload E 6 rfl dX6_add_126 ?_
          refine j_iload E 7 rfl dX6_add_128 ?_
          obtain ⟨k40, hf⟩ := ck_spec hf
          obtain ⟨v41, e42, hf⟩ := bs hf
          refine j_callV (ci := 5) (b := x0) (As := [.int x2, .int x8, .int x9]) (rest := [.long x6, .long (x4 * v38), .int x9, .int x8, .ref (ad x0)]) (v := (some (.long v41))) E (c_X6_holds l D ad cy h x0 x2 x8 x9 e42) (mcw E.1.2.2.2.2 uw_3_206 uw_3_203 uw_3_205 us_2_5 uw_1_6 rfl rfl hd_X6_holds ⟨by decide, by decide⟩) rfl k40 rfl rfl (Nat.le_of_ble_eq_true rfl) dX6_add_130 ⟨Nat.zero_le _, Nat.zero_le _⟩ ?_
          refine j_stk (st' := [.long v41, .long x6, .long (x4 * v38), .int x9, .int x8, .ref (ad x0)]) rfl ?_
          refine j_lmul E dX6_add_133 ?_
          refine j_ladd E dX6_add_134 ?_
          obtain ⟨k43, hf⟩ := ck_spec hf
          obtain ⟨h44, e45, hf⟩ := bs hf
          refine j_callV (ci := 5) (b := x0) (As := [.int x8, .int x9, .long ((x4 * v38) + (x6 * v41))]) (rest := []) (v := none) E (c_X6_keep l D ad cy h x0 x8 x9 ((x4 * v38) + (x6 * v41)) e45) (mcw E.1.2.2.2.2 uw_4_1 uw_3_238 uw_4_0 us_2_8 uw_1_6 rfl rfl hd_X6_keep ⟨by decide, by decide⟩) rfl k43 rfl rfl (Nat.le_of_ble_eq_true rfl) dX6_add_135 ⟨Nat.zero_le _, Nat.zero_le _⟩ ?_
          refine j_stk (st' := []) rfl ?_
          refine j_iinc (v := (x9 + 1)) (k0 := 7) (lv' := [(9, .int (x9 + 1)), (0, .ref (ad x0)), (1, .int x1), (2, .int x2), (3, .int x3), (4, .long x4), (6, .long x6), (8, .int x8)]) E dX6_add_138 rfl (congrArg (fun z => x9 + z) (by decide)) (by decide) rfl ?_
          refine j_goto (tgt := 70) E dX6_add_141 (by decide) ?_
          refine j_perm (lv' := [(0, .ref (ad x0)), (1, .int x1), (2, .int x2), (3, .int x3), (4, .long x4), (6, .long x6), (8, .int x8), (9, .int (x9 + 1))]) [1, 2, 3, 4, 5, 6, 7, 0] rfl ?_
          exact ih k h44 (x9 + 1) hk hf
set_option maxRecDepth 100000 in
set_option maxHeartbeats 4000000 in
theorem w_X6_add_56 {p : Program} {l : Launch} {e : Env} {s : State} {m : MethodId} {args : Array Value} {below : List Frame} {meth : Method} {c : Code} {D : va_G} {ad : Nat → Nat} {cy : Nat → ClassId} (E : EE p s m args c cX6_add 10 (wsM yX6_add cX6_add 10 (some .int)) RX6 D cy) (hr : meth.sig.returnType = (some .int)) (hlk : meth.locks = false) {h' : HP} {r : Int32} (x0 : Nat) (x1 : Int32) (x2 : Int32) (x4 : Int64) (x6 : Int64) (x3 : Int32) : ∀ (n : Nat) (k : (HP → Option (HP × Int32))) (h : HP) (x8 : Int32), (∀ (h : HP), k h = some (h', r) → JJ p l e rmX6_add s m args below meth c 0 0 (MQ below (QV D ad cy (some (.int r)) h') args s 0 0 (Aw ad)) D ad cy (Aw ad) 10 h [(0, .ref (ad x0)), (3, .int x3)] 150 []) → L_X6_add_56 x0 x1 x2 x4 x6 n k h x8 = some (h', r) → JJ p l e rmX6_add s m args below meth c 0 0 (MQ below (QV D ad cy (some (.int r)) h') args s 0 0 (Aw ad)) D ad cy (Aw ad) 10 h [(0, .ref (ad x0)), (1, .int x1), (2, .int x2), (3, .int x3), (4, .long x4), (6, .long x6), (8, .int x8)] 56 [] := by
  intro n
  induction n with
  | zero => intro k h x8 hk hf; cases hf
  | succ n ih =>
    intro k h x8 hk hf
    unfold L_X6_add_56 at hf
    refine j_iload E 6 rfl dX6_add_56 ?_
    refine j_aload_n E 0 rfl dX6_add_58 rfl ?_
    obtain ⟨v23, ev23, hf⟩ := bs hf
    refine j_getR (ci := 5) (k0 := 1) (T := TX6) (N := 14) E (mI inUX6) rfl (by decide) (mU uw_3_105) ev23 dX6_add_59 ?_
    refine j_iload_n E 1 rfl dX6_add_62 rfl ?_
    obtain ⟨v24, ev24, hf⟩ := bs hf
    refine j_aI E ev24 dX6_add_63 ?_
    refine j_icmp_ge (tgt := 150) E dX6_add_64 (by decide) (fun z25 => ?_) (fun z25 => ?_)
    · have hf := ifp hf z25
      refine j_perm (lv' := [(0, .ref (ad x0)), (3, .int x3)]) [0, 3] rfl ?_
      exact hk h hf
    · have hf := ifn hf z25
      refine j_iconst (v := 0) E dX6_add_67 (by decide) ?_
      refine j_istore (lv' := [(9, .int 0), (0, .ref (ad x0)), (1, .int x1), (2, .int x2), (3, .int x3), (4, .long x4), (6, .long x6), (8, .int x8)]) E dX6_add_68 (by decide) rfl ?_
      refine j_perm (lv' := [(0, .ref (ad x0)), (1, .int x1), (2, .int x2), (3, .int x3), (4, .long x4), (6, .long x6), (8, .int x8), (9, .int 0)]) [1, 2, 3, 4, 5, 6, 7, 0] rfl ?_
      refine w_X6_add_70 E hr hlk x0 x1 x2 x4 x6 x8 x3 FU _ h 0 (fun h55 hf => ?_) hf
      refine j_iinc (v := (x8 + 1)) (k0 := 6) (lv' := [(8, .int (x8 + 1)), (0, .ref (ad x0)), (1, .int x1), (2, .int x2), (3, .int x3), (4, .long x4), (6, .long x6)]) E dX6_add_144 rfl (congrArg (fun z => x8 + z) (by decide)) (by decide) rfl ?_
      refine j_goto (tgt := 56) E dX6_add_147 (by decide) ?_
      refine j_perm (lv' := [(0, .ref (ad x0)), (1, .int x1), (2, .int x2), (3, .int x3), (4, .long x4), (6, .long x6), (8, .int (x8 + 1))]) [1, 2, 3, 4, 5, 6, 0] rfl ?_
      exact ih k h55 (x8 + 1) hk hf
set_option maxRecDepth 100000 in
set_option maxHeartbeats 4000000 in
theorem c_X6_add (l : Launch) (D : va_G) (ad : Nat → Nat) (cy : Nat → ClassId) (h : HP) (x0 : Nat) (x1 : Int32) (x2 : Int32) (x3 : Int32) (x4 : Int64) (x6 : Int64) {h' : HP} {r : Int32} (hf : f_X6_add h x0 x1 x2 x3 x4 x6 = some (h', r)) : Met l yX6_add (wsM yX6_add cX6_add 10 (some .int)) rmX6_add (va_Pc [.ref (ad x0), .int x1, .int x2, .int x3, .long x4, .long x6] (PW D ad cy h)) (QV D ad cy (some (.int r)) h') 0 0 (Aw ad) := by
  refine met_of (own := RX6) (lv := [(0, .ref (ad x0)), (1, .int x1), (2, .int x2), (3, .int x3), (4, .long x4), (6, .long x6)]) (by decide) rfl (Nat.le_of_ble_eq_true rfl) rfl (fun p e s m args below meth c E hr hlk => ?_)
  unfold f_X6_add at hf
  refine j_iload_n E 3 rfl dX6_add_0 rfl ?_
  obtain ⟨v1, e2, hf⟩ := bs hf
  refine j_callS (As := [.int x3]) (rest := []) (v := (some (.int v1))) E (c_X6_isNumber l D ad cy h x3 e2) (mcs E.1.2.2.2.2 uw_3_154 uw_3_152 uw_3_153 uw_1_6 rfl rfl hd_X6_isNumber ⟨by decide, by decide⟩) rfl rfl (Nat.le_of_ble_eq_true rfl) dX6_add_1 ⟨Nat.zero_le _, Nat.zero_le _⟩ ?_
  refine j_stk (st' := [.int v1]) rfl ?_
  refine j_if_eq (tgt := 23) E dX6_add_4 (by decide) (fun z3 => ?_) (fun z3 => ?_)
  · have hf := ifp hf z3
    refine j_iconst (v := (-1)) E dX6_add_23 (by decide) ?_
    cases hf
    exact j_iret E hr hlk dX6_add_24
  · have hf := ifn hf z3
    refine j_aload_n E 0 rfl dX6_add_7 rfl ?_
    refine j_iload_n E 1 rfl dX6_add_8 rfl ?_
    obtain ⟨k4, hf⟩ := ck_spec hf
    obtain ⟨v5, e6, hf⟩ := bs hf
    refine j_callV (ci := 5) (b := x0) (As := [.int x1]) (rest := []) (v := (some (.int v5))) E (c_X6_isTable l D ad cy h x0 x1 e6) (mcw E.1.2.2.2.2 uw_3_186 uw_3_183 uw_3_185 us_2_2 uw_1_6 rfl rfl hd_X6_isTable ⟨by decide, by decide⟩) rfl k4 rfl rfl (Nat.le_of_ble_eq_true rfl) dX6_add_9 ⟨Nat.zero_le _, Nat.zero_le _⟩ ?_
    refine j_stk (st' := [.int v5]) rfl ?_
    refine j_if_eq (tgt := 23) E dX6_add_12 (by decide) (fun z7 => ?_) (fun z7 => ?_)
    · have hf := ifp hf z7
      refine j_iconst (v := (-1)) E dX6_add_23 (by decide) ?_
      cases hf
      exact j_iret E hr hlk dX6_add_24
    · have hf := ifn hf z7
      refine j_aload_n E 0 rfl dX6_add_15 rfl ?_
      refine j_iload_n E 2 rfl dX6_add_16 rfl ?_
      obtain ⟨k8, hf⟩ := ck_spec hf
      obtain ⟨v9, e10, hf⟩ := bs hf
      refine j_callV (ci := 5) (b := x0) (As := [.int x2]) (rest := []) (v := (some (.int v9))) E (c_X6_isTable l D ad cy h x0 x2 e10) (mcw E.1.2.2.2.2 uw_3_186 uw_3_183 uw_3_185 us_2_2 uw_1_6 rfl rfl hd_X6_isTable ⟨by decide, by decide⟩) rfl k8 rfl rfl (Nat.le_of_ble_eq_true rfl) dX6_add_17 ⟨Nat.zero_le _, Nat.zero_le _⟩ ?_
      refine j_stk (st' := [.int v9]) rfl ?_
      refine j_if_ne (tgt := 25) E dX6_add_20 (by decide) (fun z11 => ?_) (fun z11 => ?_)
      · have hf := ifn hf z11
        refine j_aload_n E 0 rfl dX6_add_25 rfl ?_
        refine j_iload_n E 1 rfl dX6_add_26 rfl ?_
        refine j_iload_n E 2 rfl dX6_add_27 rfl ?_
        obtain ⟨k12, hf⟩ := ck_spec hf
        obtain ⟨v13, e14, hf⟩ := bs hf
        refine j_callV (ci := 5) (b := x0) (As := [.int x1, .int x2]) (rest := []) (v := (some (.int v13))) E (c_X6_areLike l D ad cy h x0 x1 x2 e14) (mcw E.1.2.2.2.2 uw_3_237 uw_3_234 uw_3_236 us_2_7 uw_1_6 rfl rfl hd_X6_areLike ⟨by decide, by decide⟩) rfl k12 rfl rfl (Nat.le_of_ble_eq_true rfl) dX6_add_28 ⟨Nat.zero_le _, Nat.zero_le _⟩ ?_
        refine j_stk (st' := [.int v13]) rfl ?_
        refine j_if_ne (tgt := 37) E dX6_add_31 (by decide) (fun z15 => ?_) (fun z15 => ?_)
        · have hf := ifn hf z15
          refine j_aload_n E 0 rfl dX6_add_37 rfl ?_
          refine j_aload_n E 0 rfl dX6_add_38 rfl ?_
          obtain ⟨v16, ev16, hf⟩ := bs hf
          refine j_getR (ci := 5) (k0 := 1) (T := TX6) (N := 14) E (mI inUX6) rfl (by decide) (mU uw_3_105) ev16 dX6_add_39 ?_
          refine j_iload_n E 1 rfl dX6_add_42 rfl ?_
          obtain ⟨v17, ev17, hf⟩ := bs hf
          refine j_aI E ev17 dX6_add_43 ?_
          refine j_aload_n E 0 rfl dX6_add_44 rfl ?_
          obtain ⟨v18, ev18, hf⟩ := bs hf
          refine j_getR (ci := 5) (k0 := 2) (T := TX6) (N := 14) E (mI inUX6) rfl (by decide) (mU uw_3_106) ev18 dX6_add_45 ?_
          refine j_iload_n E 1 rfl dX6_add_48 rfl ?_
          obtain ⟨v19, ev19, hf⟩ := bs hf
          refine j_aI E ev19 dX6_add_49 ?_
          obtain ⟨k20, hf⟩ := ck_spec hf
          obtain ⟨h21, e22, hf⟩ := bs hf
          refine j_callV (ci := 5) (b := x0) (As := [.int v17, .int v19]) (rest := []) (v := none) E (c_X6_begin l D ad cy h x0 v17 v19 e22) (mcw E.1.2.2.2.2 uw_3_158 uw_3_155 uw_3_157 us_1_15 uw_1_6 rfl rfl hd_X6_begin ⟨by decide, by decide⟩) rfl k20 rfl rfl (Nat.le_of_ble_eq_true rfl) dX6_add_50 ⟨Nat.zero_le _, Nat.zero_le _⟩ ?_
          refine j_stk (st' := []) rfl ?_
          refine j_iconst (v := 0) E dX6_add_53 (by decide) ?_
          refine j_istore (lv' := [(8, .int 0), (0, .ref (ad x0)), (1, .int x1), (2, .int x2), (3, .int x3), (4, .long x4), (6, .long x6)]) E dX6_add_54 (by decide) rfl ?_
          refine j_perm (lv' := [(0, .ref (ad x0)), (1, .int x1), (2, .int x2), (3, .int x3), (4, .long x4), (6, .long x6), (8, .int 0)]) [1, 2, 3, 4, 5, 6, 0] rfl ?_
          refine w_X6_add_56 E hr hlk x0 x1 x2 x4 x6 x3 FU _ h21 0 (fun h56 hf => ?_) hf
          refine j_aload_n E 0 rfl dX6_add_150 rfl ?_
          refine j_iload_n E 1 rfl dX6_add_151 rfl ?_
          obtain ⟨k57, hf⟩ := ck_spec hf
          obtain ⟨⟨h58, v59⟩, e60, hf⟩ := bs hf
          refine j_callV (ci := 5) (b := x0) (As := [.int x3]) (rest := []) (v := (some (.int v59))) E (c_X6_putAt l D ad cy h56 x0 x3 e60) (mcw E.1.2.2.2.2 uw_3_162 uw_3_159 uw_3_161 us_2_0 uw_1_6 rfl rfl hd_X6_putAt ⟨by decide, by decide⟩) rfl k57 rfl rfl (Nat.le_of_ble_eq_true rfl) dX6_add_152 ⟨Nat.zero_le _, Nat.zero_le _⟩ ?_
          refine j_stk (st' := [.int v59]) rfl ?_
          cases hf
          exact j_iret E hr hlk dX6_add_155
        · have hf := ifp hf z15
          refine j_bipush (v := (-3)) E dX6_add_34 (by decide) ?_
          cases hf
          exact j_iret E hr hlk dX6_add_36
      · have hf := ifp hf z11
        refine j_iconst (v := (-1)) E dX6_add_23 (by decide) ?_
        cases hf
        exact j_iret E hr hlk dX6_add_24
