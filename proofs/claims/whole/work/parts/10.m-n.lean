noncomputable def L_X6_layOut_43 (x0 : Nat) (x1 : Int32) : Nat → (HP → Option (HP)) → HP → Int32 → Option (HP)
  | 0, _, _, _ => none
  | n + 1, k, h, x4 =>
      if 256 ≤ x4 then (
        k h
      ) else (
        (gR 5 h x0 3).bind fun v4 =>
        (aZ h v4 ((256 * x1) + x4)).bind fun v5 =>
        if v5 = 0 then (
          L_X6_layOut_43 x0 x1 n k h (x4 + 1)
        ) else (
          ck 5 h x0 <|
          (f_X6_lay h x0 (Int32.toInt64 (x4 / 16))).bind fun h8 =>
          ck 5 h8 x0 <|
          (f_X6_lay h8 x0 (Int32.toInt64 (x4 - x4 / 16 * 16))).bind fun h11 =>
          (gR 5 h11 x0 4).bind fun v13 =>
          (aJ h11 v13 ((256 * x1) + x4)).bind fun v14 =>
          ck 5 h11 x0 <|
          (f_X6_lay h11 x0 v14).bind fun h16 =>
          L_X6_layOut_43 x0 x1 n k h16 (x4 + 1)
        )
      )
noncomputable def L_X6_layOut_141 (x0 : Nat) (x1 : Int32) : Nat → (HP → Option (HP)) → HP → Int32 → Option (HP)
  | 0, _, _, _ => none
  | n + 1, k, h, x4 =>
      (gR 5 h x0 1).bind fun v32 =>
      (aI h v32 x1).bind fun v33 =>
      (gR 5 h x0 2).bind fun v34 =>
      (aI h v34 x1).bind fun v35 =>
      if (v33 * v35) ≤ x4 then (
        k h
      ) else (
        (gR 5 h x0 2).bind fun v37 =>
        (aI h v37 x1).bind fun v38 =>
        nz v38 <|
        (gR 5 h x0 2).bind fun v40 =>
        (aI h v40 x1).bind fun v41 =>
        nz v41 <|
        ck 5 h x0 <|
        (f_X6_holds h x0 x1 (x4 / v38) (x4 - x4 / v41 * v41)).bind fun v44 =>
        ck 5 h x0 <|
        (f_X6_lay h x0 v44).bind fun h47 =>
        L_X6_layOut_141 x0 x1 n k h47 (x4 + 1)
      )
noncomputable def f_X6_layOut (h : HP) (x0 : Nat) (x1 : Int32) (x2 : Int32) (x3 : Int32) : Option (HP) :=
  (pI 5 h x0 11 0).bind fun h1 =>
  if x2 = 0 then (
    L_X6_layOut_43 x0 x1 FU (fun h18 =>
      some h18) h1 0
  ) else
  if x2 = 1 then (
    ck 5 h1 x0 <|
    (f_X6_byRows h1 x0 x1).bind fun h21 =>
    some h21
  ) else
  if x2 = 2 then (
    ck 5 h1 x0 <|
    (f_X6_byColumns h1 x0 x1).bind fun h25 =>
    some h25
  ) else
  if x2 = 3 then (
    ck 5 h1 x0 <|
    (f_X6_blocks h1 x0 x1 x3).bind fun h29 =>
    some h29
  ) else
  if x2 = 4 then (
    L_X6_layOut_141 x0 x1 FU (fun h49 =>
      some h49) h1 0
  ) else
  (
    ck 5 h1 x0 <|
    (f_X6_slants h1 x0 x1).bind fun h51 =>
    some h51
  )
abbrev rmX6_layOut : Room := { frames := 5, cells := 0, slots := 0, locals := 122 }
theorem hd_X6_layOut : yX6_layOut.cls = RX6 ∧ yX6_layOut.cls ≠ "java/lang/invoke/MethodHandle" ∧ yX6_layOut.cls ≠ "java/lang/invoke/VarHandle" ∧ (parseMethodDescriptor yX6_layOut.desc).map (fun d => d.parameters.length) = some 3 := by decide +kernel
set_option maxRecDepth 100000 in
set_option maxHeartbeats 4000000 in
theorem w_X6_layOut_43 {p : Program} {l : Launch} {e : Env} {s : State} {m : MethodId} {args : Array Value} {below : List Frame} {meth : Method} {c : Code} {D : va_G} {ad : Nat → Nat} {cy : Nat → ClassId} (E : EE p s m args c cX6_layOut 5 (wsM yX6_layOut cX6_layOut 5 none) RX6 D cy) (hr : meth.sig.returnType = none) (hlk : meth.locks = false) {h' : HP} (x0 : Nat) (x1 : Int32) : ∀ (n : Nat) (k : (HP → Option (HP))) (h : HP) (x4 : Int32), (∀ (h : HP), k h = some h' → JJ p l e rmX6_layOut s m args below meth c 0 0 (MQ below (QV D ad cy none h') args s 0 0 (Aw ad)) D ad cy (Aw ad) 5 h [] 110 []) → L_X6_layOut_43 x0 x1 n k h x4 = some h' → JJ p l e rmX6_layOut s m args below meth c 0 0 (MQ below (QV D ad cy none h') args s 0 0 (Aw ad)) D ad cy (Aw ad) 5 h [(0, .ref (ad x0)), (1, .int x1), (4, .int x4)] 43 [] := by
  intro n
  induction n with
  | zero => intro k h x4 hk hf; cases hf
  | succ n ih =>
    intro k h x4 hk hf
    unfold L_X6_layOut_43 at hf
    refine j_iload E 2 rfl dX6_layOut_43 ?_
    refine j_sipush (v := 256) E dX6_layOut_45 (by decide) ?_
    refine j_icmp_ge (tgt := 110) E dX6_layOut_48 (by decide) (fun z3 => ?_) (fun z3 => ?_)
    · have hf := ifp hf z3
      refine j_perm (lv' := []) [] rfl ?_
      exact hk h hf
    · have hf := ifn hf z3
      refine j_aload_n E 0 rfl dX6_layOut_51 rfl ?_
      obtain ⟨v4, ev4, hf⟩ := bs hf
      refine j_getR (ci := 5) (k0 := 3) (T := TX6) (N := 14) E (mI inUX6) rfl (by decide) (mU uw_3_107) ev4 dX6_layOut_52 ?_
      refine j_sipush (v := 256) E dX6_layOut_55 (by decide) ?_
      refine j_iload_n E 1 rfl dX6_layOut_58 rfl ?_
      refine j_imul E dX6_layOut_59 ?_
      refine j_iload E 2 rfl dX6_layOut_60 ?_
      refine j_iadd E dX6_layOut_62 ?_
      obtain ⟨v5, ev5, hf⟩ := bs hf
      refine j_aZ E ev5 dX6_layOut_63 ?_
      refine j_if_eq (tgt := 104) E dX6_layOut_64 (by decide) (fun z6 => ?_) (fun z6 => ?_)
      · have hf := ifp hf z6
        refine j_iinc (v := (x4 + 1)) (k0 := 2) (lv' := [(4, .int (x4 + 1)), (0, .ref (ad x0)), (1, .int x1)]) E dX6_layOut_104 rfl (congrArg (fun z => x4 + z) (by decide)) (by decide) rfl ?_
        refine j_goto (tgt := 43) E dX6_layOut_107 (by decide) ?_
        refine j_perm (lv' := [(0, .ref (ad x0)), (1, .int x1), (4, .int (x4 + 1))]) [1, 2, 0] rfl ?_
        exact ih k h (x4 + 1) hk hf
      · have hf := ifn hf z6
        refine j_aload_n E 0 rfl dX6_layOut_67 rfl ?_
        refine j_iload E 2 rfl dX6_layOut_68 ?_
        refine j_bipush (v := 16) E dX6_layOut_70 (by decide) ?_
        refine j_idiv E (by decide) dX6_layOut_72 ?_
        refine j_i2l E dX6_layOut_73 ?_
        obtain ⟨k7, hf⟩ := ck_spec hf
        obtain ⟨h8, e9, hf⟩ := bs hf
        refine j_callV (ci := 5) (b := x0) (As := [.long (Int32.toInt64 (x4 / 16))]) (rest := []) (v := none) E (c_X6_lay l D ad cy h x0 (Int32.toInt64 (x4 / 16)) e9) (mcw E.1.2.2.2.2 uw_4_44 uw_4_41 uw_4_43 us_2_10 uw_1_6 rfl rfl hd_X6_lay ⟨by decide, by decide⟩) rfl k7 rfl rfl (Nat.le_of_ble_eq_true rfl) dX6_layOut_74 ⟨Nat.zero_le _, Nat.zero_le _⟩ ?_
        refine j_stk (st' := []) rfl ?_
        refine j_aload_n E 0 rfl dX6_layOut_77 rfl ?_
        refine j_iload E 2 rfl dX6_layOut_78 ?_
        refine j_bipush (v := 16) E dX6_layOut_80 (by decide) ?_
        refine j_irem E (by decide) dX6_layOut_82 ?_
        refine j_i2l E dX6_layOut_83 ?_
        obtain ⟨k10, hf⟩ := ck_spec hf
        obtain ⟨h11, e12, hf⟩ := bs hf
        refine j_callV (ci := 5) (b := x0) (As := [.long (Int32.toInt64 (x4 - x4 / 16 * 16))]) (rest := []) (v := none) E (c_X6_lay l D ad cy h8 x0 (Int32.toInt64 (x4 - x4 / 16 * 16)) e12) (mcw E.1.2.2.2.2 uw_4_44 uw_4_41 uw_4_43 us_2_10 uw_1_6 rfl rfl hd_X6_lay ⟨by decide, by decide⟩) rfl k10 rfl rfl (Nat.le_of_ble_eq_true rfl) dX6_layOut_84 ⟨Nat.zero_le _, Nat.zero_le _⟩ ?_
        refine j_stk (st' := []) rfl ?_
        refine j_aload_n E 0 rfl dX6_layOut_87 rfl ?_
        refine j_aload_n E 0 rfl dX6_layOut_88 rfl ?_
        obtain ⟨v13, ev13, hf⟩ := bs hf
        refine j_getR (ci := 5) (k0 := 4) (T := TX6) (N := 14) E (mI inUX6) rfl (by decide) (mU uw_3_108) ev13 dX6_layOut_89 ?_
        refine j_sipush (v := 256) E dX6_layOut_92 (by decide) ?_
        refine j_iload_n E 1 rfl dX6_layOut_95 rfl ?_
        refine j_imul E dX6_layOut_96 ?_
        refine j_iload E 2 rfl dX6_layOut_97 ?_
        refine j_iadd E dX6_layOut_99 ?_
        obtain ⟨v14, ev14, hf⟩ := bs hf
        refine j_aJ E ev14 dX6_layOut_100 ?_
        obtain ⟨k15, hf⟩ := ck_spec hf
        obtain ⟨h16, e17, hf⟩ := bs hf
        refine j_callV (ci := 5) (b := x0) (As := [.long v14]) (rest := []) (v := none) E (c_X6_lay l D ad cy h11 x0 v14 e17) (mcw E.1.2.2.2.2 uw_4_44 uw_4_41 uw_4_43 us_2_10 uw_1_6 rfl rfl hd_X6_lay ⟨by decide, by decide⟩) rfl k15 rfl rfl (Nat.le_of_ble_eq_true rfl) dX6_layOut_101 ⟨Nat.zero_le _, Nat.zero_le _⟩ ?_
        refine j_stk (st' := []) rfl ?_
        refine j_iinc (v := (x4 + 1)) (k0 := 2) (lv' := [(4, .int (x4 + 1)), (0, .ref (ad x0)), (1, .int x1)]) E dX6_layOut_104 rfl (congrArg (fun z => x4 + z) (by decide)) (by decide) rfl ?_
        refine j_goto (tgt := 43) E dX6_layOut_107 (by decide) ?_
        refine j_perm (lv' := [(0, .ref (ad x0)), (1, .int x1), (4, .int (x4 + 1))]) [1, 2, 0] rfl ?_
        exact ih k h16 (x4 + 1) hk hf
set_option maxRecDepth 100000 in
set_option maxHeartbeats 4000000 in
theorem w_X6_layOut_141 {p : Program} {l : Launch} {e : Env} {s : State} {m : MethodId} {args : Array Value} {below : List Frame} {meth : Method} {c : Code} {D : va_G} {ad : Nat → Nat} {cy : Nat → ClassId} (E : EE p s m args c cX6_layOut 5 (wsM yX6_layOut cX6_layOut 5 none) RX6 D cy) (hr : meth.sig.returnType = none) (hlk : meth.locks = false) {h' : HP} (x0 : Nat) (x1 : Int32) : ∀ (n : Nat) (k : (HP → Option (HP))) (h : HP) (x4 : Int32), (∀ (h : HP), k h = some h' → JJ p l e rmX6_layOut s m args below meth c 0 0 (MQ below (QV D ad cy none h') args s 0 0 (Aw ad)) D ad cy (Aw ad) 5 h [] 192 []) → L_X6_layOut_141 x0 x1 n k h x4 = some h' → JJ p l e rmX6_layOut s m args below meth c 0 0 (MQ below (QV D ad cy none h') args s 0 0 (Aw ad)) D ad cy (Aw ad) 5 h [(0, .ref (ad x0)), (1, .int x1), (4, .int x4)] 141 [] := by
  intro n
  induction n with
  | zero => intro k h x4 hk hf; cases hf
  | succ n ih =>
    intro k h x4 hk hf
    unfold L_X6_layOut_141 at hf
    refine j_iload E 2 rfl dX6_layOut_141 ?_
    refine j_aload_n E 0 rfl dX6_layOut_143 rfl ?_
    obtain ⟨v32, ev32, hf⟩ := bs hf
    refine j_getR (ci := 5) (k0 := 1) (T := TX6) (N := 14) E (mI inUX6) rfl (by decide) (mU uw_3_105) ev32 dX6_layOut_144 ?_
    refine j_iload_n E 1 rfl dX6_layOut_147 rfl ?_
    obtain ⟨v33, ev33, hf⟩ := bs hf
    refine j_aI E ev33 dX6_layOut_148 ?_
    refine j_aload_n E 0 rfl dX6_layOut_149 rfl ?_
    obtain ⟨v34, ev34, hf⟩ := bs hf
    refine j_getR (ci := 5) (k0 := 2) (T := TX6) (N := 14) E (mI inUX6) rfl (by decide) (mU uw_3_106) ev34 dX6_layOut_150 ?_
    refine j_iload_n E 1 rfl dX6_layOut_153 rfl ?_
    obtain ⟨v35, ev35, hf⟩ := bs hf
    refine j_aI E ev35 dX6_layOut_154 ?_
    refine j_imul E dX6_layOut_155 ?_
    refine j_icmp_ge (tgt := 192) E dX6_layOut_156 (by decide) (fun z36 => ?_) (fun z36 => ?_)
    · have hf := ifp hf z36
      refine j_perm (lv' := []) [] rfl ?_
      exact hk h hf
    · have hf := ifn hf z36
      refine j_aload_n E 0 rfl dX6_layOut_159 rfl ?_
      refine j_aload_n E 0 rfl dX6_layOut_160 rfl ?_
      refine j_iload_n E 1 rfl dX6_layOut_161 rfl ?_
      refine j_iload E 2 rfl dX6_layOut_162 ?_
      refine j_aload_n E 0 rfl dX6_layOut_164 rfl ?_
      obtain ⟨v37, ev37, hf⟩ := bs hf
      refine j_getR (ci := 5) (k0 := 2) (T := TX6) (N := 14) E (mI inUX6) rfl (by decide) (mU uw_3_106) ev37 dX6_layOut_165 ?_
      refine j_iload_n E 1 rfl dX6_layOut_168 rfl ?_
      obtain ⟨v38, ev38, hf⟩ := bs hf
      refine j_aI E ev38 dX6_layOut_169 ?_
      obtain ⟨n39, hf⟩ := nz_spec hf
      refine j_idiv E n39 dX6_layOut_170 ?_
      refine j_iload E 2 rfl dX6_layOut_171 ?_
      refine j_aload_n E 0 rfl dX6_layOut_173 rfl ?_
      obtain ⟨v40, ev40, hf⟩ := bs hf
      refine j_getR (ci := 5) (k0 := 2) (T := TX6) (N := 14) E (mI inUX6) rfl (by decide) (mU uw_3_106) ev40 dX6_layOut_174 ?_
      refine j_iload_n E 1 rfl dX6_layOut_177 rfl ?_
      obtain ⟨v41, ev41, hf⟩ := bs hf
      refine j_aI E ev41 dX6_layOut_178 ?_
      obtain ⟨n42, hf⟩ := nz_spec hf
      refine j_irem E n42 dX6_layOut_179 ?_
      obtain ⟨k43, hf⟩ := ck_spec hf
      obtain ⟨v44, e45, hf⟩ := bs hf
      refine j_callV (ci := 5) (b := x0) (As := [.int x1, .int (x4 / v38), .int (x4 - x4 / v41 * v41)]) (rest := [.ref (ad x0)]) (v := (some (.long v44))) E (c_X6_holds l D ad cy h x0 x1 (x4 / v38) (x4 - x4 / v41 * v41) e45) (mcw E.1.2.2.2.2 uw_3_206 uw_3_203 uw_3_205 us_2_5 uw_1_6 rfl rfl hd_X6_holds ⟨by decide, by decide⟩) rfl k43 rfl rfl (Nat.le_of_ble_eq_true rfl) dX6_layOut_180 ⟨Nat.zero_le _, Nat.zero_le _⟩ ?_
      refine j_stk (st' := [.long v44, .ref (ad x0)]) rfl ?_
      obtain ⟨k46, hf⟩ := ck_spec hf
      obtain ⟨h47, e48, hf⟩ := bs hf
      refine j_callV (ci := 5) (b := x0) (As := [.long v44]) (rest := []) (v := none) E (c_X6_lay l D ad cy h x0 v44 e48) (mcw E.1.2.2.2.2 uw_4_44 uw_4_41 uw_4_43 us_2_10 uw_1_6 rfl rfl hd_X6_lay ⟨by decide, by decide⟩) rfl k46 rfl rfl (Nat.le_of_ble_eq_true rfl) dX6_layOut_183 ⟨Nat.zero_le _, Nat.zero_le _⟩ ?_
      refine j_stk (st' := []) rfl ?_
      refine j_iinc (v := (x4 + 1)) (k0 := 2) (lv' := [(4, .int (x4 + 1)), (0, .ref (ad x0)), (1, .int x1)]) E dX6_layOut_186 rfl (congrArg (fun z => x4 + z) (by decide)) (by decide) rfl ?_
      refine j_goto (tgt := 141) E dX6_layOut_189 (by decide) ?_
      refine j_perm (lv' := [(0, .ref (ad x0)), (1, .int x1), (4, .int (x4 + 1))]) [1, 2, 0] rfl ?_
      exact ih k h47 (x4 + 1) hk hf
set_option maxRecDepth 100000 in
set_option maxHeartbeats 4000000 in
theorem c_X6_layOut (l : Launch) (D : va_G) (ad : Nat → Nat) (cy : Nat → ClassId) (h : HP) (x0 : Nat) (x1 : Int32) (x2 : Int32) (x3 : Int32) {h' : HP} (hf : f_X6_layOut h x0 x1 x2 x3 = some h') : Met l yX6_layOut (wsM yX6_layOut cX6_layOut 5 none) rmX6_layOut (va_Pc [.ref (ad x0), .int x1, .int x2, .int x3] (PW D ad cy h)) (QV D ad cy none h') 0 0 (Aw ad) := by
  refine met_of (own := RX6) (lv := [(0, .ref (ad x0)), (1, .int x1), (2, .int x2), (3, .int x3)]) (by decide) rfl (Nat.le_of_ble_eq_true rfl) rfl (fun p e s m args below meth c E hr hlk => ?_)
  unfold f_X6_layOut at hf
  refine j_aload_n E 0 rfl dX6_layOut_0 rfl ?_
  refine j_iconst (v := 0) E dX6_layOut_1 (by decide) ?_
  obtain ⟨h1, eh1, hf⟩ := bs hf
  refine j_putI (ci := 5) (k0 := 11) (T := TX6) (N := 14) E (mI inUX6) rfl (by decide) (mU uw_3_115) tyX6 tyX6_ok nmX6 rfl (by decide +kernel) eh1 dX6_layOut_2 ?_
  refine j_iload_n E 2 rfl dX6_layOut_5 rfl ?_
  by_cases z2 : x2 = 0
  · have hf := ifp hf z2
    refine j_tabIn (off := 34) (tgt := 40) E dX6_layOut_6 (by rw [z2]; decide) (by rw [z2]; decide) (by rw [z2]; decide) (by decide) ?_
    refine j_iconst (v := 0) E dX6_layOut_40 (by decide) ?_
    refine j_istore (lv' := [(4, .int 0), (0, .ref (ad x0)), (1, .int x1), (2, .int x2), (3, .int x3)]) E dX6_layOut_41 (by decide) rfl ?_
    refine j_perm (lv' := [(0, .ref (ad x0)), (1, .int x1), (4, .int 0)]) [1, 2, 0] rfl ?_
    refine w_X6_layOut_43 E hr hlk x0 x1 FU _ h1 0 (fun h18 hf => ?_) hf
    refine j_goto (tgt := 200) E dX6_layOut_110 (by decide) ?_
    cases hf
    exact j_vret E hr hlk dX6_layOut_200
  · have hf := ifn hf z2
    by_cases z19 : x2 = 1
    · have hf := ifp hf z19
      refine j_tabIn (off := 107) (tgt := 113) E dX6_layOut_6 (by rw [z19]; decide) (by rw [z19]; decide) (by rw [z19]; decide) (by decide) ?_
      refine j_aload_n E 0 rfl dX6_layOut_113 rfl ?_
      refine j_iload_n E 1 rfl dX6_layOut_114 rfl ?_
      obtain ⟨k20, hf⟩ := ck_spec hf
      obtain ⟨h21, e22, hf⟩ := bs hf
      refine j_callV (ci := 5) (b := x0) (As := [.int x1]) (rest := []) (v := none) E (c_X6_byRows l D ad cy h1 x0 x1 e22) (mcw E.1.2.2.2.2 uw_4_48 uw_4_45 uw_4_47 us_2_11 uw_1_6 rfl rfl hd_X6_byRows ⟨by decide, by decide⟩) rfl k20 rfl rfl (Nat.le_of_ble_eq_true rfl) dX6_layOut_115 ⟨Nat.zero_le _, Nat.zero_le _⟩ ?_
      refine j_stk (st' := []) rfl ?_
      refine j_goto (tgt := 200) E dX6_layOut_118 (by decide) ?_
      cases hf
      exact j_vret E hr hlk dX6_layOut_200
    · have hf := ifn hf z19
      by_cases z23 : x2 = 2
      · have hf := ifp hf z23
        refine j_tabIn (off := 115) (tgt := 121) E dX6_layOut_6 (by rw [z23]; decide) (by rw [z23]; decide) (by rw [z23]; decide) (by decide) ?_
        refine j_aload_n E 0 rfl dX6_layOut_121 rfl ?_
        refine j_iload_n E 1 rfl dX6_layOut_122 rfl ?_
        obtain ⟨k24, hf⟩ := ck_spec hf
        obtain ⟨h25, e26, hf⟩ := bs hf
        refine j_callV (ci := 5) (b := x0) (As := [.int x1]) (rest := []) (v := none) E (c_X6_byColumns l D ad cy h1 x0 x1 e26) (mcw E.1.2.2.2.2 uw_4_52 uw_4_49 uw_4_51 us_2_12 uw_1_6 rfl rfl hd_X6_byColumns ⟨by decide, by decide⟩) rfl k24 rfl rfl (Nat.le_of_ble_eq_true rfl) dX6_layOut_123 ⟨Nat.zero_le _, Nat.zero_le _⟩ ?_
        refine j_stk (st' := []) rfl ?_
        refine j_goto (tgt := 200) E dX6_layOut_126 (by decide) ?_
        cases hf
        exact j_vret E hr hlk dX6_layOut_200
      · have hf := ifn hf z23
        by_cases z27 : x2 = 3
        · have hf := ifp hf z27
          refine j_tabIn (off := 123) (tgt := 129) E dX6_layOut_6 (by rw [z27]; decide) (by rw [z27]; decide) (by rw [z27]; decide) (by decide) ?_
          refine j_aload_n E 0 rfl dX6_layOut_129 rfl ?_
          refine j_iload_n E 1 rfl dX6_layOut_130 rfl ?_
          refine j_iload_n E 3 rfl dX6_layOut_131 rfl ?_
          obtain ⟨k28, hf⟩ := ck_spec hf
          obtain ⟨h29, e30, hf⟩ := bs hf
          refine j_callV (ci := 5) (b := x0) (As := [.int x1, .int x3]) (rest := []) (v := none) E (c_X6_blocks l D ad cy h1 x0 x1 x3 e30) (mcw E.1.2.2.2.2 uw_4_56 uw_4_53 uw_4_55 us_2_13 uw_1_6 rfl rfl hd_X6_blocks ⟨by decide, by decide⟩) rfl k28 rfl rfl (Nat.le_of_ble_eq_true rfl) dX6_layOut_132 ⟨Nat.zero_le _, Nat.zero_le _⟩ ?_
          refine j_stk (st' := []) rfl ?_
          refine j_goto (tgt := 200) E dX6_layOut_135 (by decide) ?_
          cases hf
          exact j_vret E hr hlk dX6_layOut_200
        · have hf := ifn hf z27
          by_cases z31 : x2 = 4
          · have hf := ifp hf z31
            refine j_tabIn (off := 132) (tgt := 138) E dX6_layOut_6 (by rw [z31]; decide) (by rw [z31]; decide) (by rw [z31]; decide) (by decide) ?_
            refine j_iconst (v := 0) E dX6_layOut_138 (by decide) ?_
            refine j_istore (lv' := [(4, .int 0), (0, .ref (ad x0)), (1, .int x1), (2, .int x2), (3, .int x3)]) E dX6_layOut_139 (by decide) rfl ?_
            refine j_perm (lv' := [(0, .ref (ad x0)), (1, .int x1), (4, .int 0)]) [1, 2, 0] rfl ?_
            refine w_X6_layOut_141 E hr hlk x0 x1 FU _ h1 0 (fun h49 hf => ?_) hf
            refine j_goto (tgt := 200) E dX6_layOut_192 (by decide) ?_
            cases hf
            exact j_vret E hr hlk dX6_layOut_200
          · have hf := ifn hf z31
            refine j_tabOut (tgt := 195) E dX6_layOut_6 (sw_out x2 4 4 rfl (by decide) (fun k hk => match k, hk with | 0, _ => z2 | 1, _ => z19 | 2, _ => z23 | 3, _ => z27 | 4, _ => z31 | k + 5, hk => absurd hk (by omega))) (by decide) ?_
            refine j_aload_n E 0 rfl dX6_layOut_195 rfl ?_
            refine j_iload_n E 1 rfl dX6_layOut_196 rfl ?_
            obtain ⟨k50, hf⟩ := ck_spec hf
            obtain ⟨h51, e52, hf⟩ := bs hf
            refine j_callV (ci := 5) (b := x0) (As := [.int x1]) (rest := []) (v := none) E (c_X6_slants l D ad cy h1 x0 x1 e52) (mcw E.1.2.2.2.2 uw_4_68 uw_4_65 uw_4_67 us_3_0 uw_1_6 rfl rfl hd_X6_slants ⟨by decide, by decide⟩) rfl k50 rfl rfl (Nat.le_of_ble_eq_true rfl) dX6_layOut_197 ⟨Nat.zero_le _, Nat.zero_le _⟩ ?_
            refine j_stk (st' := []) rfl ?_
            cases hf
            exact j_vret E hr hlk dX6_layOut_200
noncomputable def f_X6_isForm (x0 : Int32) (x1 : Int32) : Option (Int32) :=
  if x0 < 0 then (
    some 0
  ) else (
    if 5 < x0 then (
      some 0
    ) else (
      if x0 = 3 then (
        if x1 < 1 then (
          some 0
        ) else (
          if 4 < x1 then (
            some 0
          ) else (
            some 1
          )
        )
      ) else (
        some 1
      )
    )
  )
abbrev rmX6_isForm : Room := { frames := 0, cells := 0, slots := 0, locals := 0 }
theorem hd_X6_isForm : yX6_isForm.cls = RX6 ∧ yX6_isForm.cls ≠ "java/lang/invoke/MethodHandle" ∧ yX6_isForm.cls ≠ "java/lang/invoke/VarHandle" ∧ (parseMethodDescriptor yX6_isForm.desc).map (fun d => d.parameters.length) = some 2 := by decide +kernel
set_option maxRecDepth 100000 in
set_option maxHeartbeats 4000000 in
theorem c_X6_isForm (l : Launch) (D : va_G) (ad : Nat → Nat) (cy : Nat → ClassId) (h : HP) (x0 : Int32) (x1 : Int32) {r : Int32} (hf : f_X6_isForm x0 x1 = some r) : Met l yX6_isForm (wsM yX6_isForm cX6_isForm 2 (some .boolean)) rmX6_isForm (va_Pc [.int x0, .int x1] (PW D ad cy h)) (QV D ad cy (some (.int r)) h) 0 0 (Aw ad) := by
  refine met_of (own := RX6) (lv := [(0, .int x0), (1, .int x1)]) (by decide) rfl (Nat.le_of_ble_eq_true rfl) rfl (fun p e s m args below meth c E hr hlk => ?_)
  unfold f_X6_isForm at hf
  refine j_iload_n E 0 rfl dX6_isForm_0 rfl ?_
  refine j_if_lt (tgt := 28) E dX6_isForm_1 (by decide) (fun z1 => ?_) (fun z1 => ?_)
  · have hf := ifp hf z1
    refine j_iconst (v := 0) E dX6_isForm_28 (by decide) ?_
    cases hf
    exact j_zret E hr hlk rfl dX6_isForm_29
  · have hf := ifn hf z1
    refine j_iload_n E 0 rfl dX6_isForm_4 rfl ?_
    refine j_iconst (v := 5) E dX6_isForm_5 (by decide) ?_
    refine j_icmp_gt (tgt := 28) E dX6_isForm_6 (by decide) (fun z2 => ?_) (fun z2 => ?_)
    · have hf := ifp hf z2
      refine j_iconst (v := 0) E dX6_isForm_28 (by decide) ?_
      cases hf
      exact j_zret E hr hlk rfl dX6_isForm_29
    · have hf := ifn hf z2
      refine j_iload_n E 0 rfl dX6_isForm_9 rfl ?_
      refine j_iconst (v := 3) E dX6_isForm_10 (by decide) ?_
      refine j_icmp_ne (tgt := 24) E dX6_isForm_11 (by decide) (fun z3 => ?_) (fun z3 => ?_)
      · have hf := ifn hf z3
        refine j_iconst (v := 1) E dX6_isForm_24 (by decide) ?_
        refine j_goto (tgt := 29) E dX6_isForm_25 (by decide) ?_
        cases hf
        exact j_zret E hr hlk rfl dX6_isForm_29
      · have hf := ifp hf z3
        refine j_iload_n E 1 rfl dX6_isForm_14 rfl ?_
        refine j_iconst (v := 1) E dX6_isForm_15 (by decide) ?_
        refine j_icmp_lt (tgt := 28) E dX6_isForm_16 (by decide) (fun z4 => ?_) (fun z4 => ?_)
        · have hf := ifp hf z4
          refine j_iconst (v := 0) E dX6_isForm_28 (by decide) ?_
          cases hf
          exact j_zret E hr hlk rfl dX6_isForm_29
        · have hf := ifn hf z4
          refine j_iload_n E 1 rfl dX6_isForm_19 rfl ?_
          refine j_iconst (v := 4) E dX6_isForm_20 (by decide) ?_
          refine j_icmp_gt (tgt := 28) E dX6_isForm_21 (by decide) (fun z5 => ?_) (fun z5 => ?_)
          · have hf := ifp hf z5
            refine j_iconst (v := 0) E dX6_isForm_28 (by decide) ?_
            cases hf
            exact j_zret E hr hlk rfl dX6_isForm_29
          · have hf := ifn hf z5
            refine j_iconst (v := 1) E dX6_isForm_24 (by decide) ?_
            refine j_goto (tgt := 29) E dX6_isForm_25 (by decide) ?_
            cases hf
            exact j_zret E hr hlk rfl dX6_isForm_29
noncomputable def f_X6_cost (h : HP) (x0 : Nat) (x1 : Int32) (x2 : Int32) (x3 : Int32) : Option (HP × Int32) :=
  ck 5 h x0 <|
  (f_X6_isTable h x0 x1).bind fun v2 =>
  if v2 = 0 then (
    some (h, (-1))
  ) else (
    (f_X6_isForm x2 x3).bind fun v5 =>
    if v5 = 0 then (
      some (h, (-2))
    ) else (
      ck 5 h x0 <|
      (f_X6_layOut h x0 x1 x2 x3).bind fun h9 =>
      (gI 5 h9 x0 11).bind fun v11 =>
      some (h9, v11)
    )
  )
abbrev rmX6_cost : Room := { frames := 6, cells := 0, slots := 0, locals := 146 }
theorem hd_X6_cost : yX6_cost.cls = RX6 ∧ yX6_cost.cls ≠ "java/lang/invoke/MethodHandle" ∧ yX6_cost.cls ≠ "java/lang/invoke/VarHandle" ∧ (parseMethodDescriptor yX6_cost.desc).map (fun d => d.parameters.length) = some 3 := by decide +kernel
set_option maxRecDepth 100000 in
set_option maxHeartbeats 4000000 in
theorem c_X6_cost (l : Launch) (D : va_G) (ad : Nat → Nat) (cy : Nat → ClassId) (h : HP) (x0 : Nat) (x1 : Int32) (x2 : Int32) (x3 : Int32) {h' : HP} {r : Int32} (hf : f_X6_cost h x0 x1 x2 x3 = some (h', r)) : Met l yX6_cost (wsM yX6_cost cX6_cost 4 (some .int)) rmX6_cost (va_Pc [.ref (ad x0), .int x1, .int x2, .int x3] (PW D ad cy h)) (QV D ad cy (some (.int r)) h') 0 0 (Aw ad) := by
  refine met_of (own := RX6) (lv := [(0, .ref (ad x0)), (1, .int x1), (2, .int x2), (3, .int x3)]) (by decide) rfl (Nat.le_of_ble_eq_true rfl) rfl (fun p e s m args below meth c E hr hlk => ?_)
  unfold f_X6_cost at hf
  refine j_aload_n E 0 rfl dX6_cost_0 rfl ?_
  refine j_iload_n E 1 rfl dX6_cost_1 rfl ?_
  obtain ⟨k1, hf⟩ := ck_spec hf
  obtain ⟨v2, e3, hf⟩ := bs hf
  refine j_callV (ci := 5) (b := x0) (As := [.int x1]) (rest := []) (v := (some (.int v2))) E (c_X6_isTable l D ad cy h x0 x1 e3) (mcw E.1.2.2.2.2 uw_3_186 uw_3_183 uw_3_185 us_2_2 uw_1_6 rfl rfl hd_X6_isTable ⟨by decide, by decide⟩) rfl k1 rfl rfl (Nat.le_of_ble_eq_true rfl) dX6_cost_2 ⟨Nat.zero_le _, Nat.zero_le _⟩ ?_
  refine j_stk (st' := [.int v2]) rfl ?_
  refine j_if_ne (tgt := 10) E dX6_cost_5 (by decide) (fun z4 => ?_) (fun z4 => ?_)
  · have hf := ifn hf z4
    refine j_iload_n E 2 rfl dX6_cost_10 rfl ?_
    refine j_iload_n E 3 rfl dX6_cost_11 rfl ?_
    obtain ⟨v5, e6, hf⟩ := bs hf
    refine j_callS (As := [.int x2, .int x3]) (rest := []) (v := (some (.int v5))) E (c_X6_isForm l D ad cy h x2 x3 e6) (mcs E.1.2.2.2.2 uw_4_36 uw_4_34 uw_4_35 uw_1_6 rfl rfl hd_X6_isForm ⟨by decide, by decide⟩) rfl rfl (Nat.le_of_ble_eq_true rfl) dX6_cost_12 ⟨Nat.zero_le _, Nat.zero_le _⟩ ?_
    refine j_stk (st' := [.int v5]) rfl ?_
    refine j_if_ne (tgt := 21) E dX6_cost_15 (by decide) (fun z7 => ?_) (fun z7 => ?_)
    · have hf := ifn hf z7
      refine j_aload_n E 0 rfl dX6_cost_21 rfl ?_
      refine j_iload_n E 1 rfl dX6_cost_22 rfl ?_
      refine j_iload_n E 2 rfl dX6_cost_23 rfl ?_
      refine j_iload_n E 3 rfl dX6_cost_24 rfl ?_
      obtain ⟨k8, hf⟩ := ck_spec hf
      obtain ⟨h9, e10, hf⟩ := bs hf
      refine j_callV (ci := 5) (b := x0) (As := [.int x1, .int x2, .int x3]) (rest := []) (v := none) E (c_X6_layOut l D ad cy h x0 x1 x2 x3 e10) (mcw E.1.2.2.2.2 uw_4_40 uw_4_37 uw_4_39 us_2_9 uw_1_6 rfl rfl hd_X6_layOut ⟨by decide, by decide⟩) rfl k8 rfl rfl (Nat.le_of_ble_eq_true rfl) dX6_cost_25 ⟨Nat.zero_le _, Nat.zero_le _⟩ ?_
      refine j_stk (st' := []) rfl ?_
      refine j_aload_n E 0 rfl dX6_cost_28 rfl ?_
      obtain ⟨v11, ev11, hf⟩ := bs hf
      refine j_getI (ci := 5) (k0 := 11) (T := TX6) (N := 14) E (mI inUX6) rfl (by decide) (mU uw_3_115) ev11 dX6_cost_29 ?_
      cases hf
      exact j_iret E hr hlk dX6_cost_32
    · have hf := ifp hf z7
      refine j_bipush (v := (-2)) E dX6_cost_18 (by decide) ?_
      cases hf
      exact j_iret E hr hlk dX6_cost_20
  · have hf := ifp hf z4
    refine j_iconst (v := (-1)) E dX6_cost_8 (by decide) ?_
    cases hf
    exact j_iret E hr hlk dX6_cost_9
noncomputable def L_X6_cheapest_26 (x0 : Nat) (x1 : Int32) (x2 : Int32) : Nat → (HP → Int32 → Option (HP × Int32)) → HP → Int32 → Int32 → Option (HP × Int32)
  | 0, _, _, _, _ => none
  | n + 1, k, h, x3, x4 =>
      if 5 < x4 then (
        k h x3
      ) else (
        ck 5 h x0 <|
        (f_X6_cost h x0 x1 x4 x2).bind fun (h10, v11) =>
        ck 5 h10 x0 <|
        (f_X6_cost h10 x0 x1 x3 x2).bind fun (h14, v15) =>
        if v15 ≤ v11 then (
          L_X6_cheapest_26 x0 x1 x2 n k h14 x3 (x4 + 1)
        ) else (
          L_X6_cheapest_26 x0 x1 x2 n k h14 x4 (x4 + 1)
        )
      )
noncomputable def f_X6_cheapest (h : HP) (x0 : Nat) (x1 : Int32) (x2 : Int32) : Option (HP × Int32) :=
  ck 5 h x0 <|
  (f_X6_isTable h x0 x1).bind fun v2 =>
  if v2 = 0 then (
    some (h, (-1))
  ) else (
    (f_X6_isForm 3 x2).bind fun v5 =>
    if v5 = 0 then (
      some (h, (-2))
    ) else (
      L_X6_cheapest_26 x0 x1 x2 FU (fun h18 x19 =>
        some (h18, x19)) h 0 1
    )
  )
abbrev rmX6_cheapest : Room := { frames := 7, cells := 0, slots := 0, locals := 169 }
theorem hd_X6_cheapest : yX6_cheapest.cls = RX6 ∧ yX6_cheapest.cls ≠ "java/lang/invoke/MethodHandle" ∧ yX6_cheapest.cls ≠ "java/lang/invoke/VarHandle" ∧ (parseMethodDescriptor yX6_cheapest.desc).map (fun d => d.parameters.length) = some 2 := by decide +kernel
set_option maxRecDepth 100000 in
set_option maxHeartbeats 4000000 in
theorem w_X6_cheapest_26 {p : Program} {l : Launch} {e : Env} {s : State} {m : MethodId} {args : Array Value} {below : List Frame} {meth : Method} {c : Code} {D : va_G} {ad : Nat → Nat} {cy : Nat → ClassId} (E : EE p s m args c cX6_cheapest 5 (wsM yX6_cheapest cX6_cheapest 5 (some .int)) RX6 D cy) (hr : meth.sig.returnType = (some .int)) (hlk : meth.locks = false) {h' : HP} {r : Int32} (x0 : Nat) (x1 : Int32) (x2 : Int32) : ∀ (n : Nat) (k : (HP → Int32 → Option (HP × Int32))) (h : HP) (x3 : Int32) (x4 : Int32), (∀ (h : HP) (x3 : Int32), k h x3 = some (h', r) → JJ p l e rmX6_cheapest s m args below meth c 0 0 (MQ below (QV D ad cy (some (.int r)) h') args s 0 0 (Aw ad)) D ad cy (Aw ad) 5 h [(3, .int x3)] 59 []) → L_X6_cheapest_26 x0 x1 x2 n k h x3 x4 = some (h', r) → JJ p l e rmX6_cheapest s m args below meth c 0 0 (MQ below (QV D ad cy (some (.int r)) h') args s 0 0 (Aw ad)) D ad cy (Aw ad) 5 h [(0, .ref (ad x0)), (1, .int x1), (2, .int x2), (3, .int x3), (4, .int x4)] 26 [] := by
  intro n
  induction n with
  | zero => intro k h x3 x4 hk hf; cases hf
  | succ n ih =>
    intro k h x3 x4 hk hf
    unfold L_X6_cheapest_26 at hf
    refine j_iload E 4 rfl dX6_cheapest_26 ?_
    refine j_iconst (v := 5) E dX6_cheapest_28 (by decide) ?_
    refine j_icmp_gt (tgt := 59) E dX6_cheapest_29 (by decide) (fun z8 => ?_) (fun z8 => ?_)
    · have hf := ifp hf z8
      refine j_perm (lv' := [(3, .int x3)]) [3] rfl ?_
      exact hk h x3 hf
    · have hf := ifn hf z8
      refine j_aload_n E 0 rfl dX6_cheapest_32 rfl ?_
      refine j_iload_n E 1 rfl dX6_cheapest_33 rfl ?_
      refine j_iload E 4 rfl dX6_cheapest_34 ?_
      refine j_iload_n E 2 rfl dX6_cheapest_36 rfl ?_
      obtain ⟨k9, hf⟩ := ck_spec hf
      obtain ⟨⟨h10, v11⟩, e12, hf⟩ := bs hf
      refine j_callV (ci := 5) (b := x0) (As := [.int x1, .int x4, .int x2]) (rest := []) (v := (some (.int v11))) E (c_X6_cost l D ad cy h x0 x1 x4 x2 e12) (mcw E.1.2.2.2.2 uw_4_33 uw_4_73 uw_4_31 uw_4_32 uw_1_6 rfl rfl hd_X6_cost ⟨by decide, by decide⟩) rfl k9 rfl rfl (Nat.le_of_ble_eq_true rfl) dX6_cheapest_37 ⟨Nat.zero_le _, Nat.zero_le _⟩ ?_
      refine j_stk (st' := [.int v11]) rfl ?_
      refine j_aload_n E 0 rfl dX6_cheapest_40 rfl ?_
      refine j_iload_n E 1 rfl dX6_cheapest_41 rfl ?_
      refine j_iload_n E 3 rfl dX6_cheapest_42 rfl ?_
      refine j_iload_n E 2 rfl dX6_cheapest_43 rfl ?_
      obtain ⟨k13, hf⟩ := ck_spec hf
      obtain ⟨⟨h14, v15⟩, e16, hf⟩ := bs hf
      refine j_callV (ci := 5) (b := x0) (As := [.int x1, .int x3, .int x2]) (rest := [.int v11]) (v := (some (.int v15))) E (c_X6_cost l D ad cy h10 x0 x1 x3 x2 e16) (mcw E.1.2.2.2.2 uw_4_33 uw_4_73 uw_4_31 uw_4_32 uw_1_6 rfl rfl hd_X6_cost ⟨by decide, by decide⟩) rfl k13 rfl rfl (Nat.le_of_ble_eq_true rfl) dX6_cheapest_44 ⟨Nat.zero_le _, Nat.zero_le _⟩ ?_
      refine j_stk (st' := [.int v15, .int v11]) rfl ?_
      refine j_icmp_ge (tgt := 53) E dX6_cheapest_47 (by decide) (fun z17 => ?_) (fun z17 => ?_)
      · have hf := ifp hf z17
        refine j_iinc (v := (x4 + 1)) (k0 := 4) (lv' := [(4, .int (x4 + 1)), (0, .ref (ad x0)), (1, .int x1), (2, .int x2), (3, .int x3)]) E dX6_cheapest_53 rfl (congrArg (fun z => x4 + z) (by decide)) (by decide) rfl ?_
        refine j_goto (tgt := 26) E dX6_cheapest_56 (by decide) ?_
        refine j_perm (lv' := [(0, .ref (ad x0)), (1, .int x1), (2, .int x2), (3, .int x3), (4, .int (x4 + 1))]) [1, 2, 3, 4, 0] rfl ?_
        exact ih k h14 x3 (x4 + 1) hk hf
      · have hf := ifn hf z17
        refine j_iload E 4 rfl dX6_cheapest_50 ?_
        refine j_istore_n (lv' := [(3, .int x4), (0, .ref (ad x0)), (1, .int x1), (2, .int x2), (4, .int x4)]) E dX6_cheapest_52 rfl (by decide) rfl ?_
        refine j_iinc (v := (x4 + 1)) (k0 := 4) (lv' := [(4, .int (x4 + 1)), (3, .int x4), (0, .ref (ad x0)), (1, .int x1), (2, .int x2)]) E dX6_cheapest_53 rfl (congrArg (fun z => x4 + z) (by decide)) (by decide) rfl ?_
        refine j_goto (tgt := 26) E dX6_cheapest_56 (by decide) ?_
        refine j_perm (lv' := [(0, .ref (ad x0)), (1, .int x1), (2, .int x2), (3, .int x4), (4, .int (x4 + 1))]) [2, 3, 4, 1, 0] rfl ?_
        exact ih k h14 x4 (x4 + 1) hk hf
set_option maxRecDepth 100000 in
set_option maxHeartbeats 4000000 in
theorem c_X6_cheapest (l : Launch) (D : va_G) (ad : Nat → Nat) (cy : Nat → ClassId) (h : HP) (x0 : Nat) (x1 : Int32) (x2 : Int32) {h' : HP} {r : Int32} (hf : f_X6_cheapest h x0 x1 x2 = some (h', r)) : Met l yX6_cheapest (wsM yX6_cheapest cX6_cheapest 5 (some .int)) rmX6_cheapest (va_Pc [.ref (ad x0), .int x1, .int x2] (PW D ad cy h)) (QV D ad cy (some (.int r)) h') 0 0 (Aw ad) := by
  refine met_of (own := RX6) (lv := [(0, .ref (ad x0)), (1, .int x1), (2, .int x2)]) (by decide) rfl (Nat.le_of_ble_eq_true rfl) rfl (fun p e s m args below meth c E hr hlk => ?_)
  unfold f_X6_cheapest at hf
  refine j_aload_n E 0 rfl dX6_cheapest_0 rfl ?_
  refine j_iload_n E 1 rfl dX6_cheapest_1 rfl ?_
  obtain ⟨k1, hf⟩ := ck_spec hf
  obtain ⟨v2, e3, hf⟩ := bs hf
  refine j_callV (ci := 5) (b := x0) (As := [.int x1]) (rest := []) (v := (some (.int v2))) E (c_X6_isTable l D ad cy h x0 x1 e3) (mcw E.1.2.2.2.2 uw_3_186 uw_3_183 uw_3_185 us_2_2 uw_1_6 rfl rfl hd_X6_isTable ⟨by decide, by decide⟩) rfl k1 rfl rfl (Nat.le_of_ble_eq_true rfl) dX6_cheapest_2 ⟨Nat.zero_le _, Nat.zero_le _⟩ ?_
  refine j_stk (st' := [.int v2]) rfl ?_
  refine j_if_ne (tgt := 10) E dX6_cheapest_5 (by decide) (fun z4 => ?_) (fun z4 => ?_)
  · have hf := ifn hf z4
    refine j_iconst (v := 3) E dX6_cheapest_10 (by decide) ?_
    refine j_iload_n E 2 rfl dX6_cheapest_11 rfl ?_
    obtain ⟨v5, e6, hf⟩ := bs hf
    refine j_callS (As := [.int 3, .int x2]) (rest := []) (v := (some (.int v5))) E (c_X6_isForm l D ad cy h 3 x2 e6) (mcs E.1.2.2.2.2 uw_4_36 uw_4_34 uw_4_35 uw_1_6 rfl rfl hd_X6_isForm ⟨by decide, by decide⟩) rfl rfl (Nat.le_of_ble_eq_true rfl) dX6_cheapest_12 ⟨Nat.zero_le _, Nat.zero_le _⟩ ?_
    refine j_stk (st' := [.int v5]) rfl ?_
    refine j_if_ne (tgt := 21) E dX6_cheapest_15 (by decide) (fun z7 => ?_) (fun z7 => ?_)
    · have hf := ifn hf z7
      refine j_iconst (v := 0) E dX6_cheapest_21 (by decide) ?_
      refine j_istore_n (lv' := [(3, .int 0), (0, .ref (ad x0)), (1, .int x1), (2, .int x2)]) E dX6_cheapest_22 rfl (by decide) rfl ?_
      refine j_iconst (v := 1) E dX6_cheapest_23 (by decide) ?_
      refine j_istore (lv' := [(4, .int 1), (3, .int 0), (0, .ref (ad x0)), (1, .int x1), (2, .int x2)]) E dX6_cheapest_24 (by decide) rfl ?_
      refine j_perm (lv' := [(0, .ref (ad x0)), (1, .int x1), (2, .int x2), (3, .int 0), (4, .int 1)]) [2, 3, 4, 1, 0] rfl ?_
      refine w_X6_cheapest_26 E hr hlk x0 x1 x2 FU _ h 0 1 (fun h18 x19 hf => ?_) hf
      refine j_iload_n E 0 rfl dX6_cheapest_59 rfl ?_
      cases hf
      exact j_iret E hr hlk dX6_cheapest_60
    · have hf := ifp hf z7
      refine j_bipush (v := (-2)) E dX6_cheapest_18 (by decide) ?_
      cases hf
      exact j_iret E hr hlk dX6_cheapest_20
  · have hf := ifp hf z4
    refine j_iconst (v := (-1)) E dX6_cheapest_8 (by decide) ?_
    cases hf
    exact j_iret E hr hlk dX6_cheapest_9
noncomputable def f_X6_cell (h : HP) (x0 : Nat) (x1 : Int32) (x2 : Int32) (x3 : Int32) (x4 : Int32) : Option (HP × Int64) :=
  ck 5 h x0 <|
  (f_X6_isTable h x0 x1).bind fun v2 =>
  if v2 = 0 then (
    some (h, 0)
  ) else (
    (f_X6_isForm x2 x3).bind fun v5 =>
    if v5 = 0 then (
      some (h, 0)
    ) else (
      ck 5 h x0 <|
      (f_X6_layOut h x0 x1 x2 x3).bind fun h9 =>
      if x4 < 0 then (
        some (h9, 0)
      ) else (
        (gI 5 h9 x0 11).bind fun v12 =>
        if x4 < v12 then (
          (gR 5 h9 x0 10).bind fun v14 =>
          (aJ h9 v14 x4).bind fun v15 =>
          some (h9, v15)
        ) else (
          some (h9, 0)
        )
      )
    )
  )
abbrev rmX6_cell : Room := { frames := 6, cells := 0, slots := 0, locals := 146 }
theorem hd_X6_cell : yX6_cell.cls = RX6 ∧ yX6_cell.cls ≠ "java/lang/invoke/MethodHandle" ∧ yX6_cell.cls ≠ "java/lang/invoke/VarHandle" ∧ (parseMethodDescriptor yX6_cell.desc).map (fun d => d.parameters.length) = some 4 := by decide +kernel
set_option maxRecDepth 100000 in
set_option maxHeartbeats 4000000 in
theorem c_X6_cell (l : Launch) (D : va_G) (ad : Nat → Nat) (cy : Nat → ClassId) (h : HP) (x0 : Nat) (x1 : Int32) (x2 : Int32) (x3 : Int32) (x4 : Int32) {h' : HP} {r : Int64} (hf : f_X6_cell h x0 x1 x2 x3 x4 = some (h', r)) : Met l yX6_cell (wsM yX6_cell cX6_cell 5 (some .long)) rmX6_cell (va_Pc [.ref (ad x0), .int x1, .int x2, .int x3, .int x4] (PW D ad cy h)) (QV D ad cy (some (.long r)) h') 0 0 (Aw ad) := by
  refine met_of (own := RX6) (lv := [(0, .ref (ad x0)), (1, .int x1), (2, .int x2), (3, .int x3), (4, .int x4)]) (by decide) rfl (Nat.le_of_ble_eq_true rfl) rfl (fun p e s m args below meth c E hr hlk => ?_)
  unfold f_X6_cell at hf
  refine j_aload_n E 0 rfl dX6_cell_0 rfl ?_
  refine j_iload_n E 1 rfl dX6_cell_1 rfl ?_
  obtain ⟨k1, hf⟩ := ck_spec hf
  obtain ⟨v2, e3, hf⟩ := bs hf
  refine j_callV (ci := 5) (b := x0) (As := [.int x1]) (rest := []) (v := (some (.int v2))) E (c_X6_isTable l D ad cy h x0 x1 e3) (mcw E.1.2.2.2.2 uw_3_186 uw_3_183 uw_3_185 us_2_2 uw_1_6 rfl rfl hd_X6_isTable ⟨by decide, by decide⟩) rfl k1 rfl rfl (Nat.le_of_ble_eq_true rfl) dX6_cell_2 ⟨Nat.zero_le _, Nat.zero_le _⟩ ?_
  refine j_stk (st' := [.int v2]) rfl ?_
  refine j_if_eq (tgt := 16) E dX6_cell_5 (by decide) (fun z4 => ?_) (fun z4 => ?_)
  · have hf := ifp hf z4
    refine j_lconst (v := 0) E dX6_cell_16 (by decide) ?_
    cases hf
    exact j_lret E hr hlk dX6_cell_17
  · have hf := ifn hf z4
    refine j_iload_n E 2 rfl dX6_cell_8 rfl ?_
    refine j_iload_n E 3 rfl dX6_cell_9 rfl ?_
    obtain ⟨v5, e6, hf⟩ := bs hf
    refine j_callS (As := [.int x2, .int x3]) (rest := []) (v := (some (.int v5))) E (c_X6_isForm l D ad cy h x2 x3 e6) (mcs E.1.2.2.2.2 uw_4_36 uw_4_34 uw_4_35 uw_1_6 rfl rfl hd_X6_isForm ⟨by decide, by decide⟩) rfl rfl (Nat.le_of_ble_eq_true rfl) dX6_cell_10 ⟨Nat.zero_le _, Nat.zero_le _⟩ ?_
    refine j_stk (st' := [.int v5]) rfl ?_
    refine j_if_ne (tgt := 18) E dX6_cell_13 (by decide) (fun z7 => ?_) (fun z7 => ?_)
    · have hf := ifn hf z7
      refine j_aload_n E 0 rfl dX6_cell_18 rfl ?_
      refine j_iload_n E 1 rfl dX6_cell_19 rfl ?_
      refine j_iload_n E 2 rfl dX6_cell_20 rfl ?_
      refine j_iload_n E 3 rfl dX6_cell_21 rfl ?_
      obtain ⟨k8, hf⟩ := ck_spec hf
      obtain ⟨h9, e10, hf⟩ := bs hf
      refine j_callV (ci := 5) (b := x0) (As := [.int x1, .int x2, .int x3]) (rest := []) (v := none) E (c_X6_layOut l D ad cy h x0 x1 x2 x3 e10) (mcw E.1.2.2.2.2 uw_4_40 uw_4_37 uw_4_39 us_2_9 uw_1_6 rfl rfl hd_X6_layOut ⟨by decide, by decide⟩) rfl k8 rfl rfl (Nat.le_of_ble_eq_true rfl) dX6_cell_22 ⟨Nat.zero_le _, Nat.zero_le _⟩ ?_
      refine j_stk (st' := []) rfl ?_
      refine j_iload E 4 rfl dX6_cell_25 ?_
      refine j_if_lt (tgt := 39) E dX6_cell_27 (by decide) (fun z11 => ?_) (fun z11 => ?_)
      · have hf := ifp hf z11
        refine j_lconst (v := 0) E dX6_cell_39 (by decide) ?_
        refine j_goto (tgt := 50) E dX6_cell_40 (by decide) ?_
        cases hf
        exact j_lret E hr hlk dX6_cell_50
      · have hf := ifn hf z11
        refine j_iload E 4 rfl dX6_cell_30 ?_
        refine j_aload_n E 0 rfl dX6_cell_32 rfl ?_
        obtain ⟨v12, ev12, hf⟩ := bs hf
        refine j_getI (ci := 5) (k0 := 11) (T := TX6) (N := 14) E (mI inUX6) rfl (by decide) (mU uw_3_115) ev12 dX6_cell_33 ?_
        refine j_icmp_lt (tgt := 43) E dX6_cell_36 (by decide) (fun z13 => ?_) (fun z13 => ?_)
        · have hf := ifp hf z13
          refine j_aload_n E 0 rfl dX6_cell_43 rfl ?_
          obtain ⟨v14, ev14, hf⟩ := bs hf
          refine j_getR (ci := 5) (k0 := 10) (T := TX6) (N := 14) E (mI inUX6) rfl (by decide) (mU uw_3_114) ev14 dX6_cell_44 ?_
          refine j_iload E 4 rfl dX6_cell_47 ?_
          obtain ⟨v15, ev15, hf⟩ := bs hf
          refine j_aJ E ev15 dX6_cell_49 ?_
          cases hf
          exact j_lret E hr hlk dX6_cell_50
        · have hf := ifn hf z13
          refine j_lconst (v := 0) E dX6_cell_39 (by decide) ?_
          refine j_goto (tgt := 50) E dX6_cell_40 (by decide) ?_
          cases hf
          exact j_lret E hr hlk dX6_cell_50
    · have hf := ifp hf z7
      refine j_lconst (v := 0) E dX6_cell_16 (by decide) ?_
      cases hf
      exact j_lret E hr hlk dX6_cell_17
noncomputable def f_X6_isGraph (h : HP) (x0 : Nat) (x1 : Int32) : Option (Int32) :=
  (gR 5 h x0 1).bind fun v1 =>
  (aI h v1 x1).bind fun v2 =>
  (gR 5 h x0 2).bind fun v3 =>
  (aI h v3 x1).bind fun v4 =>
  if v2 = v4 then (
    some 1
  ) else (
    some 0
  )
abbrev rmX6_isGraph : Room := { frames := 0, cells := 0, slots := 0, locals := 0 }
theorem hd_X6_isGraph : yX6_isGraph.cls = RX6 ∧ yX6_isGraph.cls ≠ "java/lang/invoke/MethodHandle" ∧ yX6_isGraph.cls ≠ "java/lang/invoke/VarHandle" ∧ (parseMethodDescriptor yX6_isGraph.desc).map (fun d => d.parameters.length) = some 1 := by decide +kernel
set_option maxRecDepth 100000 in
set_option maxHeartbeats 4000000 in
theorem c_X6_isGraph (l : Launch) (D : va_G) (ad : Nat → Nat) (cy : Nat → ClassId) (h : HP) (x0 : Nat) (x1 : Int32) {r : Int32} (hf : f_X6_isGraph h x0 x1 = some r) : Met l yX6_isGraph (wsM yX6_isGraph cX6_isGraph 2 (some .boolean)) rmX6_isGraph (va_Pc [.ref (ad x0), .int x1] (PW D ad cy h)) (QV D ad cy (some (.int r)) h) 0 0 (Aw ad) := by
  refine met_of (own := RX6) (lv := [(0, .ref (ad x0)), (1, .int x1)]) (by decide) rfl (Nat.le_of_ble_eq_true rfl) rfl (fun p e s m args below meth c E hr hlk => ?_)
  unfold f_X6_isGraph at hf
  refine j_aload_n E 0 rfl dX6_isGraph_0 rfl ?_
  obtain ⟨v1, ev1, hf⟩ := bs hf
  refine j_getR (ci := 5) (k0 := 1) (T := TX6) (N := 14) E (mI inUX6) rfl (by decide) (mU uw_3_105) ev1 dX6_isGraph_1 ?_
  refine j_iload_n E 1 rfl dX6_isGraph_4 rfl ?_
  obtain ⟨v2, ev2, hf⟩ := bs hf
  refine j_aI E ev2 dX6_isGraph_5 ?_
  refine j_aload_n E 0 rfl dX6_isGraph_6 rfl ?_
  obtain ⟨v3, ev3, hf⟩ := bs hf
  refine j_getR (ci := 5) (k0 := 2) (T := TX6) (N := 14) E (mI inUX6) rfl (by decide) (mU uw_3_106) ev3 dX6_isGraph_7 ?_
  refine j_iload_n E 1 rfl dX6_isGraph_10 rfl ?_
  obtain ⟨v4, ev4, hf⟩ := bs hf
  refine j_aI E ev4 dX6_isGraph_11 ?_
  refine j_icmp_ne (tgt := 19) E dX6_isGraph_12 (by decide) (fun z5 => ?_) (fun z5 => ?_)
  · have hf := ifn hf z5
    refine j_iconst (v := 0) E dX6_isGraph_19 (by decide) ?_
    cases hf
    exact j_zret E hr hlk rfl dX6_isGraph_20
  · have hf := ifp hf z5
    refine j_iconst (v := 1) E dX6_isGraph_15 (by decide) ?_
    refine j_goto (tgt := 20) E dX6_isGraph_16 (by decide) ?_
    cases hf
    exact j_zret E hr hlk rfl dX6_isGraph_20
noncomputable def L_X6_walks_61 (x0 : Nat) (x2 : Int32) : Nat → (HP → Option (HP × Int64)) → HP → Int32 → Option (HP × Int64)
  | 0, _, _, _ => none
  | n + 1, k, h, x5 =>
      if 16 ≤ x5 then (
        k h
      ) else (
        (gR 5 h x0 12).bind fun v20 =>
        if x5 = x2 then (
          (sJ h v20 x5 1).bind fun h22 =>
          L_X6_walks_61 x0 x2 n k h22 (x5 + 1)
        ) else (
          (sJ h v20 x5 0).bind fun h23 =>
          L_X6_walks_61 x0 x2 n k h23 (x5 + 1)
        )
      )
noncomputable def L_X6_walks_127 (x0 : Nat) (x1 : Int32) (x6 : Int32) : Nat → (HP → Option (HP × Int64)) → HP → Int32 → Option (HP × Int64)
  | 0, _, _, _ => none
  | n + 1, k, h, x7 =>
      (gR 5 h x0 1).bind fun v31 =>
      (aI h v31 x1).bind fun v32 =>
      if v32 ≤ x7 then (
        k h
      ) else (
        (gR 5 h x0 13).bind fun v34 =>
        (gR 5 h x0 13).bind fun v35 =>
        (aJ h v35 x6).bind fun v36 =>
        (gR 5 h x0 12).bind fun v37 =>
        (aJ h v37 x7).bind fun v38 =>
        ck 5 h x0 <|
        (f_X6_holds h x0 x1 x7 x6).bind fun v40 =>
        (sJ h v34 x6 (v36 + (v38 * v40))).bind fun h42 =>
        L_X6_walks_127 x0 x1 x6 n k h42 (x7 + 1)
      )
noncomputable def L_X6_walks_105 (x0 : Nat) (x1 : Int32) : Nat → (HP → Option (HP × Int64)) → HP → Int32 → Option (HP × Int64)
  | 0, _, _, _ => none
  | n + 1, k, h, x6 =>
      (gR 5 h x0 1).bind fun v26 =>
      (aI h v26 x1).bind fun v27 =>
      if v27 ≤ x6 then (
        k h
      ) else (
        (gR 5 h x0 13).bind fun v29 =>
        (sJ h v29 x6 0).bind fun h30 =>
        L_X6_walks_127 x0 x1 x6 FU (fun h43 =>
          L_X6_walks_105 x0 x1 n k h43 (x6 + 1)) h30 0
      )
noncomputable def L_X6_walks_185 (x0 : Nat) (x1 : Int32) : Nat → (HP → Option (HP × Int64)) → HP → Int32 → Option (HP × Int64)
  | 0, _, _, _ => none
  | n + 1, k, h, x6 =>
      (gR 5 h x0 1).bind fun v45 =>
      (aI h v45 x1).bind fun v46 =>
      if v46 ≤ x6 then (
        k h
      ) else (
        (gR 5 h x0 12).bind fun v48 =>
        (gR 5 h x0 13).bind fun v49 =>
        (aJ h v49 x6).bind fun v50 =>
        (sJ h v48 x6 v50).bind fun h51 =>
        L_X6_walks_185 x0 x1 n k h51 (x6 + 1)
      )
noncomputable def L_X6_walks_95 (x0 : Nat) (x1 : Int32) (x4 : Int32) : Nat → (HP → Option (HP × Int64)) → HP → Int32 → Option (HP × Int64)
  | 0, _, _, _ => none
  | n + 1, k, h, x5 =>
      if x4 ≤ x5 then (
        k h
      ) else (
        L_X6_walks_105 x0 x1 FU (fun h44 =>
          L_X6_walks_185 x0 x1 FU (fun h52 =>
            L_X6_walks_95 x0 x1 x4 n k h52 (x5 + 1)) h44 0) h 0
      )
noncomputable def f_X6_walks (h : HP) (x0 : Nat) (x1 : Int32) (x2 : Int32) (x3 : Int32) (x4 : Int32) : Option (HP × Int64) :=
  ck 5 h x0 <|
  (f_X6_isTable h x0 x1).bind fun v2 =>
  if v2 = 0 then (
    some (h, 0)
  ) else (
    ck 5 h x0 <|
    (f_X6_isGraph h x0 x1).bind fun v6 =>
    if v6 = 0 then (
      some (h, 0)
    ) else (
      if x2 < 0 then (
        some (h, 0)
      ) else (
        (gR 5 h x0 1).bind fun v10 =>
        (aI h v10 x1).bind fun v11 =>
        if v11 ≤ x2 then (
          some (h, 0)
        ) else (
          if x3 < 0 then (
            some (h, 0)
          ) else (
            (gR 5 h x0 1).bind fun v14 =>
            (aI h v14 x1).bind fun v15 =>
            if v15 ≤ x3 then (
              some (h, 0)
            ) else (
              if x4 < 0 then (
                some (h, 0)
              ) else (
                if x4 ≤ 60 then (
                  L_X6_walks_61 x0 x2 FU (fun h24 =>
                    L_X6_walks_95 x0 x1 x4 FU (fun h53 =>
                      (gR 5 h53 x0 12).bind fun v54 =>
                      (aJ h53 v54 x3).bind fun v55 =>
                      some (h53, v55)) h24 0) h 0
                ) else (
                  some (h, 0)
                )
              )
            )
          )
        )
      )
    )
  )
abbrev rmX6_walks : Room := { frames := 3, cells := 0, slots := 0, locals := 68 }
theorem hd_X6_walks : yX6_walks.cls = RX6 ∧ yX6_walks.cls ≠ "java/lang/invoke/MethodHandle" ∧ yX6_walks.cls ≠ "java/lang/invoke/VarHandle" ∧ (parseMethodDescriptor yX6_walks.desc).map (fun d => d.parameters.length) = some 4 := by decide +kernel
set_option maxRecDepth 100000 in
set_option maxHeartbeats 4000000 in
theorem w_X6_walks_61 {p : Program} {l : Launch} {e : Env} {s : State} {m : MethodId} {args : Array Value} {below : List Frame} {meth : Method} {c : Code} {D : va_G} {ad : Nat → Nat} {cy : Nat → ClassId} (E : EE p s m args c cX6_walks 8 (wsM yX6_walks cX6_walks 8 (some .long)) RX6 D cy) (hr : meth.sig.returnType = (some .long)) (hlk : meth.locks = false) {h' : HP} {r : Int64} (x0 : Nat) (x2 : Int32) (x1 : Int32) (x3 : Int32) (x4 : Int32) : ∀ (n : Nat) (k : (HP → Option (HP × Int64))) (h : HP) (x5 : Int32), (∀ (h : HP), k h = some (h', r) → JJ p l e rmX6_walks s m args below meth c 0 0 (MQ below (QV D ad cy (some (.long r)) h') args s 0 0 (Aw ad)) D ad cy (Aw ad) 8 h [(0, .ref (ad x0)), (1, .int x1), (3, .int x3), (4, .int x4)] 92 []) → L_X6_walks_61 x0 x2 n k h x5 = some (h', r) → JJ p l e rmX6_walks s m args below meth c 0 0 (MQ below (QV D ad cy (some (.long r)) h') args s 0 0 (Aw ad)) D ad cy (Aw ad) 8 h [(0, .ref (ad x0)), (1, .int x1), (2, .int x2), (3, .int x3), (4, .int x4), (5, .int x5)] 61 [] := by
  intro n
  induction n with
  | zero => intro k h x5 hk hf; cases hf
  | succ n ih =>
    intro k h x5 hk hf
    unfold L_X6_walks_61 at hf
    refine j_iload E 5 rfl dX6_walks_61 ?_
    refine j_bipush (v := 16) E dX6_walks_63 (by decide) ?_
    refine j_icmp_ge (tgt := 92) E dX6_walks_65 (by decide) (fun z19 => ?_) (fun z19 => ?_)
    · have hf := ifp hf z19
      refine j_perm (lv' := [(0, .ref (ad x0)), (1, .int x1), (3, .int x3), (4, .int x4)]) [0, 1, 3, 4] rfl ?_
      exact hk h hf
    · have hf := ifn hf z19
      refine j_aload_n E 0 rfl dX6_walks_68 rfl ?_
      obtain ⟨v20, ev20, hf⟩ := bs hf
      refine j_getR (ci := 5) (k0 := 12) (T := TX6) (N := 14) E (mI inUX6) rfl (by decide) (mU uw_3_116) ev20 dX6_walks_69 ?_
      refine j_iload E 5 rfl dX6_walks_72 ?_
      refine j_iload E 5 rfl dX6_walks_74 ?_
      refine j_iload_n E 2 rfl dX6_walks_76 rfl ?_
      refine j_icmp_ne (tgt := 84) E dX6_walks_77 (by decide) (fun z21 => ?_) (fun z21 => ?_)
      · have hf := ifn hf z21
        refine j_lconst (v := 0) E dX6_walks_84 (by decide) ?_
        obtain ⟨h23, eh23, hf⟩ := bs hf
        refine j_sJ E eh23 dX6_walks_85 ?_
        refine j_iinc (v := (x5 + 1)) (k0 := 5) (lv' := [(5, .int (x5 + 1)), (0, .ref (ad x0)), (1, .int x1), (2, .int x2), (3, .int x3), (4, .int x4)]) E dX6_walks_86 rfl (congrArg (fun z => x5 + z) (by decide)) (by decide) rfl ?_
        refine j_goto (tgt := 61) E dX6_walks_89 (by decide) ?_
        refine j_perm (lv' := [(0, .ref (ad x0)), (1, .int x1), (2, .int x2), (3, .int x3), (4, .int x4), (5, .int (x5 + 1))]) [1, 2, 3, 4, 5, 0] rfl ?_
        exact ih k h23 (x5 + 1) hk hf
      · have hf := ifp hf z21
        refine j_lconst (v := 1) E dX6_walks_80 (by decide) ?_
        refine j_goto (tgt := 85) E dX6_walks_81 (by decide) ?_
        obtain ⟨h22, eh22, hf⟩ := bs hf
        refine j_sJ E eh22 dX6_walks_85 ?_
        refine j_iinc (v := (x5 + 1)) (k0 := 5) (lv' := [(5, .int (x5 + 1)), (0, .ref (ad x0)), (1, .int x1), (2, .int x2), (3, .int x3), (4, .int x4)]) E dX6_walks_86 rfl (congrArg (fun z => x5 + z) (by decide)) (by decide) rfl ?_
        refine j_goto (tgt := 61) E dX6_walks_89 (by decide) ?_
        refine j_perm (lv' := [(0, .ref (ad x0)), (1, .int x1), (2, .int x2), (3, .int x3), (4, .int x4), (5, .int (x5 + 1))]) [1, 2, 3, 4, 5, 0] rfl ?_
        exact ih k h22 (x5 + 1) hk hf
set_option maxRecDepth 100000 in
set_option maxHeartbeats 4000000 in
theorem w_X6_walks_127 {p : Program} {l : Launch} {e : Env} {s : State} {m : MethodId} {args : Array Value} {below : List Frame} {meth : Method} {c : Code} {D : va_G} {ad : Nat → Nat} {cy : Nat → ClassId} (E : EE p s m args c cX6_walks 8 (wsM yX6_walks cX6_walks 8 (some .long)) RX6 D cy) (hr : meth.sig.returnType = (some .long)) (hlk : meth.locks = false) {h' : HP} {r : Int64} (x0 : Nat) (x1 : Int32) (x6 : Int32) (x3 : Int32) (x4 : Int32) (x5 : Int32) : ∀ (n : Nat) (k : (HP → Option (HP × Int64))) (h : HP) (x7 : Int32), (∀ (h : HP), k h = some (h', r) → JJ p l e rmX6_walks s m args below meth c 0 0 (MQ below (QV D ad cy (some (.long r)) h') args s 0 0 (Aw ad)) D ad cy (Aw ad) 8 h [(0, .ref (ad x0)), (1, .int x1), (3, .int x3), (4, .int x4), (5, .int x5), (6, .int x6)] 176 []) → L_X6_walks_127 x0 x1 x6 n k h x7 = some (h', r) → JJ p l e rmX6_walks s m args below meth c 0 0 (MQ below (QV D ad cy (some (.long r)) h') args s 0 0 (Aw ad)) D ad cy (Aw ad) 8 h [(0, .ref (ad x0)), (1, .int x1), (3, .int x3), (4, .int x4), (5, .int x5), (6, .int x6), (7, .int x7)] 127 [] := by
  intro n
  induction n with
  | zero => intro k h x7 hk hf; cases hf
  | succ n ih =>
    intro k h x7 hk hf
    unfold L_X6_walks_127 at hf
    refine j_iload E 6 rfl dX6_walks_127 ?_
    refine j_aload_n E 0 rfl dX6_walks_129 rfl ?_
    obtain ⟨v31, ev31, hf⟩ := bs hf
    refine j_getR (ci := 5) (k0 := 1) (T := TX6) (N := 14) E (mI inUX6) rfl (by decide) (mU uw_3_105) ev31 dX6_walks_130 ?_
    refine j_iload_n E 1 rfl dX6_walks_133 rfl ?_
    obtain ⟨v32, ev32, hf⟩ := bs hf
    refine j_aI E ev32 dX6_walks_134 ?_
    refine j_icmp_ge (tgt := 176) E dX6_walks_135 (by decide) (fun z33 => ?_) (fun z33 => ?_)
    · have hf := ifp hf z33
      refine j_perm (lv' := [(0, .ref (ad x0)), (1, .int x1), (3, .int x3), (4, .int x4), (5, .int x5), (6, .int x6)]) [0, 1, 2, 3, 4, 5] rfl ?_
      exact hk h hf
    · have hf := ifn hf z33
      refine j_aload_n E 0 rfl dX6_walks_138 rfl ?_
      obtain ⟨v34, ev34, hf⟩ := bs hf
      refine j_getR (ci := 5) (k0 := 13) (T := TX6) (N := 14) E (mI inUX6) rfl (by decide) (mU uw_3_117) ev34 dX6_walks_139 ?_
      refine j_iload E 5 rfl dX6_walks_142 ?_
      refine j_aload_n E 0 rfl dX6_walks_144 rfl ?_
      obtain ⟨v35, ev35, hf⟩ := bs hf
      refine j_getR (ci := 5) (k0 := 13) (T := TX6) (N := 14) E (mI inUX6) rfl (by decide) (mU uw_3_117) ev35 dX6_walks_145 ?_
      refine j_iload E 5 rfl dX6_walks_148 ?_
      obtain ⟨v36, ev36, hf⟩ := bs hf
      refine j_aJ E ev36 dX6_walks_150 ?_
      refine j_aload_n E 0 rfl dX6_walks_151 rfl ?_
      obtain ⟨v37, ev37, hf⟩ := bs hf
      refine j_getR (ci := 5) (k0 := 12) (T := TX6) (N := 14) E (mI inUX6) rfl (by decide) (mU uw_3_116) ev37 dX6_walks_152 ?_
      refine j_iload E 6 rfl dX6_walks_155 ?_
      obtain ⟨v38, ev38, hf⟩ := bs hf
      refine j_aJ E ev38 dX6_walks_157 ?_
      refine j_aload_n E 0 rfl dX6_walks_158 rfl ?_
      refine j_iload_n E 1 rfl dX6_walks_159 rfl ?_
      refine j_iload E 6 rfl dX6_walks_160 ?_
      refine j_iload E 5 rfl dX6_walks_162 ?_
      obtain ⟨k39, hf⟩ := ck_spec hf
      obtain ⟨v40, e41, hf⟩ := bs hf
      refine j_callV (ci := 5) (b := x0) (As := [.int x1, .int x7, .int x6]) (rest := [.long v38, .long v36, .int x6, .ref (ad v34)]) (v := (some (.long v40))) E (c_X6_holds l D ad cy h x0 x1 x7 x6 e41) (mcw E.1.2.2.2.2 uw_3_206 uw_3_203 uw_3_205 us_2_5 uw_1_6 rfl rfl hd_X6_holds ⟨by decide, by decide⟩) rfl k39 rfl rfl (Nat.le_of_ble_eq_true rfl) dX6_walks_164 ⟨Nat.zero_le _, Nat.zero_le _⟩ ?_
      refine j_stk (st' := [.long v40, .long v38, .long v36, .int x6, .ref (ad v34)]) rfl ?_
      refine j_lmul E dX6_walks_167 ?_
      refine j_ladd E dX6_walks_168 ?_
      obtain ⟨h42, eh42, hf⟩ := bs hf
      refine j_sJ E eh42 dX6_walks_169 ?_
      refine j_iinc (v := (x7 + 1)) (k0 := 6) (lv' := [(7, .int (x7 + 1)), (0, .ref (ad x0)), (1, .int x1), (3, .int x3), (4, .int x4), (5, .int x5), (6, .int x6)]) E dX6_walks_170 rfl (congrArg (fun z => x7 + z) (by decide)) (by decide) rfl ?_
      refine j_goto (tgt := 127) E dX6_walks_173 (by decide) ?_
      refine j_perm (lv' := [(0, .ref (ad x0)), (1, .int x1), (3, .int x3), (4, .int x4), (5, .int x5), (6, .int x6), (7, .int (x7 + 1))]) [1, 2, 3, 4, 5, 6, 0] rfl ?_
      exact ih k h42 (x7 + 1) hk hf
set_option maxRecDepth 100000 in
set_option maxHeartbeats 4000000 in
theorem w_X6_walks_105 {p : Program} {l : Launch} {e : Env} {s : State} {m : MethodId} {args : Array Value} {below : List Frame} {meth : Method} {c : Code} {D : va_G} {ad : Nat → Nat} {cy : Nat → ClassId} (E : EE p s m args c cX6_walks 8 (wsM yX6_walks cX6_walks 8 (some .long)) RX6 D cy) (hr : meth.sig.returnType = (some .long)) (hlk : meth.locks = false) {h' : HP} {r : Int64} (x0 : Nat) (x1 : Int32) (x3 : Int32) (x4 : Int32) (x5 : Int32) : ∀ (n : Nat) (k : (HP → Option (HP × Int64))) (h : HP) (x6 : Int32), (∀ (h : HP), k h = some (h', r) → JJ p l e rmX6_walks s m args below meth c 0 0 (MQ below (QV D ad cy (some (.long r)) h') args s 0 0 (Aw ad)) D ad cy (Aw ad) 8 h [(0, .ref (ad x0)), (1, .int x1), (3, .int x3), (4, .int x4), (5, .int x5)] 182 []) → L_X6_walks_105 x0 x1 n k h x6 = some (h', r) → JJ p l e rmX6_walks s m args below meth c 0 0 (MQ below (QV D ad cy (some (.long r)) h') args s 0 0 (Aw ad)) D ad cy (Aw ad) 8 h [(0, .ref (ad x0)), (1, .int x1), (3, .int x3), (4, .int x4), (5, .int x5), (6, .int x6)] 105 [] := by
  intro n
  induction n with
  | zero => intro k h x6 hk hf; cases hf
  | succ n ih =>
    intro k h x6 hk hf
    unfold L_X6_walks_105 at hf
    refine j_iload E 5 rfl dX6_walks_105 ?_
    refine j_aload_n E 0 rfl dX6_walks_107 rfl ?_
    obtain ⟨v26, ev26, hf⟩ := bs hf
    refine j_getR (ci := 5) (k0 := 1) (T := TX6) (N := 14) E (mI inUX6) rfl (by decide) (mU uw_3_105) ev26 dX6_walks_108 ?_
    refine j_iload_n E 1 rfl dX6_walks_111 rfl ?_
    obtain ⟨v27, ev27, hf⟩ := bs hf
    refine j_aI E ev27 dX6_walks_112 ?_
    refine j_icmp_ge (tgt := 182) E dX6_walks_113 (by decide) (fun z28 => ?_) (fun z28 => ?_)
    · have hf := ifp hf z28
      refine j_perm (lv' := [(0, .ref (ad x0)), (1, .int x1), (3, .int x3), (4, .int x4), (5, .int x5)]) [0, 1, 2, 3, 4] rfl ?_
      exact hk h hf
    · have hf := ifn hf z28
      refine j_aload_n E 0 rfl dX6_walks_116 rfl ?_
      obtain ⟨v29, ev29, hf⟩ := bs hf
      refine j_getR (ci := 5) (k0 := 13) (T := TX6) (N := 14) E (mI inUX6) rfl (by decide) (mU uw_3_117) ev29 dX6_walks_117 ?_
      refine j_iload E 5 rfl dX6_walks_120 ?_
      refine j_lconst (v := 0) E dX6_walks_122 (by decide) ?_
      obtain ⟨h30, eh30, hf⟩ := bs hf
      refine j_sJ E eh30 dX6_walks_123 ?_
      refine j_iconst (v := 0) E dX6_walks_124 (by decide) ?_
      refine j_istore (lv' := [(7, .int 0), (0, .ref (ad x0)), (1, .int x1), (3, .int x3), (4, .int x4), (5, .int x5), (6, .int x6)]) E dX6_walks_125 (by decide) rfl ?_
      refine j_perm (lv' := [(0, .ref (ad x0)), (1, .int x1), (3, .int x3), (4, .int x4), (5, .int x5), (6, .int x6), (7, .int 0)]) [1, 2, 3, 4, 5, 6, 0] rfl ?_
      refine w_X6_walks_127 E hr hlk x0 x1 x6 x3 x4 x5 FU _ h30 0 (fun h43 hf => ?_) hf
      refine j_iinc (v := (x6 + 1)) (k0 := 5) (lv' := [(6, .int (x6 + 1)), (0, .ref (ad x0)), (1, .int x1), (3, .int x3), (4, .int x4), (5, .int x5)]) E dX6_walks_176 rfl (congrArg (fun z => x6 + z) (by decide)) (by decide) rfl ?_
      refine j_goto (tgt := 105) E dX6_walks_179 (by decide) ?_
      refine j_perm (lv' := [(0, .ref (ad x0)), (1, .int x1), (3, .int x3), (4, .int x4), (5, .int x5), (6, .int (x6 + 1))]) [1, 2, 3, 4, 5, 0] rfl ?_
      exact ih k h43 (x6 + 1) hk hf
set_option maxRecDepth 100000 in
set_option maxHeartbeats 4000000 in
theorem w_X6_walks_185 {p : Program} {l : Launch} {e : Env} {s : State} {m : MethodId} {args : Array Value} {below : List Frame} {meth : Method} {c : Code} {D : va_G} {ad : Nat → Nat} {cy : Nat → ClassId} (E : EE p s m args c cX6_walks 8 (wsM yX6_walks cX6_walks 8 (some .long)) RX6 D cy) (hr : meth.sig.returnType = (some .long)) (hlk : meth.locks = false) {h' : HP} {r : Int64} (x0 : Nat) (x1 : Int32) (x3 : Int32) (x4 : Int32) (x5 : Int32) : ∀ (n : Nat) (k : (HP → Option (HP × Int64))) (h : HP) (x6 : Int32), (∀ (h : HP), k h = some (h', r) → JJ p l e rmX6_walks s m args below meth c 0 0 (MQ below (QV D ad cy (some (.long r)) h') args s 0 0 (Aw ad)) D ad cy (Aw ad) 8 h [(0, .ref (ad x0)), (1, .int x1), (3, .int x3), (4, .int x4), (5, .int x5)] 216 []) → L_X6_walks_185 x0 x1 n k h x6 = some (h', r) → JJ p l e rmX6_walks s m args below meth c 0 0 (MQ below (QV D ad cy (some (.long r)) h') args s 0 0 (Aw ad)) D ad cy (Aw ad) 8 h [(0, .ref (ad x0)), (1, .int x1), (3, .int x3), (4, .int x4), (5, .int x5), (6, .int x6)] 185 [] := by
  intro n
  induction n with
  | zero => intro k h x6 hk hf; cases hf
  | succ n ih =>
    intro k h x6 hk hf
    unfold L_X6_walks_185 at hf
    refine j_iload E 5 rfl dX6_walks_185 ?_
    refine j_aload_n E 0 rfl dX6_walks_187 rfl ?_
    obtain ⟨v45, ev45, hf⟩ := bs hf
    refine j_getR (ci := 5) (k0 := 1) (T := TX6) (N := 14) E (mI inUX6) rfl (by decide) (mU uw_3_105) ev45 dX6_walks_188 ?_
    refine j_iload_n E 1 rfl dX6_walks_191 rfl ?_
    obtain ⟨v46, ev46, hf⟩ := bs hf
    refine j_aI E ev46 dX6_walks_192 ?_
    refine j_icmp_ge (tgt := 216) E dX6_walks_193 (by decide) (fun z47 => ?_) (fun z47 => ?_)
    · have hf := ifp hf z47
      refine j_perm (lv' := [(0, .ref (ad x0)), (1, .int x1), (3, .int x3), (4, .int x4), (5, .int x5)]) [0, 1, 2, 3, 4] rfl ?_
      exact hk h hf
    · have hf := ifn hf z47
      refine j_aload_n E 0 rfl dX6_walks_196 rfl ?_
      obtain ⟨v48, ev48, hf⟩ := bs hf
      refine j_getR (ci := 5) (k0 := 12) (T := TX6) (N := 14) E (mI inUX6) rfl (by decide) (mU uw_3_116) ev48 dX6_walks_197 ?_
      refine j_iload E 5 rfl dX6_walks_200 ?_
      refine j_aload_n E 0 rfl dX6_walks_202 rfl ?_
      obtain ⟨v49, ev49, hf⟩ := bs hf
      refine j_getR (ci := 5) (k0 := 13) (T := TX6) (N := 14) E (mI inUX6) rfl (by decide) (mU uw_3_117) ev49 dX6_walks_203 ?_
      refine j_iload E 5 rfl dX6_walks_206 ?_
      obtain ⟨v50, ev50, hf⟩ := bs hf
      refine j_aJ E ev50 dX6_walks_208 ?_
      obtain ⟨h51, eh51, hf⟩ := bs hf
      refine j_sJ E eh51 dX6_walks_209 ?_
      refine j_iinc (v := (x6 + 1)) (k0 := 5) (lv' := [(6, .int (x6 + 1)), (0, .ref (ad x0)), (1, .int x1), (3, .int x3), (4, .int x4), (5, .int x5)]) E dX6_walks_210 rfl (congrArg (fun z => x6 + z) (by decide)) (by decide) rfl ?_
      refine j_goto (tgt := 185) E dX6_walks_213 (by decide) ?_
      refine j_perm (lv' := [(0, .ref (ad x0)), (1, .int x1), (3, .int x3), (4, .int x4), (5, .int x5), (6, .int (x6 + 1))]) [1, 2, 3, 4, 5, 0] rfl ?_
      exact ih k h51 (x6 + 1) hk hf
set_option maxRecDepth 100000 in
set_option maxHeartbeats 4000000 in
theorem w_X6_walks_95 {p : Program} {l : Launch} {e : Env} {s : State} {m : MethodId} {args : Array Value} {below : List Frame} {meth : Method} {c : Code} {D : va_G} {ad : Nat → Nat} {cy : Nat → ClassId} (E : EE p s m args c cX6_walks 8 (wsM yX6_walks cX6_walks 8 (some .long)) RX6 D cy) (hr : meth.sig.returnType = (some .long)) (hlk : meth.locks = false) {h' : HP} {r : Int64} (x0 : Nat) (x1 : Int32) (x4 : Int32) (x3 : Int32) : ∀ (n : Nat) (k : (HP → Option (HP × Int64))) (h : HP) (x5 : Int32), (∀ (h : HP), k h = some (h', r) → JJ p l e rmX6_walks s m args below meth c 0 0 (MQ below (QV D ad cy (some (.long r)) h') args s 0 0 (Aw ad)) D ad cy (Aw ad) 8 h [(0, .ref (ad x0)), (3, .int x3)] 222 []) → L_X6_walks_95 x0 x1 x4 n k h x5 = some (h', r) → JJ p l e rmX6_walks s m args below meth c 0 0 (MQ below (QV D ad cy (some (.long r)) h') args s 0 0 (Aw ad)) D ad cy (Aw ad) 8 h [(0, .ref (ad x0)), (1, .int x1), (3, .int x3), (4, .int x4), (5, .int x5)] 95 [] := by
  intro n
  induction n with
  | zero => intro k h x5 hk hf; cases hf
  | succ n ih =>
    intro k h x5 hk hf
    unfold L_X6_walks_95 at hf
    refine j_iload E 4 rfl dX6_walks_95 ?_
    refine j_iload E 3 rfl dX6_walks_97 ?_
    refine j_icmp_ge (tgt := 222) E dX6_walks_99 (by decide) (fun z25 => ?_) (fun z25 => ?_)
    · have hf := ifp hf z25
      refine j_perm (lv' := [(0, .ref (ad x0)), (3, .int x3)]) [0, 2] rfl ?_
      exact hk h hf
    · have hf := ifn hf z25
      refine j_iconst (v := 0) E dX6_walks_102 (by decide) ?_
      refine j_istore (lv' := [(6, .int 0), (0, .ref (ad x0)), (1, .int x1), (3, .int x3), (4, .int x4), (5, .int x5)]) E dX6_walks_103 (by decide) rfl ?_
      refine j_perm (lv' := [(0, .ref (ad x0)), (1, .int x1), (3, .int x3), (4, .int x4), (5, .int x5), (6, .int 0)]) [1, 2, 3, 4, 5, 0] rfl ?_
      refine w_X6_walks_105 E hr hlk x0 x1 x3 x4 x5 FU _ h 0 (fun h44 hf => ?_) hf
      refine j_iconst (v := 0) E dX6_walks_182 (by decide) ?_
      refine j_istore (lv' := [(6, .int 0), (0, .ref (ad x0)), (1, .int x1), (3, .int x3), (4, .int x4), (5, .int x5)]) E dX6_walks_183 (by decide) rfl ?_
      refine j_perm (lv' := [(0, .ref (ad x0)), (1, .int x1), (3, .int x3), (4, .int x4), (5, .int x5), (6, .int 0)]) [1, 2, 3, 4, 5, 0] rfl ?_
      refine w_X6_walks_185 E hr hlk x0 x1 x3 x4 x5 FU _ h44 0 (fun h52 hf => ?_) hf
      refine j_iinc (v := (x5 + 1)) (k0 := 4) (lv' := [(5, .int (x5 + 1)), (0, .ref (ad x0)), (1, .int x1), (3, .int x3), (4, .int x4)]) E dX6_walks_216 rfl (congrArg (fun z => x5 + z) (by decide)) (by decide) rfl ?_
      refine j_goto (tgt := 95) E dX6_walks_219 (by decide) ?_
      refine j_perm (lv' := [(0, .ref (ad x0)), (1, .int x1), (3, .int x3), (4, .int x4), (5, .int (x5 + 1))]) [1, 2, 3, 4, 0] rfl ?_
      exact ih k h52 (x5 + 1) hk hf
set_option maxRecDepth 100000 in
set_option maxHeartbeats 4000000 in
theorem c_X6_walks (l : Launch) (D : va_G) (ad : Nat → Nat) (cy : Nat → ClassId) (h : HP) (x0 : Nat) (x1 : Int32) (x2 : Int32) (x3 : Int32) (x4 : Int32) {h' : HP} {r : Int64} (hf : f_X6_walks h x0 x1 x2 x3 x4 = some (h', r)) : Met l yX6_walks (wsM yX6_walks cX6_walks 8 (some .long)) rmX6_walks (va_Pc [.ref (ad x0), .int x1, .int x2, .int x3, .int x4] (PW D ad cy h)) (QV D ad cy (some (.long r)) h') 0 0 (Aw ad) := by
  refine met_of (own := RX6) (lv := [(0, .ref (ad x0)), (1, .int x1), (2, .int x2), (3, .int x3), (4, .int x4)]) (by decide) rfl (Nat.le_of_ble_eq_true rfl) rfl (fun p e s m args below meth c E hr hlk => ?_)
  unfold f_X6_walks at hf
  refine j_aload_n E 0 rfl dX6_walks_0 rfl ?_
  refine j_iload_n E 1 rfl dX6_walks_1 rfl ?_
  obtain ⟨k1, hf⟩ := ck_spec hf
  obtain ⟨v2, e3, hf⟩ := bs hf
  refine j_callV (ci := 5) (b := x0) (As := [.int x1]) (rest := []) (v := (some (.int v2))) E (c_X6_isTable l D ad cy h x0 x1 e3) (mcw E.1.2.2.2.2 uw_3_186 uw_3_183 uw_3_185 us_2_2 uw_1_6 rfl rfl hd_X6_isTable ⟨by decide, by decide⟩) rfl k1 rfl rfl (Nat.le_of_ble_eq_true rfl) dX6_walks_2 ⟨Nat.zero_le _, Nat.zero_le _⟩ ?_
  refine j_stk (st' := [.int v2]) rfl ?_
  refine j_if_eq (tgt := 56) E dX6_walks_5 (by decide) (fun z4 => ?_) (fun z4 => ?_)
  · have hf := ifp hf z4
    refine j_lconst (v := 0) E dX6_walks_56 (by decide) ?_
    cases hf
    exact j_lret E hr hlk dX6_walks_57
  · have hf := ifn hf z4
    refine j_aload_n E 0 rfl dX6_walks_8 rfl ?_
    refine j_iload_n E 1 rfl dX6_walks_9 rfl ?_
    obtain ⟨k5, hf⟩ := ck_spec hf
    obtain ⟨v6, e7, hf⟩ := bs hf
    refine j_callV (ci := 5) (b := x0) (As := [.int x1]) (rest := []) (v := (some (.int v6))) E (c_X6_isGraph l D ad cy h x0 x1 e7) (mcw E.1.2.2.2.2 uw_4_85 uw_4_82 uw_4_84 us_3_1 uw_1_6 rfl rfl hd_X6_isGraph ⟨by decide, by decide⟩) rfl k5 rfl rfl (Nat.le_of_ble_eq_true rfl) dX6_walks_10 ⟨Nat.zero_le _, Nat.zero_le _⟩ ?_
    refine j_stk (st' := [.int v6]) rfl ?_
    refine j_if_eq (tgt := 56) E dX6_walks_13 (by decide) (fun z8 => ?_) (fun z8 => ?_)
    · have hf := ifp hf z8
      refine j_lconst (v := 0) E dX6_walks_56 (by decide) ?_
      cases hf
      exact j_lret E hr hlk dX6_walks_57
    · have hf := ifn hf z8
      refine j_iload_n E 2 rfl dX6_walks_16 rfl ?_
      refine j_if_lt (tgt := 56) E dX6_walks_17 (by decide) (fun z9 => ?_) (fun z9 => ?_)
      · have hf := ifp hf z9
        refine j_lconst (v := 0) E dX6_walks_56 (by decide) ?_
        cases hf
        exact j_lret E hr hlk dX6_walks_57
      · have hf := ifn hf z9
        refine j_iload_n E 2 rfl dX6_walks_20 rfl ?_
        refine j_aload_n E 0 rfl dX6_walks_21 rfl ?_
        obtain ⟨v10, ev10, hf⟩ := bs hf
        refine j_getR (ci := 5) (k0 := 1) (T := TX6) (N := 14) E (mI inUX6) rfl (by decide) (mU uw_3_105) ev10 dX6_walks_22 ?_
        refine j_iload_n E 1 rfl dX6_walks_25 rfl ?_
        obtain ⟨v11, ev11, hf⟩ := bs hf
        refine j_aI E ev11 dX6_walks_26 ?_
        refine j_icmp_ge (tgt := 56) E dX6_walks_27 (by decide) (fun z12 => ?_) (fun z12 => ?_)
        · have hf := ifp hf z12
          refine j_lconst (v := 0) E dX6_walks_56 (by decide) ?_
          cases hf
          exact j_lret E hr hlk dX6_walks_57
        · have hf := ifn hf z12
          refine j_iload_n E 3 rfl dX6_walks_30 rfl ?_
          refine j_if_lt (tgt := 56) E dX6_walks_31 (by decide) (fun z13 => ?_) (fun z13 => ?_)
          · have hf := ifp hf z13
            refine j_lconst (v := 0) E dX6_walks_56 (by decide) ?_
            cases hf
            exact j_lret E hr hlk dX6_walks_57
          · have hf := ifn hf z13
            refine j_iload_n E 3 rfl dX6_walks_34 rfl ?_
            refine j_aload_n E 0 rfl dX6_walks_35 rfl ?_
            obtain ⟨v14, ev14, hf⟩ := bs hf
            refine j_getR (ci := 5) (k0 := 1) (T := TX6) (N := 14) E (mI inUX6) rfl (by decide) (mU uw_3_105) ev14 dX6_walks_36 ?_
            refine j_iload_n E 1 rfl dX6_walks_39 rfl ?_
            obtain ⟨v15, ev15, hf⟩ := bs hf
            refine j_aI E ev15 dX6_walks_40 ?_
            refine j_icmp_ge (tgt := 56) E dX6_walks_41 (by decide) (fun z16 => ?_) (fun z16 => ?_)
            · have hf := ifp hf z16
              refine j_lconst (v := 0) E dX6_walks_56 (by decide) ?_
              cases hf
              exact j_lret E hr hlk dX6_walks_57
            · have hf := ifn hf z16
              refine j_iload E 4 rfl dX6_walks_44 ?_
              refine j_if_lt (tgt := 56) E dX6_walks_46 (by decide) (fun z17 => ?_) (fun z17 => ?_)
              · have hf := ifp hf z17
                refine j_lconst (v := 0) E dX6_walks_56 (by decide) ?_
                cases hf
                exact j_lret E hr hlk dX6_walks_57
              · have hf := ifn hf z17
                refine j_iload E 4 rfl dX6_walks_49 ?_
                refine j_bipush (v := 60) E dX6_walks_51 (by decide) ?_
                refine j_icmp_le (tgt := 58) E dX6_walks_53 (by decide) (fun z18 => ?_) (fun z18 => ?_)
                · have hf := ifp hf z18
                  refine j_iconst (v := 0) E dX6_walks_58 (by decide) ?_
                  refine j_istore (lv' := [(5, .int 0), (0, .ref (ad x0)), (1, .int x1), (2, .int x2), (3, .int x3), (4, .int x4)]) E dX6_walks_59 (by decide) rfl ?_
                  refine j_perm (lv' := [(0, .ref (ad x0)), (1, .int x1), (2, .int x2), (3, .int x3), (4, .int x4), (5, .int 0)]) [1, 2, 3, 4, 5, 0] rfl ?_
                  refine w_X6_walks_61 E hr hlk x0 x2 x1 x3 x4 FU _ h 0 (fun h24 hf => ?_) hf
                  refine j_iconst (v := 0) E dX6_walks_92 (by decide) ?_
                  refine j_istore (lv' := [(5, .int 0), (0, .ref (ad x0)), (1, .int x1), (3, .int x3), (4, .int x4)]) E dX6_walks_93 (by decide) rfl ?_
                  refine j_perm (lv' := [(0, .ref (ad x0)), (1, .int x1), (3, .int x3), (4, .int x4), (5, .int 0)]) [1, 2, 3, 4, 0] rfl ?_
                  refine w_X6_walks_95 E hr hlk x0 x1 x4 x3 FU _ h24 0 (fun h53 hf => ?_) hf
                  refine j_aload_n E 0 rfl dX6_walks_222 rfl ?_
                  obtain ⟨v54, ev54, hf⟩ := bs hf
                  refine j_getR (ci := 5) (k0 := 12) (T := TX6) (N := 14) E (mI inUX6) rfl (by decide) (mU uw_3_116) ev54 dX6_walks_223 ?_
                  refine j_iload_n E 1 rfl dX6_walks_226 rfl ?_
                  obtain ⟨v55, ev55, hf⟩ := bs hf
                  refine j_aJ E ev55 dX6_walks_227 ?_
                  cases hf
                  exact j_lret E hr hlk dX6_walks_228
                · have hf := ifn hf z18
                  refine j_lconst (v := 0) E dX6_walks_56 (by decide) ?_
                  cases hf
                  exact j_lret E hr hlk dX6_walks_57
noncomputable def L_X6_reach_35 (h : HP) (x0 : Nat) (x1 : Int32) (x4 : Int32) (x7 : Int32) : Nat → (Int32 → Option (Int32)) → Int32 → Int32 → Option (Int32)
  | 0, _, _, _ => none
  | n + 1, k, x6, x8 =>
      (gR 5 h x0 1).bind fun v5 =>
      (aI h v5 x1).bind fun v6 =>
      if v6 ≤ x8 then (
        k x6
      ) else (
        if ((x4 >>> (x7 &&& 31)) &&& 1) = 1 then (
          ck 5 h x0 <|
          (f_X6_has h x0 x1 x7 x8).bind fun v10 =>
          if v10 = 0 then (
            L_X6_reach_35 h x0 x1 x4 x7 n k (x6 ||| 0) (x8 + 1)
          ) else (
            L_X6_reach_35 h x0 x1 x4 x7 n k (x6 ||| (1 <<< (x8 &&& 31))) (x8 + 1)
          )
        ) else (
          k x6
        )
      )
noncomputable def L_X6_reach_21 (h : HP) (x0 : Nat) (x1 : Int32) (x4 : Int32) : Nat → (Int32 → Option (Int32)) → Int32 → Int32 → Option (Int32)
  | 0, _, _, _ => none
  | n + 1, k, x6, x7 =>
      (gR 5 h x0 1).bind fun v2 =>
      (aI h v2 x1).bind fun v3 =>
      if v3 ≤ x7 then (
        k x6
      ) else (
        L_X6_reach_35 h x0 x1 x4 x7 FU (fun x13 =>
          L_X6_reach_21 h x0 x1 x4 n k x13 (x7 + 1)) x6 0
      )
noncomputable def L_X6_reach_8 (h : HP) (x0 : Nat) (x1 : Int32) (x3 : Int32) : Nat → (Int32 → Option (Int32)) → Int32 → Int32 → Option (Int32)
  | 0, _, _, _ => none
  | n + 1, k, x4, x5 =>
      if x3 ≤ x5 then (
        k x4
      ) else (
        L_X6_reach_21 h x0 x1 x4 FU (fun x14 =>
          L_X6_reach_8 h x0 x1 x3 n k x14 (x5 + 1)) x4 0
      )
noncomputable def f_X6_reach (h : HP) (x0 : Nat) (x1 : Int32) (x2 : Int32) (x3 : Int32) : Option (Int32) :=
  L_X6_reach_8 h x0 x1 x3 FU (fun x15 =>
    some x15) (1 <<< (x2 &&& 31)) 0
abbrev rmX6_reach : Room := { frames := 2, cells := 0, slots := 0, locals := 45 }
theorem hd_X6_reach : yX6_reach.cls = RX6 ∧ yX6_reach.cls ≠ "java/lang/invoke/MethodHandle" ∧ yX6_reach.cls ≠ "java/lang/invoke/VarHandle" ∧ (parseMethodDescriptor yX6_reach.desc).map (fun d => d.parameters.length) = some 3 := by decide +kernel
set_option maxRecDepth 100000 in
set_option maxHeartbeats 4000000 in
theorem w_X6_reach_35 {p : Program} {l : Launch} {e : Env} {s : State} {m : MethodId} {args : Array Value} {below : List Frame} {meth : Method} {c : Code} {D : va_G} {ad : Nat → Nat} {cy : Nat → ClassId} (E : EE p s m args c cX6_reach 9 (wsM yX6_reach cX6_reach 9 (some .int)) RX6 D cy) (hr : meth.sig.returnType = (some .int)) (hlk : meth.locks = false) {r : Int32} (h : HP) (x0 : Nat) (x1 : Int32) (x4 : Int32) (x7 : Int32) (x3 : Int32) (x5 : Int32) : ∀ (n : Nat) (k : (Int32 → Option (Int32))) (x6 : Int32) (x8 : Int32), (∀ (x6 : Int32), k x6 = some r → JJ p l e rmX6_reach s m args below meth c 0 0 (MQ below (QV D ad cy (some (.int r)) h) args s 0 0 (Aw ad)) D ad cy (Aw ad) 9 h [(0, .ref (ad x0)), (1, .int x1), (3, .int x3), (4, .int x4), (5, .int x5), (6, .int x6), (7, .int x7)] 88 []) → L_X6_reach_35 h x0 x1 x4 x7 n k x6 x8 = some r → JJ p l e rmX6_reach s m args below meth c 0 0 (MQ below (QV D ad cy (some (.int r)) h) args s 0 0 (Aw ad)) D ad cy (Aw ad) 9 h [(0, .ref (ad x0)), (1, .int x1), (3, .int x3), (4, .int x4), (5, .int x5), (6, .int x6), (7, .int x7), (8, .int x8)] 35 [] := by
  intro n
  induction n with
  | zero => intro k x6 x8 hk hf; cases hf
  | succ n ih =>
    intro k x6 x8 hk hf
    unfold L_X6_reach_35 at hf
    refine j_iload E 7 rfl dX6_reach_35 ?_
    refine j_aload_n E 0 rfl dX6_reach_37 rfl ?_
    obtain ⟨v5, ev5, hf⟩ := bs hf
    refine j_getR (ci := 5) (k0 := 1) (T := TX6) (N := 14) E (mI inUX6) rfl (by decide) (mU uw_3_105) ev5 dX6_reach_38 ?_
    refine j_iload_n E 1 rfl dX6_reach_41 rfl ?_
    obtain ⟨v6, ev6, hf⟩ := bs hf
    refine j_aI E ev6 dX6_reach_42 ?_
    refine j_icmp_ge (tgt := 88) E dX6_reach_43 (by decide) (fun z7 => ?_) (fun z7 => ?_)
    · have hf := ifp hf z7
      refine j_perm (lv' := [(0, .ref (ad x0)), (1, .int x1), (3, .int x3), (4, .int x4), (5, .int x5), (6, .int x6), (7, .int x7)]) [0, 1, 2, 3, 4, 5, 6] rfl ?_
      exact hk x6 hf
    · have hf := ifn hf z7
      refine j_iload E 3 rfl dX6_reach_46 ?_
      refine j_iload E 6 rfl dX6_reach_48 ?_
      refine j_ishr E dX6_reach_50 ?_
      refine j_iconst (v := 1) E dX6_reach_51 (by decide) ?_
      refine j_iand E dX6_reach_52 ?_
      refine j_iconst (v := 1) E dX6_reach_53 (by decide) ?_
      refine j_icmp_ne (tgt := 88) E dX6_reach_54 (by decide) (fun z8 => ?_) (fun z8 => ?_)
      · have hf := ifn hf z8
        refine j_perm (lv' := [(0, .ref (ad x0)), (1, .int x1), (3, .int x3), (4, .int x4), (5, .int x5), (6, .int x6), (7, .int x7)]) [0, 1, 2, 3, 4, 5, 6] rfl ?_
        exact hk x6 hf
      · have hf := ifp hf z8
        refine j_iload E 5 rfl dX6_reach_57 ?_
        refine j_aload_n E 0 rfl dX6_reach_59 rfl ?_
        refine j_iload_n E 1 rfl dX6_reach_60 rfl ?_
        refine j_iload E 6 rfl dX6_reach_61 ?_
        refine j_iload E 7 rfl dX6_reach_63 ?_
        obtain ⟨k9, hf⟩ := ck_spec hf
        obtain ⟨v10, e11, hf⟩ := bs hf
        refine j_callV (ci := 5) (b := x0) (As := [.int x1, .int x7, .int x8]) (rest := [.int x6]) (v := (some (.int v10))) E (c_X6_has l D ad cy h x0 x1 x7 x8 e11) (mcw E.1.2.2.2.2 uw_3_210 uw_3_207 uw_3_209 us_2_6 uw_1_6 rfl rfl hd_X6_has ⟨by decide, by decide⟩) rfl k9 rfl rfl (Nat.le_of_ble_eq_true rfl) dX6_reach_65 ⟨Nat.zero_le _, Nat.zero_le _⟩ ?_
        refine j_stk (st' := [.int v10, .int x6]) rfl ?_
        refine j_if_eq (tgt := 78) E dX6_reach_68 (by decide) (fun z12 => ?_) (fun z12 => ?_)
        · have hf := ifp hf z12
          refine j_iconst (v := 0) E dX6_reach_78 (by decide) ?_
          refine j_ior E dX6_reach_79 ?_
          refine j_istore (lv' := [(6, .int (x6 ||| 0)), (0, .ref (ad x0)), (1, .int x1), (3, .int x3), (4, .int x4), (5, .int x5), (7, .int x7), (8, .int x8)]) E dX6_reach_80 (by decide) rfl ?_
          refine j_iinc (v := (x8 + 1)) (k0 := 7) (lv' := [(8, .int (x8 + 1)), (6, .int (x6 ||| 0)), (0, .ref (ad x0)), (1, .int x1), (3, .int x3), (4, .int x4), (5, .int x5), (7, .int x7)]) E dX6_reach_82 rfl (congrArg (fun z => x8 + z) (by decide)) (by decide) rfl ?_
          refine j_goto (tgt := 35) E dX6_reach_85 (by decide) ?_
          refine j_perm (lv' := [(0, .ref (ad x0)), (1, .int x1), (3, .int x3), (4, .int x4), (5, .int x5), (6, .int (x6 ||| 0)), (7, .int x7), (8, .int (x8 + 1))]) [2, 3, 4, 5, 6, 1, 7, 0] rfl ?_
          exact ih k (x6 ||| 0) (x8 + 1) hk hf
        · have hf := ifn hf z12
          refine j_iconst (v := 1) E dX6_reach_71 (by decide) ?_
          refine j_iload E 7 rfl dX6_reach_72 ?_
          refine j_ishl E dX6_reach_74 ?_
          refine j_goto (tgt := 79) E dX6_reach_75 (by decide) ?_
          refine j_ior E dX6_reach_79 ?_
          refine j_istore (lv' := [(6, .int (x6 ||| (1 <<< (x8 &&& 31)))), (0, .ref (ad x0)), (1, .int x1), (3, .int x3), (4, .int x4), (5, .int x5), (7, .int x7), (8, .int x8)]) E dX6_reach_80 (by decide) rfl ?_
          refine j_iinc (v := (x8 + 1)) (k0 := 7) (lv' := [(8, .int (x8 + 1)), (6, .int (x6 ||| (1 <<< (x8 &&& 31)))), (0, .ref (ad x0)), (1, .int x1), (3, .int x3), (4, .int x4), (5, .int x5), (7, .int x7)]) E dX6_reach_82 rfl (congrArg (fun z => x8 + z) (by decide)) (by decide) rfl ?_
          refine j_goto (tgt := 35) E dX6_reach_85 (by decide) ?_
          refine j_perm (lv' := [(0, .ref (ad x0)), (1, .int x1), (3, .int x3), (4, .int x4), (5, .int x5), (6, .int (x6 ||| (1 <<< (x8 &&& 31)))), (7, .int x7), (8, .int (x8 + 1))]) [2, 3, 4, 5, 6, 1, 7, 0] rfl ?_
          exact ih k (x6 ||| (1 <<< (x8 &&& 31))) (x8 + 1) hk hf
set_option maxRecDepth 100000 in
set_option maxHeartbeats 4000000 in
theorem w_X6_reach_21 {p : Program} {l : Launch} {e : Env} {s : State} {m : MethodId} {args : Array Value} {below : List Frame} {meth : Method} {c : Code} {D : va_G} {ad : Nat → Nat} {cy : Nat → ClassId} (E : EE p s m args c cX6_reach 9 (wsM yX6_reach cX6_reach 9 (some .int)) RX6 D cy) (hr : meth.sig.returnType = (some .int)) (hlk : meth.locks = false) {r : Int32} (h : HP) (x0 : Nat) (x1 : Int32) (x4 : Int32) (x3 : Int32) (x5 : Int32) : ∀ (n : Nat) (k : (Int32 → Option (Int32))) (x6 : Int32) (x7 : Int32), (∀ (x6 : Int32), k x6 = some r → JJ p l e rmX6_reach s m args below meth c 0 0 (MQ below (QV D ad cy (some (.int r)) h) args s 0 0 (Aw ad)) D ad cy (Aw ad) 9 h [(0, .ref (ad x0)), (1, .int x1), (3, .int x3), (5, .int x5), (6, .int x6)] 94 []) → L_X6_reach_21 h x0 x1 x4 n k x6 x7 = some r → JJ p l e rmX6_reach s m args below meth c 0 0 (MQ below (QV D ad cy (some (.int r)) h) args s 0 0 (Aw ad)) D ad cy (Aw ad) 9 h [(0, .ref (ad x0)), (1, .int x1), (3, .int x3), (4, .int x4), (5, .int x5), (6, .int x6), (7, .int x7)] 21 [] := by
  intro n
  induction n with
  | zero => intro k x6 x7 hk hf; cases hf
  | succ n ih =>
    intro k x6 x7 hk hf
    unfold L_X6_reach_21 at hf
    refine j_iload E 6 rfl dX6_reach_21 ?_
    refine j_aload_n E 0 rfl dX6_reach_23 rfl ?_
    obtain ⟨v2, ev2, hf⟩ := bs hf
    refine j_getR (ci := 5) (k0 := 1) (T := TX6) (N := 14) E (mI inUX6) rfl (by decide) (mU uw_3_105) ev2 dX6_reach_24 ?_
    refine j_iload_n E 1 rfl dX6_reach_27 rfl ?_
    obtain ⟨v3, ev3, hf⟩ := bs hf
    refine j_aI E ev3 dX6_reach_28 ?_
    refine j_icmp_ge (tgt := 94) E dX6_reach_29 (by decide) (fun z4 => ?_) (fun z4 => ?_)
    · have hf := ifp hf z4
      refine j_perm (lv' := [(0, .ref (ad x0)), (1, .int x1), (3, .int x3), (5, .int x5), (6, .int x6)]) [0, 1, 2, 4, 5] rfl ?_
      exact hk x6 hf
    · have hf := ifn hf z4
      refine j_iconst (v := 0) E dX6_reach_32 (by decide) ?_
      refine j_istore (lv' := [(8, .int 0), (0, .ref (ad x0)), (1, .int x1), (3, .int x3), (4, .int x4), (5, .int x5), (6, .int x6), (7, .int x7)]) E dX6_reach_33 (by decide) rfl ?_
      refine j_perm (lv' := [(0, .ref (ad x0)), (1, .int x1), (3, .int x3), (4, .int x4), (5, .int x5), (6, .int x6), (7, .int x7), (8, .int 0)]) [1, 2, 3, 4, 5, 6, 7, 0] rfl ?_
      refine w_X6_reach_35 E hr hlk h x0 x1 x4 x7 x3 x5 FU _ x6 0 (fun x13 hf => ?_) hf
      refine j_iinc (v := (x7 + 1)) (k0 := 6) (lv' := [(7, .int (x7 + 1)), (0, .ref (ad x0)), (1, .int x1), (3, .int x3), (4, .int x4), (5, .int x5), (6, .int x13)]) E dX6_reach_88 rfl (congrArg (fun z => x7 + z) (by decide)) (by decide) rfl ?_
      refine j_goto (tgt := 21) E dX6_reach_91 (by decide) ?_
      refine j_perm (lv' := [(0, .ref (ad x0)), (1, .int x1), (3, .int x3), (4, .int x4), (5, .int x5), (6, .int x13), (7, .int (x7 + 1))]) [1, 2, 3, 4, 5, 6, 0] rfl ?_
      exact ih k x13 (x7 + 1) hk hf
set_option maxRecDepth 100000 in
set_option maxHeartbeats 4000000 in
theorem w_X6_reach_8 {p : Program} {l : Launch} {e : Env} {s : State} {m : MethodId} {args : Array Value} {below : List Frame} {meth : Method} {c : Code} {D : va_G} {ad : Nat → Nat} {cy : Nat → ClassId} (E : EE p s m args c cX6_reach 9 (wsM yX6_reach cX6_reach 9 (some .int)) RX6 D cy) (hr : meth.sig.returnType = (some .int)) (hlk : meth.locks = false) {r : Int32} (h : HP) (x0 : Nat) (x1 : Int32) (x3 : Int32) : ∀ (n : Nat) (k : (Int32 → Option (Int32))) (x4 : Int32) (x5 : Int32), (∀ (x4 : Int32), k x4 = some r → JJ p l e rmX6_reach s m args below meth c 0 0 (MQ below (QV D ad cy (some (.int r)) h) args s 0 0 (Aw ad)) D ad cy (Aw ad) 9 h [(4, .int x4)] 104 []) → L_X6_reach_8 h x0 x1 x3 n k x4 x5 = some r → JJ p l e rmX6_reach s m args below meth c 0 0 (MQ below (QV D ad cy (some (.int r)) h) args s 0 0 (Aw ad)) D ad cy (Aw ad) 9 h [(0, .ref (ad x0)), (1, .int x1), (3, .int x3), (4, .int x4), (5, .int x5)] 8 [] := by
  intro n
  induction n with
  | zero => intro k x4 x5 hk hf; cases hf
  | succ n ih =>
    intro k x4 x5 hk hf
    unfold L_X6_reach_8 at hf
    refine j_iload E 4 rfl dX6_reach_8 ?_
    refine j_iload_n E 2 rfl dX6_reach_10 rfl ?_
    refine j_icmp_ge (tgt := 104) E dX6_reach_11 (by decide) (fun z1 => ?_) (fun z1 => ?_)
    · have hf := ifp hf z1
      refine j_perm (lv' := [(4, .int x4)]) [3] rfl ?_
      exact hk x4 hf
    · have hf := ifn hf z1
      refine j_iload E 3 rfl dX6_reach_14 ?_
      refine j_istore (lv' := [(6, .int x4), (0, .ref (ad x0)), (1, .int x1), (3, .int x3), (4, .int x4), (5, .int x5)]) E dX6_reach_16 (by decide) rfl ?_
      refine j_iconst (v := 0) E dX6_reach_18 (by decide) ?_
      refine j_istore (lv' := [(7, .int 0), (6, .int x4), (0, .ref (ad x0)), (1, .int x1), (3, .int x3), (4, .int x4), (5, .int x5)]) E dX6_reach_19 (by decide) rfl ?_
      refine j_perm (lv' := [(0, .ref (ad x0)), (1, .int x1), (3, .int x3), (4, .int x4), (5, .int x5), (6, .int x4), (7, .int 0)]) [2, 3, 4, 5, 6, 1, 0] rfl ?_
      refine w_X6_reach_21 E hr hlk h x0 x1 x4 x3 x5 FU _ x4 0 (fun x14 hf => ?_) hf
      refine j_iload E 4 rfl dX6_reach_94 ?_
      refine j_istore (lv' := [(4, .int x14), (0, .ref (ad x0)), (1, .int x1), (3, .int x3), (5, .int x5), (6, .int x14)]) E dX6_reach_96 (by decide) rfl ?_
      refine j_iinc (v := (x5 + 1)) (k0 := 4) (lv' := [(5, .int (x5 + 1)), (4, .int x14), (0, .ref (ad x0)), (1, .int x1), (3, .int x3), (6, .int x14)]) E dX6_reach_98 rfl (congrArg (fun z => x5 + z) (by decide)) (by decide) rfl ?_
      refine j_goto (tgt := 8) E dX6_reach_101 (by decide) ?_
      refine j_perm (lv' := [(0, .ref (ad x0)), (1, .int x1), (3, .int x3), (4, .int x14), (5, .int (x5 + 1))]) [2, 3, 4, 1, 0] rfl ?_
      exact ih k x14 (x5 + 1) hk hf
set_option maxRecDepth 100000 in
set_option maxHeartbeats 4000000 in
theorem c_X6_reach (l : Launch) (D : va_G) (ad : Nat → Nat) (cy : Nat → ClassId) (h : HP) (x0 : Nat) (x1 : Int32) (x2 : Int32) (x3 : Int32) {r : Int32} (hf : f_X6_reach h x0 x1 x2 x3 = some r) : Met l yX6_reach (wsM yX6_reach cX6_reach 9 (some .int)) rmX6_reach (va_Pc [.ref (ad x0), .int x1, .int x2, .int x3] (PW D ad cy h)) (QV D ad cy (some (.int r)) h) 0 0 (Aw ad) := by
  refine met_of (own := RX6) (lv := [(0, .ref (ad x0)), (1, .int x1), (2, .int x2), (3, .int x3)]) (by decide) rfl (Nat.le_of_ble_eq_true rfl) rfl (fun p e s m args below meth c E hr hlk => ?_)
  unfold f_X6_reach at hf
  refine j_iconst (v := 1) E dX6_reach_0 (by decide) ?_
  refine j_iload_n E 2 rfl dX6_reach_1 rfl ?_
  refine j_ishl E dX6_reach_2 ?_
  refine j_istore (lv' := [(4, .int (1 <<< (x2 &&& 31))), (0, .ref (ad x0)), (1, .int x1), (2, .int x2), (3, .int x3)]) E dX6_reach_3 (by decide) rfl ?_
  refine j_iconst (v := 0) E dX6_reach_5 (by decide) ?_
  refine j_istore (lv' := [(5, .int 0), (4, .int (1 <<< (x2 &&& 31))), (0, .ref (ad x0)), (1, .int x1), (2, .int x2), (3, .int x3)]) E dX6_reach_6 (by decide) rfl ?_
  refine j_perm (lv' := [(0, .ref (ad x0)), (1, .int x1), (3, .int x3), (4, .int (1 <<< (x2 &&& 31))), (5, .int 0)]) [2, 3, 5, 1, 0] rfl ?_
  refine w_X6_reach_8 E hr hlk h x0 x1 x3 FU _ (1 <<< (x2 &&& 31)) 0 (fun x15 hf => ?_) hf
  refine j_iload E 0 rfl dX6_reach_104 ?_
  cases hf
  exact j_iret E hr hlk dX6_reach_106
