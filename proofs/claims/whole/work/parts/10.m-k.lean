noncomputable def L_X6_times_96 (h : HP) (x0 : Nat) (x1 : Int32) (x2 : Int32) (x4 : Int32) (x5 : Int32) : Nat → (Int32 → Int64 → Option (HP × Int32)) → Int32 → Int64 → Int32 → Option (HP × Int32)
  | 0, _, _, _, _ => none
  | n + 1, k, x6, x7, x9 =>
      (gR 5 h x0 2).bind fun v30 =>
      (aI h v30 x1).bind fun v31 =>
      if v31 ≤ x9 then (
        k x6 x7
      ) else (
        if x6 = 0 then (
          ck 5 h x0 <|
          (f_X6_has h x0 x1 x4 x9).bind fun v35 =>
          if v35 = 0 then (
            ck 5 h x0 <|
            (f_X6_holds h x0 x1 x4 x9).bind fun v39 =>
            ck 5 h x0 <|
            (f_X6_holds h x0 x2 x9 x5).bind fun v42 =>
            L_X6_times_96 h x0 x1 x2 x4 x5 n k 0 (x7 + (v39 * v42)) (x9 + 1)
          ) else (
            ck 5 h x0 <|
            (f_X6_has h x0 x2 x9 x5).bind fun v45 =>
            if v45 = 0 then (
              ck 5 h x0 <|
              (f_X6_holds h x0 x1 x4 x9).bind fun v49 =>
              ck 5 h x0 <|
              (f_X6_holds h x0 x2 x9 x5).bind fun v52 =>
              L_X6_times_96 h x0 x1 x2 x4 x5 n k 0 (x7 + (v49 * v52)) (x9 + 1)
            ) else (
              ck 5 h x0 <|
              (f_X6_holds h x0 x1 x4 x9).bind fun v55 =>
              ck 5 h x0 <|
              (f_X6_holds h x0 x2 x9 x5).bind fun v58 =>
              L_X6_times_96 h x0 x1 x2 x4 x5 n k 1 (x7 + (v55 * v58)) (x9 + 1)
            )
          )
        ) else (
          ck 5 h x0 <|
          (f_X6_holds h x0 x1 x4 x9).bind fun v61 =>
          ck 5 h x0 <|
          (f_X6_holds h x0 x2 x9 x5).bind fun v64 =>
          L_X6_times_96 h x0 x1 x2 x4 x5 n k 1 (x7 + (v61 * v64)) (x9 + 1)
        )
      )
noncomputable def L_X6_times_76 (x0 : Nat) (x1 : Int32) (x2 : Int32) (x4 : Int32) : Nat → (HP → Option (HP × Int32)) → HP → Int32 → Option (HP × Int32)
  | 0, _, _, _ => none
  | n + 1, k, h, x5 =>
      (gR 5 h x0 2).bind fun v27 =>
      (aI h v27 x2).bind fun v28 =>
      if v28 ≤ x5 then (
        k h
      ) else (
        L_X6_times_96 h x0 x1 x2 x4 x5 FU (fun x66 x67 =>
          if x66 = 0 then (
            L_X6_times_76 x0 x1 x2 x4 n k h (x5 + 1)
          ) else (
            ck 5 h x0 <|
            (f_X6_keep h x0 x4 x5 x67).bind fun h70 =>
            L_X6_times_76 x0 x1 x2 x4 n k h70 (x5 + 1)
          )) 0 0 0
      )
noncomputable def L_X6_times_62 (x0 : Nat) (x1 : Int32) (x2 : Int32) : Nat → (HP → Option (HP × Int32)) → HP → Int32 → Option (HP × Int32)
  | 0, _, _, _ => none
  | n + 1, k, h, x4 =>
      (gR 5 h x0 1).bind fun v24 =>
      (aI h v24 x1).bind fun v25 =>
      if v25 ≤ x4 then (
        k h
      ) else (
        L_X6_times_76 x0 x1 x2 x4 FU (fun h72 =>
          L_X6_times_62 x0 x1 x2 n k h72 (x4 + 1)) h 0
      )
noncomputable def f_X6_times (h : HP) (x0 : Nat) (x1 : Int32) (x2 : Int32) (x3 : Int32) : Option (HP × Int32) :=
  (f_X6_isNumber x3).bind fun v1 =>
  if v1 = 0 then (
    some (h, (-1))
  ) else (
    ck 5 h x0 <|
    (f_X6_isTable h x0 x1).bind fun v5 =>
    if v5 = 0 then (
      some (h, (-1))
    ) else (
      ck 5 h x0 <|
      (f_X6_isTable h x0 x2).bind fun v9 =>
      if v9 = 0 then (
        some (h, (-1))
      ) else (
        (gR 5 h x0 2).bind fun v12 =>
        (aI h v12 x1).bind fun v13 =>
        (gR 5 h x0 1).bind fun v14 =>
        (aI h v14 x2).bind fun v15 =>
        if v13 = v15 then (
          (gR 5 h x0 1).bind fun v17 =>
          (aI h v17 x1).bind fun v18 =>
          (gR 5 h x0 2).bind fun v19 =>
          (aI h v19 x2).bind fun v20 =>
          ck 5 h x0 <|
          (f_X6_begin h x0 v18 v20).bind fun h22 =>
          L_X6_times_62 x0 x1 x2 FU (fun h73 =>
            ck 5 h73 x0 <|
            (f_X6_putAt h73 x0 x3).bind fun (h75, v76) =>
            some (h75, v76)) h22 0
        ) else (
          some (h, (-3))
        )
      )
    )
  )
abbrev rmX6_times : Room := { frames := 3, cells := 0, slots := 0, locals := 68 }
theorem hd_X6_times : yX6_times.cls = RX6 ∧ yX6_times.cls ≠ "java/lang/invoke/MethodHandle" ∧ yX6_times.cls ≠ "java/lang/invoke/VarHandle" ∧ (parseMethodDescriptor yX6_times.desc).map (fun d => d.parameters.length) = some 3 := by decide +kernel
set_option maxRecDepth 100000 in
set_option maxHeartbeats 4000000 in
theorem w_X6_times_96 {p : Program} {l : Launch} {e : Env} {s : State} {m : MethodId} {args : Array Value} {below : List Frame} {meth : Method} {c : Code} {D : va_G} {ad : Nat → Nat} {cy : Nat → ClassId} (E : EE p s m args c cX6_times 10 (wsM yX6_times cX6_times 10 (some .int)) RX6 D cy) (hr : meth.sig.returnType = (some .int)) (hlk : meth.locks = false) {h' : HP} {r : Int32} (h : HP) (x0 : Nat) (x1 : Int32) (x2 : Int32) (x4 : Int32) (x5 : Int32) (x3 : Int32) : ∀ (n : Nat) (k : (Int32 → Int64 → Option (HP × Int32))) (x6 : Int32) (x7 : Int64) (x9 : Int32), (∀ (x6 : Int32) (x7 : Int64), k x6 x7 = some (h', r) → JJ p l e rmX6_times s m args below meth c 0 0 (MQ below (QV D ad cy (some (.int r)) h') args s 0 0 (Aw ad)) D ad cy (Aw ad) 10 h [(0, .ref (ad x0)), (1, .int x1), (2, .int x2), (3, .int x3), (4, .int x4), (5, .int x5), (6, .int x6), (7, .long x7)] 173 []) → L_X6_times_96 h x0 x1 x2 x4 x5 n k x6 x7 x9 = some (h', r) → JJ p l e rmX6_times s m args below meth c 0 0 (MQ below (QV D ad cy (some (.int r)) h') args s 0 0 (Aw ad)) D ad cy (Aw ad) 10 h [(0, .ref (ad x0)), (1, .int x1), (2, .int x2), (3, .int x3), (4, .int x4), (5, .int x5), (6, .int x6), (7, .long x7), (9, .int x9)] 96 [] := by
  intro n
  induction n with
  | zero => intro k x6 x7 x9 hk hf; cases hf
  | succ n ih =>
    intro k x6 x7 x9 hk hf
    unfold L_X6_times_96 at hf
    refine j_iload E 8 rfl dX6_times_96 ?_
    refine j_aload_n E 0 rfl dX6_times_98 rfl ?_
    obtain ⟨v30, ev30, hf⟩ := bs hf
    refine j_getR (ci := 5) (k0 := 2) (T := TX6) (N := 14) E (mI inUX6) rfl (by decide) (mU uw_3_106) ev30 dX6_times_99 ?_
    refine j_iload_n E 1 rfl dX6_times_102 rfl ?_
    obtain ⟨v31, ev31, hf⟩ := bs hf
    refine j_aI E ev31 dX6_times_103 ?_
    refine j_icmp_ge (tgt := 173) E dX6_times_104 (by decide) (fun z32 => ?_) (fun z32 => ?_)
    · have hf := ifp hf z32
      refine j_perm (lv' := [(0, .ref (ad x0)), (1, .int x1), (2, .int x2), (3, .int x3), (4, .int x4), (5, .int x5), (6, .int x6), (7, .long x7)]) [0, 1, 2, 3, 4, 5, 6, 7] rfl ?_
      exact hk x6 x7 hf
    · have hf := ifn hf z32
      refine j_iload E 6 rfl dX6_times_107 ?_
      refine j_if_ne (tgt := 136) E dX6_times_109 (by decide) (fun z33 => ?_) (fun z33 => ?_)
      · have hf := ifn hf z33
        refine j_iconst (v := 1) E dX6_times_136 (by decide) ?_
        refine j_goto (tgt := 141) E dX6_times_137 (by decide) ?_
        refine j_istore (lv' := [(6, .int 1), (0, .ref (ad x0)), (1, .int x1), (2, .int x2), (3, .int x3), (4, .int x4), (5, .int x5), (7, .long x7), (9, .int x9)]) E dX6_times_141 (by decide) rfl ?_
        refine j_lload E 7 rfl dX6_times_143 ?_
        refine j_aload_n E 1 rfl dX6_times_145 rfl ?_
        refine j_iload_n E 2 rfl dX6_times_146 rfl ?_
        refine j_iload E 5 rfl dX6_times_147 ?_
        refine j_iload E 8 rfl dX6_times_149 ?_
        obtain ⟨k60, hf⟩ := ck_spec hf
        obtain ⟨v61, e62, hf⟩ := bs hf
        refine j_callV (ci := 5) (b := x0) (As := [.int x1, .int x4, .int x9]) (rest := [.long x7]) (v := (some (.long v61))) E (c_X6_holds l D ad cy h x0 x1 x4 x9 e62) (mcw E.1.2.2.2.2 uw_3_206 uw_3_203 uw_3_205 us_2_5 uw_1_6 rfl rfl hd_X6_holds ⟨by decide, by decide⟩) rfl k60 rfl rfl (Nat.le_of_ble_eq_true rfl) dX6_times_151 ⟨Nat.zero_le _, Nat.zero_le _⟩ ?_
        refine j_stk (st' := [.long v61, .long x7]) rfl ?_
        refine j_aload_n E 1 rfl dX6_times_154 rfl ?_
        refine j_iload_n E 3 rfl dX6_times_155 rfl ?_
        refine j_iload E 8 rfl dX6_times_156 ?_
        refine j_iload E 6 rfl dX6_times_158 ?_
        obtain ⟨k63, hf⟩ := ck_spec hf
        obtain ⟨v64, e65, hf⟩ := bs hf
        refine j_callV (ci := 5) (b := x0) (As := [.int x2, .int x9, .int x5]) (rest := [.long v61, .long x7]) (v := (some (.long v64))) E (c_X6_holds l D ad cy h x0 x2 x9 x5 e65) (mcw E.1.2.2.2.2 uw_3_206 uw_3_203 uw_3_205 us_2_5 uw_1_6 rfl rfl hd_X6_holds ⟨by decide, by decide⟩) rfl k63 rfl rfl (Nat.le_of_ble_eq_true rfl) dX6_times_160 ⟨Nat.zero_le _, Nat.zero_le _⟩ ?_
        refine j_stk (st' := [.long v64, .long v61, .long x7]) rfl ?_
        refine j_lmul E dX6_times_163 ?_
        refine j_ladd E dX6_times_164 ?_
        refine j_lstore (lv' := [(7, .long (x7 + (v61 * v64))), (6, .int 1), (0, .ref (ad x0)), (1, .int x1), (2, .int x2), (3, .int x3), (4, .int x4), (5, .int x5), (9, .int x9)]) E dX6_times_165 (by decide) rfl ?_
        refine j_iinc (v := (x9 + 1)) (k0 := 8) (lv' := [(9, .int (x9 + 1)), (7, .long (x7 + (v61 * v64))), (6, .int 1), (0, .ref (ad x0)), (1, .int x1), (2, .int x2), (3, .int x3), (4, .int x4), (5, .int x5)]) E dX6_times_167 rfl (congrArg (fun z => x9 + z) (by decide)) (by decide) rfl ?_
        refine j_goto (tgt := 96) E dX6_times_170 (by decide) ?_
        refine j_perm (lv' := [(0, .ref (ad x0)), (1, .int x1), (2, .int x2), (3, .int x3), (4, .int x4), (5, .int x5), (6, .int 1), (7, .long (x7 + (v61 * v64))), (9, .int (x9 + 1))]) [3, 4, 5, 6, 7, 8, 2, 1, 0] rfl ?_
        exact ih k 1 (x7 + (v61 * v64)) (x9 + 1) hk hf
      · have hf := ifp hf z33
        refine j_aload_n E 0 rfl dX6_times_112 rfl ?_
        refine j_iload_n E 1 rfl dX6_times_113 rfl ?_
        refine j_iload E 4 rfl dX6_times_114 ?_
        refine j_iload E 8 rfl dX6_times_116 ?_
        obtain ⟨k34, hf⟩ := ck_spec hf
        obtain ⟨v35, e36, hf⟩ := bs hf
        refine j_callV (ci := 5) (b := x0) (As := [.int x1, .int x4, .int x9]) (rest := []) (v := (some (.int v35))) E (c_X6_has l D ad cy h x0 x1 x4 x9 e36) (mcw E.1.2.2.2.2 uw_3_210 uw_3_207 uw_3_209 us_2_6 uw_1_6 rfl rfl hd_X6_has ⟨by decide, by decide⟩) rfl k34 rfl rfl (Nat.le_of_ble_eq_true rfl) dX6_times_118 ⟨Nat.zero_le _, Nat.zero_le _⟩ ?_
        refine j_stk (st' := [.int v35]) rfl ?_
        refine j_if_eq (tgt := 140) E dX6_times_121 (by decide) (fun z37 => ?_) (fun z37 => ?_)
        · have hf := ifp hf z37
          refine j_iconst (v := 0) E dX6_times_140 (by decide) ?_
          refine j_istore (lv' := [(6, .int 0), (0, .ref (ad x0)), (1, .int x1), (2, .int x2), (3, .int x3), (4, .int x4), (5, .int x5), (7, .long x7), (9, .int x9)]) E dX6_times_141 (by decide) rfl ?_
          refine j_lload E 7 rfl dX6_times_143 ?_
          refine j_aload_n E 1 rfl dX6_times_145 rfl ?_
          refine j_iload_n E 2 rfl dX6_times_146 rfl ?_
          refine j_iload E 5 rfl dX6_times_147 ?_
          refine j_iload E 8 rfl dX6_times_149 ?_
          obtain ⟨k38, hf⟩ := ck_spec hf
          obtain ⟨v39, e40, hf⟩ := bs hf
          refine j_callV (ci := 5) (b := x0) (As := [.int x1, .int x4, .int x9]) (rest := [.long x7]) (v := (some (.long v39))) E (c_X6_holds l D ad cy h x0 x1 x4 x9 e40) (mcw E.1.2.2.2.2 uw_3_206 uw_3_203 uw_3_205 us_2_5 uw_1_6 rfl rfl hd_X6_holds ⟨by decide, by decide⟩) rfl k38 rfl rfl (Nat.le_of_ble_eq_true rfl) dX6_times_151 ⟨Nat.zero_le _, Nat.zero_le _⟩ ?_
          refine j_stk (st' := [.long v39, .long x7]) rfl ?_
          refine j_aload_n E 1 rfl dX6_times_154 rfl ?_
          refine j_iload_n E 3 rfl dX6_times_155 rfl ?_
          refine j_iload E 8 rfl dX6_times_156 ?_
          refine j_iload E 6 rfl dX6_times_158 ?_
          obtain ⟨k41, hf⟩ := ck_spec hf
          obtain ⟨v42, e43, hf⟩ := bs hf
          refine j_callV (ci := 5) (b := x0) (As := [.int x2, .int x9, .int x5]) (rest := [.long v39, .long x7]) (v := (some (.long v42))) E (c_X6_holds l D ad cy h x0 x2 x9 x5 e43) (mcw E.1.2.2.2.2 uw_3_206 uw_3_203 uw_3_205 us_2_5 uw_1_6 rfl rfl hd_X6_holds ⟨by decide, by decide⟩) rfl k41 rfl rfl (Nat.le_of_ble_eq_true rfl) dX6_times_160 ⟨Nat.zero_le _, Nat.zero_le _⟩ ?_
          refine j_stk (st' := [.long v42, .long v39, .long x7]) rfl ?_
          refine j_lmul E dX6_times_163 ?_
          refine j_ladd E dX6_times_164 ?_
          refine j_lstore (lv' := [(7, .long (x7 + (v39 * v42))), (6, .int 0), (0, .ref (ad x0)), (1, .int x1), (2, .int x2), (3, .int x3), (4, .int x4), (5, .int x5), (9, .int x9)]) E dX6_times_165 (by decide) rfl ?_
          refine j_iinc (v := (x9 + 1)) (k0 := 8) (lv' := [(9, .int (x9 + 1)), (7, .long (x7 + (v39 * v42))), (6, .int 0), (0, .ref (ad x0)), (1, .int x1), (2, .int x2), (3, .int x3), (4, .int x4), (5, .int x5)]) E dX6_times_167 rfl (congrArg (fun z => x9 + z) (by decide)) (by decide) rfl ?_
          refine j_goto (tgt := 96) E dX6_times_170 (by decide) ?_
          refine j_perm (lv' := [(0, .ref (ad x0)), (1, .int x1), (2, .int x2), (3, .int x3), (4, .int x4), (5, .int x5), (6, .int 0), (7, .long (x7 + (v39 * v42))), (9, .int (x9 + 1))]) [3, 4, 5, 6, 7, 8, 2, 1, 0] rfl ?_
          exact ih k 0 (x7 + (v39 * v42)) (x9 + 1) hk hf
        · have hf := ifn hf z37
          refine j_aload_n E 0 rfl dX6_times_124 rfl ?_
          refine j_iload_n E 2 rfl dX6_times_125 rfl ?_
          refine j_iload E 8 rfl dX6_times_126 ?_
          refine j_iload E 5 rfl dX6_times_128 ?_
          obtain ⟨k44, hf⟩ := ck_spec hf
          obtain ⟨v45, e46, hf⟩ := bs hf
          refine j_callV (ci := 5) (b := x0) (As := [.int x2, .int x9, .int x5]) (rest := []) (v := (some (.int v45))) E (c_X6_has l D ad cy h x0 x2 x9 x5 e46) (mcw E.1.2.2.2.2 uw_3_210 uw_3_207 uw_3_209 us_2_6 uw_1_6 rfl rfl hd_X6_has ⟨by decide, by decide⟩) rfl k44 rfl rfl (Nat.le_of_ble_eq_true rfl) dX6_times_130 ⟨Nat.zero_le _, Nat.zero_le _⟩ ?_
          refine j_stk (st' := [.int v45]) rfl ?_
          refine j_if_eq (tgt := 140) E dX6_times_133 (by decide) (fun z47 => ?_) (fun z47 => ?_)
          · have hf := ifp hf z47
            refine j_iconst (v := 0) E dX6_times_140 (by decide) ?_
            refine j_istore (lv' := [(6, .int 0), (0, .ref (ad x0)), (1, .int x1), (2, .int x2), (3, .int x3), (4, .int x4), (5, .int x5), (7, .long x7), (9, .int x9)]) E dX6_times_141 (by decide) rfl ?_
            refine j_lload E 7 rfl dX6_times_143 ?_
            refine j_aload_n E 1 rfl dX6_times_145 rfl ?_
            refine j_iload_n E 2 rfl dX6_times_146 rfl ?_
            refine j_iload E 5 rfl dX6_times_147 ?_
            refine j_iload E 8 rfl dX6_times_149 ?_
            obtain ⟨k48, hf⟩ := ck_spec hf
            obtain ⟨v49, e50, hf⟩ := bs hf
            refine j_callV (ci := 5) (b := x0) (As := [.int x1, .int x4, .int x9]) (rest := [.long x7]) (v := (some (.long v49))) E (c_X6_holds l D ad cy h x0 x1 x4 x9 e50) (mcw E.1.2.2.2.2 uw_3_206 uw_3_203 uw_3_205 us_2_5 uw_1_6 rfl rfl hd_X6_holds ⟨by decide, by decide⟩) rfl k48 rfl rfl (Nat.le_of_ble_eq_true rfl) dX6_times_151 ⟨Nat.zero_le _, Nat.zero_le _⟩ ?_
            refine j_stk (st' := [.long v49, .long x7]) rfl ?_
            refine j_aload_n E 1 rfl dX6_times_154 rfl ?_
            refine j_iload_n E 3 rfl dX6_times_155 rfl ?_
            refine j_iload E 8 rfl dX6_times_156 ?_
            refine j_iload E 6 rfl dX6_times_158 ?_
            obtain ⟨k51, hf⟩ := ck_spec hf
            obtain ⟨v52, e53, hf⟩ := bs hf
            refine j_callV (ci := 5) (b := x0) (As := [.int x2, .int x9, .int x5]) (rest := [.long v49, .long x7]) (v := (some (.long v52))) E (c_X6_holds l D ad cy h x0 x2 x9 x5 e53) (mcw E.1.2.2.2.2 uw_3_206 uw_3_203 uw_3_205 us_2_5 uw_1_6 rfl rfl hd_X6_holds ⟨by decide, by decide⟩) rfl k51 rfl rfl (Nat.le_of_ble_eq_true rfl) dX6_times_160 ⟨Nat.zero_le _, Nat.zero_le _⟩ ?_
            refine j_stk (st' := [.long v52, .long v49, .long x7]) rfl ?_
            refine j_lmul E dX6_times_163 ?_
            refine j_ladd E dX6_times_164 ?_
            refine j_lstore (lv' := [(7, .long (x7 + (v49 * v52))), (6, .int 0), (0, .ref (ad x0)), (1, .int x1), (2, .int x2), (3, .int x3), (4, .int x4), (5, .int x5), (9, .int x9)]) E dX6_times_165 (by decide) rfl ?_
            refine j_iinc (v := (x9 + 1)) (k0 := 8) (lv' := [(9, .int (x9 + 1)), (7, .long (x7 + (v49 * v52))), (6, .int 0), (0, .ref (ad x0)), (1, .int x1), (2, .int x2), (3, .int x3), (4, .int x4), (5, .int x5)]) E dX6_times_167 rfl (congrArg (fun z => x9 + z) (by decide)) (by decide) rfl ?_
            refine j_goto (tgt := 96) E dX6_times_170 (by decide) ?_
            refine j_perm (lv' := [(0, .ref (ad x0)), (1, .int x1), (2, .int x2), (3, .int x3), (4, .int x4), (5, .int x5), (6, .int 0), (7, .long (x7 + (v49 * v52))), (9, .int (x9 + 1))]) [3, 4, 5, 6, 7, 8, 2, 1, 0] rfl ?_
            exact ih k 0 (x7 + (v49 * v52)) (x9 + 1) hk hf
          · have hf := ifn hf z47
            refine j_iconst (v := 1) E dX6_times_136 (by decide) ?_
            refine j_goto (tgt := 141) E dX6_times_137 (by decide) ?_
            refine j_istore (lv' := [(6, .int 1), (0, .ref (ad x0)), (1, .int x1), (2, .int x2), (3, .int x3), (4, .int x4), (5, .int x5), (7, .long x7), (9, .int x9)]) E dX6_times_141 (by decide) rfl ?_
            refine j_lload E 7 rfl dX6_times_143 ?_
            refine j_aload_n E 1 rfl dX6_times_145 rfl ?_
            refine j_iload_n E 2 rfl dX6_times_146 rfl ?_
            refine j_iload E 5 rfl dX6_times_147 ?_
            refine j_iload E 8 rfl dX6_times_149 ?_
            obtain ⟨k54, hf⟩ := ck_spec hf
            obtain ⟨v55, e56, hf⟩ := bs hf
            refine j_callV (ci := 5) (b := x0) (As := [.int x1, .int x4, .int x9]) (rest := [.long x7]) (v := (some (.long v55))) E (c_X6_holds l D ad cy h x0 x1 x4 x9 e56) (mcw E.1.2.2.2.2 uw_3_206 uw_3_203 uw_3_205 us_2_5 uw_1_6 rfl rfl hd_X6_holds ⟨by decide, by decide⟩) rfl k54 rfl rfl (Nat.le_of_ble_eq_true rfl) dX6_times_151 ⟨Nat.zero_le _, Nat.zero_le _⟩ ?_
            refine j_stk (st' := [.long v55, .long x7]) rfl ?_
            refine j_aload_n E 1 rfl dX6_times_154 rfl ?_
            refine j_iload_n E 3 rfl dX6_times_155 rfl ?_
            refine j_iload E 8 rfl dX6_times_156 ?_
            refine j_iload E 6 rfl dX6_times_158 ?_
            obtain ⟨k57, hf⟩ := ck_spec hf
            obtain ⟨v58, e59, hf⟩ := bs hf
            refine j_callV (ci := 5) (b := x0) (As := [.int x2, .int x9, .int x5]) (rest := [.long v55, .long x7]) (v := (some (.long v58))) E (c_X6_holds l D ad cy h x0 x2 x9 x5 e59) (mcw E.1.2.2.2.2 uw_3_206 uw_3_203 uw_3_205 us_2_5 uw_1_6 rfl rfl hd_X6_holds ⟨by decide, by decide⟩) rfl k57 rfl rfl (Nat.le_of_ble_eq_true rfl) dX6_times_160 ⟨Nat.zero_le _, Nat.zero_le _⟩ ?_
            refine j_stk (st' := [.long v58, .long v55, .long x7]) rfl ?_
            refine j_lmul E dX6_times_163 ?_
            refine j_ladd E dX6_times_164 ?_
            refine j_lstore (lv' := [(7, .long (x7 + (v55 * v58))), (6, .int 1), (0, .ref (ad x0)), (1, .int x1), (2, .int x2), (3, .int x3), (4, .int x4), (5, .int x5), (9, .int x9)]) E dX6_times_165 (by decide) rfl ?_
            refine j_iinc (v := (x9 + 1)) (k0 := 8) (lv' := [(9, .int (x9 + 1)), (7, .long (x7 + (v55 * v58))), (6, .int 1), (0, .ref (ad x0)), (1, .int x1), (2, .int x2), (3, .int x3), (4, .int x4), (5, .int x5)]) E dX6_times_167 rfl (congrArg (fun z => x9 + z) (by decide)) (by decide) rfl ?_
            refine j_goto (tgt := 96) E dX6_times_170 (by decide) ?_
            refine j_perm (lv' := [(0, .ref (ad x0)), (1, .int x1), (2, .int x2), (3, .int x3), (4, .int x4), (5, .int x5), (6, .int 1), (7, .long (x7 + (v55 * v58))), (9, .int (x9 + 1))]) [3, 4, 5, 6, 7, 8, 2, 1, 0] rfl ?_
            exact ih k 1 (x7 + (v55 * v58)) (x9 + 1) hk hf
set_option maxRecDepth 100000 in
set_option maxHeartbeats 4000000 in
theorem w_X6_times_76 {p : Program} {l : Launch} {e : Env} {s : State} {m : MethodId} {args : Array Value} {below : List Frame} {meth : Method} {c : Code} {D : va_G} {ad : Nat → Nat} {cy : Nat → ClassId} (E : EE p s m args c cX6_times 10 (wsM yX6_times cX6_times 10 (some .int)) RX6 D cy) (hr : meth.sig.returnType = (some .int)) (hlk : meth.locks = false) {h' : HP} {r : Int32} (x0 : Nat) (x1 : Int32) (x2 : Int32) (x4 : Int32) (x3 : Int32) : ∀ (n : Nat) (k : (HP → Option (HP × Int32))) (h : HP) (x5 : Int32), (∀ (h : HP), k h = some (h', r) → JJ p l e rmX6_times s m args below meth c 0 0 (MQ below (QV D ad cy (some (.int r)) h') args s 0 0 (Aw ad)) D ad cy (Aw ad) 10 h [(0, .ref (ad x0)), (1, .int x1), (2, .int x2), (3, .int x3), (4, .int x4)] 194 []) → L_X6_times_76 x0 x1 x2 x4 n k h x5 = some (h', r) → JJ p l e rmX6_times s m args below meth c 0 0 (MQ below (QV D ad cy (some (.int r)) h') args s 0 0 (Aw ad)) D ad cy (Aw ad) 10 h [(0, .ref (ad x0)), (1, .int x1), (2, .int x2), (3, .int x3), (4, .int x4), (5, .int x5)] 76 [] := by
  intro n
  induction n with
  | zero => intro k h x5 hk hf; cases hf
  | succ n ih =>
    intro k h x5 hk hf
    unfold L_X6_times_76 at hf
    refine j_iload E 5 rfl dX6_times_76 ?_
    refine j_aload_n E 0 rfl dX6_times_78 rfl ?_
    obtain ⟨v27, ev27, hf⟩ := bs hf
    refine j_getR (ci := 5) (k0 := 2) (T := TX6) (N := 14) E (mI inUX6) rfl (by decide) (mU uw_3_106) ev27 dX6_times_79 ?_
    refine j_iload_n E 2 rfl dX6_times_82 rfl ?_
    obtain ⟨v28, ev28, hf⟩ := bs hf
    refine j_aI E ev28 dX6_times_83 ?_
    refine j_icmp_ge (tgt := 194) E dX6_times_84 (by decide) (fun z29 => ?_) (fun z29 => ?_)
    · have hf := ifp hf z29
      refine j_perm (lv' := [(0, .ref (ad x0)), (1, .int x1), (2, .int x2), (3, .int x3), (4, .int x4)]) [0, 1, 2, 3, 4] rfl ?_
      exact hk h hf
    · have hf := ifn hf z29
      refine j_iconst (v := 0) E dX6_times_87 (by decide) ?_
      refine j_istore (lv' := [(6, .int 0), (0, .ref (ad x0)), (1, .int x1), (2, .int x2), (3, .int x3), (4, .int x4), (5, .int x5)]) E dX6_times_88 (by decide) rfl ?_
      refine j_lconst (v := 0) E dX6_times_90 (by decide) ?_
      refine j_lstore (lv' := [(7, .long 0), (6, .int 0), (0, .ref (ad x0)), (1, .int x1), (2, .int x2), (3, .int x3), (4, .int x4), (5, .int x5)]) E dX6_times_91 (by decide) rfl ?_
      refine j_iconst (v := 0) E dX6_times_93 (by decide) ?_
      refine j_istore (lv' := [(9, .int 0), (7, .long 0), (6, .int 0), (0, .ref (ad x0)), (1, .int x1), (2, .int x2), (3, .int x3), (4, .int x4), (5, .int x5)]) E dX6_times_94 (by decide) rfl ?_
      refine j_perm (lv' := [(0, .ref (ad x0)), (1, .int x1), (2, .int x2), (3, .int x3), (4, .int x4), (5, .int x5), (6, .int 0), (7, .long 0), (9, .int 0)]) [3, 4, 5, 6, 7, 8, 2, 1, 0] rfl ?_
      refine w_X6_times_96 E hr hlk h x0 x1 x2 x4 x5 x3 FU _ 0 0 0 (fun x66 x67 hf => ?_) hf
      refine j_iload E 6 rfl dX6_times_173 ?_
      refine j_if_eq (tgt := 188) E dX6_times_175 (by decide) (fun z68 => ?_) (fun z68 => ?_)
      · have hf := ifp hf z68
        refine j_iinc (v := (x5 + 1)) (k0 := 5) (lv' := [(5, .int (x5 + 1)), (0, .ref (ad x0)), (1, .int x1), (2, .int x2), (3, .int x3), (4, .int x4), (6, .int x66), (7, .long x67)]) E dX6_times_188 rfl (congrArg (fun z => x5 + z) (by decide)) (by decide) rfl ?_
        refine j_goto (tgt := 76) E dX6_times_191 (by decide) ?_
        refine j_perm (lv' := [(0, .ref (ad x0)), (1, .int x1), (2, .int x2), (3, .int x3), (4, .int x4), (5, .int (x5 + 1))]) [1, 2, 3, 4, 5, 0] rfl ?_
        exact ih k h (x5 + 1) hk hf
      · have hf := ifn hf z68
        refine j_aload_n E 0 rfl dX6_times_178 rfl ?_
        refine j_iload E 4 rfl dX6_times_179 ?_
        refine j_iload E 5 rfl dX6_times_181 ?_
        refine j_lload E 7 rfl dX6_times_183 ?_
        obtain ⟨k69, hf⟩ := ck_spec hf
        obtain ⟨h70, e71, hf⟩ := bs hf
        refine j_callV (ci := 5) (b := x0) (As := [.int x4, .int x5, .long x67]) (rest := []) (v := none) E (c_X6_keep l D ad cy h x0 x4 x5 x67 e71) (mcw E.1.2.2.2.2 uw_4_1 uw_3_238 uw_4_0 us_2_8 uw_1_6 rfl rfl hd_X6_keep ⟨by decide, by decide⟩) rfl k69 rfl rfl (Nat.le_of_ble_eq_true rfl) dX6_times_185 ⟨Nat.zero_le _, Nat.zero_le _⟩ ?_
        refine j_stk (st' := []) rfl ?_
        refine j_iinc (v := (x5 + 1)) (k0 := 5) (lv' := [(5, .int (x5 + 1)), (0, .ref (ad x0)), (1, .int x1), (2, .int x2), (3, .int x3), (4, .int x4), (6, .int x66), (7, .long x67)]) E dX6_times_188 rfl (congrArg (fun z => x5 + z) (by decide)) (by decide) rfl ?_
        refine j_goto (tgt := 76) E dX6_times_191 (by decide) ?_
        refine j_perm (lv' := [(0, .ref (ad x0)), (1, .int x1), (2, .int x2), (3, .int x3), (4, .int x4), (5, .int (x5 + 1))]) [1, 2, 3, 4, 5, 0] rfl ?_
        exact ih k h70 (x5 + 1) hk hf
set_option maxRecDepth 100000 in
set_option maxHeartbeats 4000000 in
theorem w_X6_times_62 {p : Program} {l : Launch} {e : Env} {s : State} {m : MethodId} {args : Array Value} {below : List Frame} {meth : Method} {c : Code} {D : va_G} {ad : Nat → Nat} {cy : Nat → ClassId} (E : EE p s m args c cX6_times 10 (wsM yX6_times cX6_times 10 (some .int)) RX6 D cy) (hr : meth.sig.returnType = (some .int)) (hlk : meth.locks = false) {h' : HP} {r : Int32} (x0 : Nat) (x1 : Int32) (x2 : Int32) (x3 : Int32) : ∀ (n : Nat) (k : (HP → Option (HP × Int32))) (h : HP) (x4 : Int32), (∀ (h : HP), k h = some (h', r) → JJ p l e rmX6_times s m args below meth c 0 0 (MQ below (QV D ad cy (some (.int r)) h') args s 0 0 (Aw ad)) D ad cy (Aw ad) 10 h [(0, .ref (ad x0)), (3, .int x3)] 200 []) → L_X6_times_62 x0 x1 x2 n k h x4 = some (h', r) → JJ p l e rmX6_times s m args below meth c 0 0 (MQ below (QV D ad cy (some (.int r)) h') args s 0 0 (Aw ad)) D ad cy (Aw ad) 10 h [(0, .ref (ad x0)), (1, .int x1), (2, .int x2), (3, .int x3), (4, .int x4)] 62 [] := by
  intro n
  induction n with
  | zero => intro k h x4 hk hf; cases hf
  | succ n ih =>
    intro k h x4 hk hf
    unfold L_X6_times_62 at hf
    refine j_iload E 4 rfl dX6_times_62 ?_
    refine j_aload_n E 0 rfl dX6_times_64 rfl ?_
    obtain ⟨v24, ev24, hf⟩ := bs hf
    refine j_getR (ci := 5) (k0 := 1) (T := TX6) (N := 14) E (mI inUX6) rfl (by decide) (mU uw_3_105) ev24 dX6_times_65 ?_
    refine j_iload_n E 1 rfl dX6_times_68 rfl ?_
    obtain ⟨v25, ev25, hf⟩ := bs hf
    refine j_aI E ev25 dX6_times_69 ?_
    refine j_icmp_ge (tgt := 200) E dX6_times_70 (by decide) (fun z26 => ?_) (fun z26 => ?_)
    · have hf := ifp hf z26
      refine j_perm (lv' := [(0, .ref (ad x0)), (3, .int x3)]) [0, 3] rfl ?_
      exact hk h hf
    · have hf := ifn hf z26
      refine j_iconst (v := 0) E dX6_times_73 (by decide) ?_
      refine j_istore (lv' := [(5, .int 0), (0, .ref (ad x0)), (1, .int x1), (2, .int x2), (3, .int x3), (4, .int x4)]) E dX6_times_74 (by decide) rfl ?_
      refine j_perm (lv' := [(0, .ref (ad x0)), (1, .int x1), (2, .int x2), (3, .int x3), (4, .int x4), (5, .int 0)]) [1, 2, 3, 4, 5, 0] rfl ?_
      refine w_X6_times_76 E hr hlk x0 x1 x2 x4 x3 FU _ h 0 (fun h72 hf => ?_) hf
      refine j_iinc (v := (x4 + 1)) (k0 := 4) (lv' := [(4, .int (x4 + 1)), (0, .ref (ad x0)), (1, .int x1), (2, .int x2), (3, .int x3)]) E dX6_times_194 rfl (congrArg (fun z => x4 + z) (by decide)) (by decide) rfl ?_
      refine j_goto (tgt := 62) E dX6_times_197 (by decide) ?_
      refine j_perm (lv' := [(0, .ref (ad x0)), (1, .int x1), (2, .int x2), (3, .int x3), (4, .int (x4 + 1))]) [1, 2, 3, 4, 0] rfl ?_
      exact ih k h72 (x4 + 1) hk hf
set_option maxRecDepth 100000 in
set_option maxHeartbeats 4000000 in
theorem c_X6_times (l : Launch) (D : va_G) (ad : Nat → Nat) (cy : Nat → ClassId) (h : HP) (x0 : Nat) (x1 : Int32) (x2 : Int32) (x3 : Int32) {h' : HP} {r : Int32} (hf : f_X6_times h x0 x1 x2 x3 = some (h', r)) : Met l yX6_times (wsM yX6_times cX6_times 10 (some .int)) rmX6_times (va_Pc [.ref (ad x0), .int x1, .int x2, .int x3] (PW D ad cy h)) (QV D ad cy (some (.int r)) h') 0 0 (Aw ad) := by
  refine met_of (own := RX6) (lv := [(0, .ref (ad x0)), (1, .int x1), (2, .int x2), (3, .int x3)]) (by decide) rfl (Nat.le_of_ble_eq_true rfl) rfl (fun p e s m args below meth c E hr hlk => ?_)
  unfold f_X6_times at hf
  refine j_iload_n E 3 rfl dX6_times_0 rfl ?_
  obtain ⟨v1, e2, hf⟩ := bs hf
  refine j_callS (As := [.int x3]) (rest := []) (v := (some (.int v1))) E (c_X6_isNumber l D ad cy h x3 e2) (mcs E.1.2.2.2.2 uw_3_154 uw_3_152 uw_3_153 uw_1_6 rfl rfl hd_X6_isNumber ⟨by decide, by decide⟩) rfl rfl (Nat.le_of_ble_eq_true rfl) dX6_times_1 ⟨Nat.zero_le _, Nat.zero_le _⟩ ?_
  refine j_stk (st' := [.int v1]) rfl ?_
  refine j_if_eq (tgt := 23) E dX6_times_4 (by decide) (fun z3 => ?_) (fun z3 => ?_)
  · have hf := ifp hf z3
    refine j_iconst (v := (-1)) E dX6_times_23 (by decide) ?_
    cases hf
    exact j_iret E hr hlk dX6_times_24
  · have hf := ifn hf z3
    refine j_aload_n E 0 rfl dX6_times_7 rfl ?_
    refine j_iload_n E 1 rfl dX6_times_8 rfl ?_
    obtain ⟨k4, hf⟩ := ck_spec hf
    obtain ⟨v5, e6, hf⟩ := bs hf
    refine j_callV (ci := 5) (b := x0) (As := [.int x1]) (rest := []) (v := (some (.int v5))) E (c_X6_isTable l D ad cy h x0 x1 e6) (mcw E.1.2.2.2.2 uw_3_186 uw_3_183 uw_3_185 us_2_2 uw_1_6 rfl rfl hd_X6_isTable ⟨by decide, by decide⟩) rfl k4 rfl rfl (Nat.le_of_ble_eq_true rfl) dX6_times_9 ⟨Nat.zero_le _, Nat.zero_le _⟩ ?_
    refine j_stk (st' := [.int v5]) rfl ?_
    refine j_if_eq (tgt := 23) E dX6_times_12 (by decide) (fun z7 => ?_) (fun z7 => ?_)
    · have hf := ifp hf z7
      refine j_iconst (v := (-1)) E dX6_times_23 (by decide) ?_
      cases hf
      exact j_iret E hr hlk dX6_times_24
    · have hf := ifn hf z7
      refine j_aload_n E 0 rfl dX6_times_15 rfl ?_
      refine j_iload_n E 2 rfl dX6_times_16 rfl ?_
      obtain ⟨k8, hf⟩ := ck_spec hf
      obtain ⟨v9, e10, hf⟩ := bs hf
      refine j_callV (ci := 5) (b := x0) (As := [.int x2]) (rest := []) (v := (some (.int v9))) E (c_X6_isTable l D ad cy h x0 x2 e10) (mcw E.1.2.2.2.2 uw_3_186 uw_3_183 uw_3_185 us_2_2 uw_1_6 rfl rfl hd_X6_isTable ⟨by decide, by decide⟩) rfl k8 rfl rfl (Nat.le_of_ble_eq_true rfl) dX6_times_17 ⟨Nat.zero_le _, Nat.zero_le _⟩ ?_
      refine j_stk (st' := [.int v9]) rfl ?_
      refine j_if_ne (tgt := 25) E dX6_times_20 (by decide) (fun z11 => ?_) (fun z11 => ?_)
      · have hf := ifn hf z11
        refine j_aload_n E 0 rfl dX6_times_25 rfl ?_
        obtain ⟨v12, ev12, hf⟩ := bs hf
        refine j_getR (ci := 5) (k0 := 2) (T := TX6) (N := 14) E (mI inUX6) rfl (by decide) (mU uw_3_106) ev12 dX6_times_26 ?_
        refine j_iload_n E 1 rfl dX6_times_29 rfl ?_
        obtain ⟨v13, ev13, hf⟩ := bs hf
        refine j_aI E ev13 dX6_times_30 ?_
        refine j_aload_n E 0 rfl dX6_times_31 rfl ?_
        obtain ⟨v14, ev14, hf⟩ := bs hf
        refine j_getR (ci := 5) (k0 := 1) (T := TX6) (N := 14) E (mI inUX6) rfl (by decide) (mU uw_3_105) ev14 dX6_times_32 ?_
        refine j_iload_n E 2 rfl dX6_times_35 rfl ?_
        obtain ⟨v15, ev15, hf⟩ := bs hf
        refine j_aI E ev15 dX6_times_36 ?_
        refine j_icmp_eq (tgt := 43) E dX6_times_37 (by decide) (fun z16 => ?_) (fun z16 => ?_)
        · have hf := ifp hf z16
          refine j_aload_n E 0 rfl dX6_times_43 rfl ?_
          refine j_aload_n E 0 rfl dX6_times_44 rfl ?_
          obtain ⟨v17, ev17, hf⟩ := bs hf
          refine j_getR (ci := 5) (k0 := 1) (T := TX6) (N := 14) E (mI inUX6) rfl (by decide) (mU uw_3_105) ev17 dX6_times_45 ?_
          refine j_iload_n E 1 rfl dX6_times_48 rfl ?_
          obtain ⟨v18, ev18, hf⟩ := bs hf
          refine j_aI E ev18 dX6_times_49 ?_
          refine j_aload_n E 0 rfl dX6_times_50 rfl ?_
          obtain ⟨v19, ev19, hf⟩ := bs hf
          refine j_getR (ci := 5) (k0 := 2) (T := TX6) (N := 14) E (mI inUX6) rfl (by decide) (mU uw_3_106) ev19 dX6_times_51 ?_
          refine j_iload_n E 2 rfl dX6_times_54 rfl ?_
          obtain ⟨v20, ev20, hf⟩ := bs hf
          refine j_aI E ev20 dX6_times_55 ?_
          obtain ⟨k21, hf⟩ := ck_spec hf
          obtain ⟨h22, e23, hf⟩ := bs hf
          refine j_callV (ci := 5) (b := x0) (As := [.int v18, .int v20]) (rest := []) (v := none) E (c_X6_begin l D ad cy h x0 v18 v20 e23) (mcw E.1.2.2.2.2 uw_3_158 uw_3_155 uw_3_157 us_1_15 uw_1_6 rfl rfl hd_X6_begin ⟨by decide, by decide⟩) rfl k21 rfl rfl (Nat.le_of_ble_eq_true rfl) dX6_times_56 ⟨Nat.zero_le _, Nat.zero_le _⟩ ?_
          refine j_stk (st' := []) rfl ?_
          refine j_iconst (v := 0) E dX6_times_59 (by decide) ?_
          refine j_istore (lv' := [(4, .int 0), (0, .ref (ad x0)), (1, .int x1), (2, .int x2), (3, .int x3)]) E dX6_times_60 (by decide) rfl ?_
          refine j_perm (lv' := [(0, .ref (ad x0)), (1, .int x1), (2, .int x2), (3, .int x3), (4, .int 0)]) [1, 2, 3, 4, 0] rfl ?_
          refine w_X6_times_62 E hr hlk x0 x1 x2 x3 FU _ h22 0 (fun h73 hf => ?_) hf
          refine j_aload_n E 0 rfl dX6_times_200 rfl ?_
          refine j_iload_n E 1 rfl dX6_times_201 rfl ?_
          obtain ⟨k74, hf⟩ := ck_spec hf
          obtain ⟨⟨h75, v76⟩, e77, hf⟩ := bs hf
          refine j_callV (ci := 5) (b := x0) (As := [.int x3]) (rest := []) (v := (some (.int v76))) E (c_X6_putAt l D ad cy h73 x0 x3 e77) (mcw E.1.2.2.2.2 uw_3_162 uw_3_159 uw_3_161 us_2_0 uw_1_6 rfl rfl hd_X6_putAt ⟨by decide, by decide⟩) rfl k74 rfl rfl (Nat.le_of_ble_eq_true rfl) dX6_times_202 ⟨Nat.zero_le _, Nat.zero_le _⟩ ?_
          refine j_stk (st' := [.int v76]) rfl ?_
          cases hf
          exact j_iret E hr hlk dX6_times_205
        · have hf := ifn hf z16
          refine j_bipush (v := (-3)) E dX6_times_40 (by decide) ?_
          cases hf
          exact j_iret E hr hlk dX6_times_42
      · have hf := ifp hf z11
        refine j_iconst (v := (-1)) E dX6_times_23 (by decide) ?_
        cases hf
        exact j_iret E hr hlk dX6_times_24
noncomputable def L_X6_each_70 (x0 : Nat) (x1 : Int32) (x2 : Int32) (x4 : Int32) : Nat → (HP → Option (HP × Int32)) → HP → Int32 → Option (HP × Int32)
  | 0, _, _, _ => none
  | n + 1, k, h, x5 =>
      (gR 5 h x0 2).bind fun v26 =>
      (aI h v26 x1).bind fun v27 =>
      if v27 ≤ x5 then (
        k h
      ) else (
        ck 5 h x0 <|
        (f_X6_has h x0 x1 x4 x5).bind fun v30 =>
        if v30 = 0 then (
          L_X6_each_70 x0 x1 x2 x4 n k h (x5 + 1)
        ) else (
          ck 5 h x0 <|
          (f_X6_has h x0 x2 x4 x5).bind fun v34 =>
          if v34 = 0 then (
            L_X6_each_70 x0 x1 x2 x4 n k h (x5 + 1)
          ) else (
            ck 5 h x0 <|
            (f_X6_holds h x0 x1 x4 x5).bind fun v38 =>
            ck 5 h x0 <|
            (f_X6_holds h x0 x2 x4 x5).bind fun v41 =>
            ck 5 h x0 <|
            (f_X6_keep h x0 x4 x5 (v38 * v41)).bind fun h44 =>
            L_X6_each_70 x0 x1 x2 x4 n k h44 (x5 + 1)
          )
        )
      )
noncomputable def L_X6_each_56 (x0 : Nat) (x1 : Int32) (x2 : Int32) : Nat → (HP → Option (HP × Int32)) → HP → Int32 → Option (HP × Int32)
  | 0, _, _, _ => none
  | n + 1, k, h, x4 =>
      (gR 5 h x0 1).bind fun v23 =>
      (aI h v23 x1).bind fun v24 =>
      if v24 ≤ x4 then (
        k h
      ) else (
        L_X6_each_70 x0 x1 x2 x4 FU (fun h46 =>
          L_X6_each_56 x0 x1 x2 n k h46 (x4 + 1)) h 0
      )
noncomputable def f_X6_each (h : HP) (x0 : Nat) (x1 : Int32) (x2 : Int32) (x3 : Int32) : Option (HP × Int32) :=
  (f_X6_isNumber x3).bind fun v1 =>
  if v1 = 0 then (
    some (h, (-1))
  ) else (
    ck 5 h x0 <|
    (f_X6_isTable h x0 x1).bind fun v5 =>
    if v5 = 0 then (
      some (h, (-1))
    ) else (
      ck 5 h x0 <|
      (f_X6_isTable h x0 x2).bind fun v9 =>
      if v9 = 0 then (
        some (h, (-1))
      ) else (
        ck 5 h x0 <|
        (f_X6_areLike h x0 x1 x2).bind fun v13 =>
        if v13 = 0 then (
          some (h, (-3))
        ) else (
          (gR 5 h x0 1).bind fun v16 =>
          (aI h v16 x1).bind fun v17 =>
          (gR 5 h x0 2).bind fun v18 =>
          (aI h v18 x1).bind fun v19 =>
          ck 5 h x0 <|
          (f_X6_begin h x0 v17 v19).bind fun h21 =>
          L_X6_each_56 x0 x1 x2 FU (fun h47 =>
            ck 5 h47 x0 <|
            (f_X6_putAt h47 x0 x3).bind fun (h49, v50) =>
            some (h49, v50)) h21 0
        )
      )
    )
  )
abbrev rmX6_each : Room := { frames := 3, cells := 0, slots := 0, locals := 68 }
theorem hd_X6_each : yX6_each.cls = RX6 ∧ yX6_each.cls ≠ "java/lang/invoke/MethodHandle" ∧ yX6_each.cls ≠ "java/lang/invoke/VarHandle" ∧ (parseMethodDescriptor yX6_each.desc).map (fun d => d.parameters.length) = some 3 := by decide +kernel
set_option maxRecDepth 100000 in
set_option maxHeartbeats 4000000 in
theorem w_X6_each_70 {p : Program} {l : Launch} {e : Env} {s : State} {m : MethodId} {args : Array Value} {below : List Frame} {meth : Method} {c : Code} {D : va_G} {ad : Nat → Nat} {cy : Nat → ClassId} (E : EE p s m args c cX6_each 6 (wsM yX6_each cX6_each 6 (some .int)) RX6 D cy) (hr : meth.sig.returnType = (some .int)) (hlk : meth.locks = false) {h' : HP} {r : Int32} (x0 : Nat) (x1 : Int32) (x2 : Int32) (x4 : Int32) (x3 : Int32) : ∀ (n : Nat) (k : (HP → Option (HP × Int32))) (h : HP) (x5 : Int32), (∀ (h : HP), k h = some (h', r) → JJ p l e rmX6_each s m args below meth c 0 0 (MQ below (QV D ad cy (some (.int r)) h') args s 0 0 (Aw ad)) D ad cy (Aw ad) 6 h [(0, .ref (ad x0)), (1, .int x1), (2, .int x2), (3, .int x3), (4, .int x4)] 138 []) → L_X6_each_70 x0 x1 x2 x4 n k h x5 = some (h', r) → JJ p l e rmX6_each s m args below meth c 0 0 (MQ below (QV D ad cy (some (.int r)) h') args s 0 0 (Aw ad)) D ad cy (Aw ad) 6 h [(0, .ref (ad x0)), (1, .int x1), (2, .int x2), (3, .int x3), (4, .int x4), (5, .int x5)] 70 [] := by
  intro n
  induction n with
  | zero => intro k h x5 hk hf; cases hf
  | succ n ih =>
    intro k h x5 hk hf
    unfold L_X6_each_70 at hf
    refine j_iload E 5 rfl dX6_each_70 ?_
    refine j_aload_n E 0 rfl dX6_each_72 rfl ?_
    obtain ⟨v26, ev26, hf⟩ := bs hf
    refine j_getR (ci := 5) (k0 := 2) (T := TX6) (N := 14) E (mI inUX6) rfl (by decide) (mU uw_3_106) ev26 dX6_each_73 ?_
    refine j_iload_n E 1 rfl dX6_each_76 rfl ?_
    obtain ⟨v27, ev27, hf⟩ := bs hf
    refine j_aI E ev27 dX6_each_77 ?_
    refine j_icmp_ge (tgt := 138) E dX6_each_78 (by decide) (fun z28 => ?_) (fun z28 => ?_)
    · have hf := ifp hf z28
      refine j_perm (lv' := [(0, .ref (ad x0)), (1, .int x1), (2, .int x2), (3, .int x3), (4, .int x4)]) [0, 1, 2, 3, 4] rfl ?_
      exact hk h hf
    · have hf := ifn hf z28
      refine j_aload_n E 0 rfl dX6_each_81 rfl ?_
      refine j_iload_n E 1 rfl dX6_each_82 rfl ?_
      refine j_iload E 4 rfl dX6_each_83 ?_
      refine j_iload E 5 rfl dX6_each_85 ?_
      obtain ⟨k29, hf⟩ := ck_spec hf
      obtain ⟨v30, e31, hf⟩ := bs hf
      refine j_callV (ci := 5) (b := x0) (As := [.int x1, .int x4, .int x5]) (rest := []) (v := (some (.int v30))) E (c_X6_has l D ad cy h x0 x1 x4 x5 e31) (mcw E.1.2.2.2.2 uw_3_210 uw_3_207 uw_3_209 us_2_6 uw_1_6 rfl rfl hd_X6_has ⟨by decide, by decide⟩) rfl k29 rfl rfl (Nat.le_of_ble_eq_true rfl) dX6_each_87 ⟨Nat.zero_le _, Nat.zero_le _⟩ ?_
      refine j_stk (st' := [.int v30]) rfl ?_
      refine j_if_eq (tgt := 132) E dX6_each_90 (by decide) (fun z32 => ?_) (fun z32 => ?_)
      · have hf := ifp hf z32
        refine j_iinc (v := (x5 + 1)) (k0 := 5) (lv' := [(5, .int (x5 + 1)), (0, .ref (ad x0)), (1, .int x1), (2, .int x2), (3, .int x3), (4, .int x4)]) E dX6_each_132 rfl (congrArg (fun z => x5 + z) (by decide)) (by decide) rfl ?_
        refine j_goto (tgt := 70) E dX6_each_135 (by decide) ?_
        refine j_perm (lv' := [(0, .ref (ad x0)), (1, .int x1), (2, .int x2), (3, .int x3), (4, .int x4), (5, .int (x5 + 1))]) [1, 2, 3, 4, 5, 0] rfl ?_
        exact ih k h (x5 + 1) hk hf
      · have hf := ifn hf z32
        refine j_aload_n E 0 rfl dX6_each_93 rfl ?_
        refine j_iload_n E 2 rfl dX6_each_94 rfl ?_
        refine j_iload E 4 rfl dX6_each_95 ?_
        refine j_iload E 5 rfl dX6_each_97 ?_
        obtain ⟨k33, hf⟩ := ck_spec hf
        obtain ⟨v34, e35, hf⟩ := bs hf
        refine j_callV (ci := 5) (b := x0) (As := [.int x2, .int x4, .int x5]) (rest := []) (v := (some (.int v34))) E (c_X6_has l D ad cy h x0 x2 x4 x5 e35) (mcw E.1.2.2.2.2 uw_3_210 uw_3_207 uw_3_209 us_2_6 uw_1_6 rfl rfl hd_X6_has ⟨by decide, by decide⟩) rfl k33 rfl rfl (Nat.le_of_ble_eq_true rfl) dX6_each_99 ⟨Nat.zero_le _, Nat.zero_le _⟩ ?_
        refine j_stk (st' := [.int v34]) rfl ?_
        refine j_if_eq (tgt := 132) E dX6_each_102 (by decide) (fun z36 => ?_) (fun z36 => ?_)
        · have hf := ifp hf z36
          refine j_iinc (v := (x5 + 1)) (k0 := 5) (lv' := [(5, .int (x5 + 1)), (0, .ref (ad x0)), (1, .int x1), (2, .int x2), (3, .int x3), (4, .int x4)]) E dX6_each_132 rfl (congrArg (fun z => x5 + z) (by decide)) (by decide) rfl ?_
          refine j_goto (tgt := 70) E dX6_each_135 (by decide) ?_
          refine j_perm (lv' := [(0, .ref (ad x0)), (1, .int x1), (2, .int x2), (3, .int x3), (4, .int x4), (5, .int (x5 + 1))]) [1, 2, 3, 4, 5, 0] rfl ?_
          exact ih k h (x5 + 1) hk hf
        · have hf := ifn hf z36
          refine j_aload_n E 0 rfl dX6_each_105 rfl ?_
          refine j_iload E 4 rfl dX6_each_106 ?_
          refine j_iload E 5 rfl dX6_each_108 ?_
          refine j_aload_n E 0 rfl dX6_each_110 rfl ?_
          refine j_iload_n E 1 rfl dX6_each_111 rfl ?_
          refine j_iload E 4 rfl dX6_each_112 ?_
          refine j_iload E 5 rfl dX6_each_114 ?_
          obtain ⟨k37, hf⟩ := ck_spec hf
          obtain ⟨v38, e39, hf⟩ := bs hf
          refine j_callV (ci := 5) (b := x0) (As := [.int x1, .int x4, .int x5]) (rest := [.int x5, .int x4, .ref (ad x0)]) (v := (some (.long v38))) E (c_X6_holds l D ad cy h x0 x1 x4 x5 e39) (mcw E.1.2.2.2.2 uw_3_206 uw_3_203 uw_3_205 us_2_5 uw_1_6 rfl rfl hd_X6_holds ⟨by decide, by decide⟩) rfl k37 rfl rfl (Nat.le_of_ble_eq_true rfl) dX6_each_116 ⟨Nat.zero_le _, Nat.zero_le _⟩ ?_
          refine j_stk (st' := [.long v38, .int x5, .int x4, .ref (ad x0)]) rfl ?_
          refine j_aload_n E 0 rfl dX6_each_119 rfl ?_
          refine j_iload_n E 2 rfl dX6_each_120 rfl ?_
          refine j_iload E 4 rfl dX6_each_121 ?_
          refine j_iload E 5 rfl dX6_each_123 ?_
          obtain ⟨k40, hf⟩ := ck_spec hf
          obtain ⟨v41, e42, hf⟩ := bs hf
          refine j_callV (ci := 5) (b := x0) (As := [.int x2, .int x4, .int x5]) (rest := [.long v38, .int x5, .int x4, .ref (ad x0)]) (v := (some (.long v41))) E (c_X6_holds l D ad cy h x0 x2 x4 x5 e42) (mcw E.1.2.2.2.2 uw_3_206 uw_3_203 uw_3_205 us_2_5 uw_1_6 rfl rfl hd_X6_holds ⟨by decide, by decide⟩) rfl k40 rfl rfl (Nat.le_of_ble_eq_true rfl) dX6_each_125 ⟨Nat.zero_le _, Nat.zero_le _⟩ ?_
          refine j_stk (st' := [.long v41, .long v38, .int x5, .int x4, .ref (ad x0)]) rfl ?_
          refine j_lmul E dX6_each_128 ?_
          obtain ⟨k43, hf⟩ := ck_spec hf
          obtain ⟨h44, e45, hf⟩ := bs hf
          refine j_callV (ci := 5) (b := x0) (As := [.int x4, .int x5, .long (v38 * v41)]) (rest := []) (v := none) E (c_X6_keep l D ad cy h x0 x4 x5 (v38 * v41) e45) (mcw E.1.2.2.2.2 uw_4_1 uw_3_238 uw_4_0 us_2_8 uw_1_6 rfl rfl hd_X6_keep ⟨by decide, by decide⟩) rfl k43 rfl rfl (Nat.le_of_ble_eq_true rfl) dX6_each_129 ⟨Nat.zero_le _, Nat.zero_le _⟩ ?_
          refine j_stk (st' := []) rfl ?_
          refine j_iinc (v := (x5 + 1)) (k0 := 5) (lv' := [(5, .int (x5 + 1)), (0, .ref (ad x0)), (1, .int x1), (2, .int x2), (3, .int x3), (4, .int x4)]) E dX6_each_132 rfl (congrArg (fun z => x5 + z) (by decide)) (by decide) rfl ?_
          refine j_goto (tgt := 70) E dX6_each_135 (by decide) ?_
          refine j_perm (lv' := [(0, .ref (ad x0)), (1, .int x1), (2, .int x2), (3, .int x3), (4, .int x4), (5, .int (x5 + 1))]) [1, 2, 3, 4, 5, 0] rfl ?_
          exact ih k h44 (x5 + 1) hk hf
set_option maxRecDepth 100000 in
set_option maxHeartbeats 4000000 in
theorem w_X6_each_56 {p : Program} {l : Launch} {e : Env} {s : State} {m : MethodId} {args : Array Value} {below : List Frame} {meth : Method} {c : Code} {D : va_G} {ad : Nat → Nat} {cy : Nat → ClassId} (E : EE p s m args c cX6_each 6 (wsM yX6_each cX6_each 6 (some .int)) RX6 D cy) (hr : meth.sig.returnType = (some .int)) (hlk : meth.locks = false) {h' : HP} {r : Int32} (x0 : Nat) (x1 : Int32) (x2 : Int32) (x3 : Int32) : ∀ (n : Nat) (k : (HP → Option (HP × Int32))) (h : HP) (x4 : Int32), (∀ (h : HP), k h = some (h', r) → JJ p l e rmX6_each s m args below meth c 0 0 (MQ below (QV D ad cy (some (.int r)) h') args s 0 0 (Aw ad)) D ad cy (Aw ad) 6 h [(0, .ref (ad x0)), (3, .int x3)] 144 []) → L_X6_each_56 x0 x1 x2 n k h x4 = some (h', r) → JJ p l e rmX6_each s m args below meth c 0 0 (MQ below (QV D ad cy (some (.int r)) h') args s 0 0 (Aw ad)) D ad cy (Aw ad) 6 h [(0, .ref (ad x0)), (1, .int x1), (2, .int x2), (3, .int x3), (4, .int x4)] 56 [] := by
  intro n
  induction n with
  | zero => intro k h x4 hk hf; cases hf
  | succ n ih =>
    intro k h x4 hk hf
    unfold L_X6_each_56 at hf
    refine j_iload E 4 rfl dX6_each_56 ?_
    refine j_aload_n E 0 rfl dX6_each_58 rfl ?_
    obtain ⟨v23, ev23, hf⟩ := bs hf
    refine j_getR (ci := 5) (k0 := 1) (T := TX6) (N := 14) E (mI inUX6) rfl (by decide) (mU uw_3_105) ev23 dX6_each_59 ?_
    refine j_iload_n E 1 rfl dX6_each_62 rfl ?_
    obtain ⟨v24, ev24, hf⟩ := bs hf
    refine j_aI E ev24 dX6_each_63 ?_
    refine j_icmp_ge (tgt := 144) E dX6_each_64 (by decide) (fun z25 => ?_) (fun z25 => ?_)
    · have hf := ifp hf z25
      refine j_perm (lv' := [(0, .ref (ad x0)), (3, .int x3)]) [0, 3] rfl ?_
      exact hk h hf
    · have hf := ifn hf z25
      refine j_iconst (v := 0) E dX6_each_67 (by decide) ?_
      refine j_istore (lv' := [(5, .int 0), (0, .ref (ad x0)), (1, .int x1), (2, .int x2), (3, .int x3), (4, .int x4)]) E dX6_each_68 (by decide) rfl ?_
      refine j_perm (lv' := [(0, .ref (ad x0)), (1, .int x1), (2, .int x2), (3, .int x3), (4, .int x4), (5, .int 0)]) [1, 2, 3, 4, 5, 0] rfl ?_
      refine w_X6_each_70 E hr hlk x0 x1 x2 x4 x3 FU _ h 0 (fun h46 hf => ?_) hf
      refine j_iinc (v := (x4 + 1)) (k0 := 4) (lv' := [(4, .int (x4 + 1)), (0, .ref (ad x0)), (1, .int x1), (2, .int x2), (3, .int x3)]) E dX6_each_138 rfl (congrArg (fun z => x4 + z) (by decide)) (by decide) rfl ?_
      refine j_goto (tgt := 56) E dX6_each_141 (by decide) ?_
      refine j_perm (lv' := [(0, .ref (ad x0)), (1, .int x1), (2, .int x2), (3, .int x3), (4, .int (x4 + 1))]) [1, 2, 3, 4, 0] rfl ?_
      exact ih k h46 (x4 + 1) hk hf
set_option maxRecDepth 100000 in
set_option maxHeartbeats 4000000 in
theorem c_X6_each (l : Launch) (D : va_G) (ad : Nat → Nat) (cy : Nat → ClassId) (h : HP) (x0 : Nat) (x1 : Int32) (x2 : Int32) (x3 : Int32) {h' : HP} {r : Int32} (hf : f_X6_each h x0 x1 x2 x3 = some (h', r)) : Met l yX6_each (wsM yX6_each cX6_each 6 (some .int)) rmX6_each (va_Pc [.ref (ad x0), .int x1, .int x2, .int x3] (PW D ad cy h)) (QV D ad cy (some (.int r)) h') 0 0 (Aw ad) := by
  refine met_of (own := RX6) (lv := [(0, .ref (ad x0)), (1, .int x1), (2, .int x2), (3, .int x3)]) (by decide) rfl (Nat.le_of_ble_eq_true rfl) rfl (fun p e s m args below meth c E hr hlk => ?_)
  unfold f_X6_each at hf
  refine j_iload_n E 3 rfl dX6_each_0 rfl ?_
  obtain ⟨v1, e2, hf⟩ := bs hf
  refine j_callS (As := [.int x3]) (rest := []) (v := (some (.int v1))) E (c_X6_isNumber l D ad cy h x3 e2) (mcs E.1.2.2.2.2 uw_3_154 uw_3_152 uw_3_153 uw_1_6 rfl rfl hd_X6_isNumber ⟨by decide, by decide⟩) rfl rfl (Nat.le_of_ble_eq_true rfl) dX6_each_1 ⟨Nat.zero_le _, Nat.zero_le _⟩ ?_
  refine j_stk (st' := [.int v1]) rfl ?_
  refine j_if_eq (tgt := 23) E dX6_each_4 (by decide) (fun z3 => ?_) (fun z3 => ?_)
  · have hf := ifp hf z3
    refine j_iconst (v := (-1)) E dX6_each_23 (by decide) ?_
    cases hf
    exact j_iret E hr hlk dX6_each_24
  · have hf := ifn hf z3
    refine j_aload_n E 0 rfl dX6_each_7 rfl ?_
    refine j_iload_n E 1 rfl dX6_each_8 rfl ?_
    obtain ⟨k4, hf⟩ := ck_spec hf
    obtain ⟨v5, e6, hf⟩ := bs hf
    refine j_callV (ci := 5) (b := x0) (As := [.int x1]) (rest := []) (v := (some (.int v5))) E (c_X6_isTable l D ad cy h x0 x1 e6) (mcw E.1.2.2.2.2 uw_3_186 uw_3_183 uw_3_185 us_2_2 uw_1_6 rfl rfl hd_X6_isTable ⟨by decide, by decide⟩) rfl k4 rfl rfl (Nat.le_of_ble_eq_true rfl) dX6_each_9 ⟨Nat.zero_le _, Nat.zero_le _⟩ ?_
    refine j_stk (st' := [.int v5]) rfl ?_
    refine j_if_eq (tgt := 23) E dX6_each_12 (by decide) (fun z7 => ?_) (fun z7 => ?_)
    · have hf := ifp hf z7
      refine j_iconst (v := (-1)) E dX6_each_23 (by decide) ?_
      cases hf
      exact j_iret E hr hlk dX6_each_24
    · have hf := ifn hf z7
      refine j_aload_n E 0 rfl dX6_each_15 rfl ?_
      refine j_iload_n E 2 rfl dX6_each_16 rfl ?_
      obtain ⟨k8, hf⟩ := ck_spec hf
      obtain ⟨v9, e10, hf⟩ := bs hf
      refine j_callV (ci := 5) (b := x0) (As := [.int x2]) (rest := []) (v := (some (.int v9))) E (c_X6_isTable l D ad cy h x0 x2 e10) (mcw E.1.2.2.2.2 uw_3_186 uw_3_183 uw_3_185 us_2_2 uw_1_6 rfl rfl hd_X6_isTable ⟨by decide, by decide⟩) rfl k8 rfl rfl (Nat.le_of_ble_eq_true rfl) dX6_each_17 ⟨Nat.zero_le _, Nat.zero_le _⟩ ?_
      refine j_stk (st' := [.int v9]) rfl ?_
      refine j_if_ne (tgt := 25) E dX6_each_20 (by decide) (fun z11 => ?_) (fun z11 => ?_)
      · have hf := ifn hf z11
        refine j_aload_n E 0 rfl dX6_each_25 rfl ?_
        refine j_iload_n E 1 rfl dX6_each_26 rfl ?_
        refine j_iload_n E 2 rfl dX6_each_27 rfl ?_
        obtain ⟨k12, hf⟩ := ck_spec hf
        obtain ⟨v13, e14, hf⟩ := bs hf
        refine j_callV (ci := 5) (b := x0) (As := [.int x1, .int x2]) (rest := []) (v := (some (.int v13))) E (c_X6_areLike l D ad cy h x0 x1 x2 e14) (mcw E.1.2.2.2.2 uw_3_237 uw_3_234 uw_3_236 us_2_7 uw_1_6 rfl rfl hd_X6_areLike ⟨by decide, by decide⟩) rfl k12 rfl rfl (Nat.le_of_ble_eq_true rfl) dX6_each_28 ⟨Nat.zero_le _, Nat.zero_le _⟩ ?_
        refine j_stk (st' := [.int v13]) rfl ?_
        refine j_if_ne (tgt := 37) E dX6_each_31 (by decide) (fun z15 => ?_) (fun z15 => ?_)
        · have hf := ifn hf z15
          refine j_aload_n E 0 rfl dX6_each_37 rfl ?_
          refine j_aload_n E 0 rfl dX6_each_38 rfl ?_
          obtain ⟨v16, ev16, hf⟩ := bs hf
          refine j_getR (ci := 5) (k0 := 1) (T := TX6) (N := 14) E (mI inUX6) rfl (by decide) (mU uw_3_105) ev16 dX6_each_39 ?_
          refine j_iload_n E 1 rfl dX6_each_42 rfl ?_
          obtain ⟨v17, ev17, hf⟩ := bs hf
          refine j_aI E ev17 dX6_each_43 ?_
          refine j_aload_n E 0 rfl dX6_each_44 rfl ?_
          obtain ⟨v18, ev18, hf⟩ := bs hf
          refine j_getR (ci := 5) (k0 := 2) (T := TX6) (N := 14) E (mI inUX6) rfl (by decide) (mU uw_3_106) ev18 dX6_each_45 ?_
          refine j_iload_n E 1 rfl dX6_each_48 rfl ?_
          obtain ⟨v19, ev19, hf⟩ := bs hf
          refine j_aI E ev19 dX6_each_49 ?_
          obtain ⟨k20, hf⟩ := ck_spec hf
          obtain ⟨h21, e22, hf⟩ := bs hf
          refine j_callV (ci := 5) (b := x0) (As := [.int v17, .int v19]) (rest := []) (v := none) E (c_X6_begin l D ad cy h x0 v17 v19 e22) (mcw E.1.2.2.2.2 uw_3_158 uw_3_155 uw_3_157 us_1_15 uw_1_6 rfl rfl hd_X6_begin ⟨by decide, by decide⟩) rfl k20 rfl rfl (Nat.le_of_ble_eq_true rfl) dX6_each_50 ⟨Nat.zero_le _, Nat.zero_le _⟩ ?_
          refine j_stk (st' := []) rfl ?_
          refine j_iconst (v := 0) E dX6_each_53 (by decide) ?_
          refine j_istore (lv' := [(4, .int 0), (0, .ref (ad x0)), (1, .int x1), (2, .int x2), (3, .int x3)]) E dX6_each_54 (by decide) rfl ?_
          refine j_perm (lv' := [(0, .ref (ad x0)), (1, .int x1), (2, .int x2), (3, .int x3), (4, .int 0)]) [1, 2, 3, 4, 0] rfl ?_
          refine w_X6_each_56 E hr hlk x0 x1 x2 x3 FU _ h21 0 (fun h47 hf => ?_) hf
          refine j_aload_n E 0 rfl dX6_each_144 rfl ?_
          refine j_iload_n E 1 rfl dX6_each_145 rfl ?_
          obtain ⟨k48, hf⟩ := ck_spec hf
          obtain ⟨⟨h49, v50⟩, e51, hf⟩ := bs hf
          refine j_callV (ci := 5) (b := x0) (As := [.int x3]) (rest := []) (v := (some (.int v50))) E (c_X6_putAt l D ad cy h47 x0 x3 e51) (mcw E.1.2.2.2.2 uw_3_162 uw_3_159 uw_3_161 us_2_0 uw_1_6 rfl rfl hd_X6_putAt ⟨by decide, by decide⟩) rfl k48 rfl rfl (Nat.le_of_ble_eq_true rfl) dX6_each_146 ⟨Nat.zero_le _, Nat.zero_le _⟩ ?_
          refine j_stk (st' := [.int v50]) rfl ?_
          cases hf
          exact j_iret E hr hlk dX6_each_149
        · have hf := ifp hf z15
          refine j_bipush (v := (-3)) E dX6_each_34 (by decide) ?_
          cases hf
          exact j_iret E hr hlk dX6_each_36
      · have hf := ifp hf z11
        refine j_iconst (v := (-1)) E dX6_each_23 (by decide) ?_
        cases hf
        exact j_iret E hr hlk dX6_each_24
noncomputable def L_X6_mask_70 (x0 : Nat) (x1 : Int32) (x2 : Int32) (x4 : Int32) (x5 : Int32) : Nat → (HP → Option (HP × Int32)) → HP → Int32 → Option (HP × Int32)
  | 0, _, _, _ => none
  | n + 1, k, h, x6 =>
      (gR 5 h x0 2).bind fun v26 =>
      (aI h v26 x1).bind fun v27 =>
      if v27 ≤ x6 then (
        k h
      ) else (
        ck 5 h x0 <|
        (f_X6_has h x0 x1 x5 x6).bind fun v30 =>
        if v30 = 0 then (
          L_X6_mask_70 x0 x1 x2 x4 x5 n k h (x6 + 1)
        ) else (
          ck 5 h x0 <|
          (f_X6_has h x0 x2 x5 x6).bind fun v34 =>
          if v34 = x4 then (
            ck 5 h x0 <|
            (f_X6_holds h x0 x1 x5 x6).bind fun v38 =>
            ck 5 h x0 <|
            (f_X6_keep h x0 x5 x6 v38).bind fun h41 =>
            L_X6_mask_70 x0 x1 x2 x4 x5 n k h41 (x6 + 1)
          ) else (
            L_X6_mask_70 x0 x1 x2 x4 x5 n k h (x6 + 1)
          )
        )
      )
noncomputable def L_X6_mask_56 (x0 : Nat) (x1 : Int32) (x2 : Int32) (x4 : Int32) : Nat → (HP → Option (HP × Int32)) → HP → Int32 → Option (HP × Int32)
  | 0, _, _, _ => none
  | n + 1, k, h, x5 =>
      (gR 5 h x0 1).bind fun v23 =>
      (aI h v23 x1).bind fun v24 =>
      if v24 ≤ x5 then (
        k h
      ) else (
        L_X6_mask_70 x0 x1 x2 x4 x5 FU (fun h43 =>
          L_X6_mask_56 x0 x1 x2 x4 n k h43 (x5 + 1)) h 0
      )
noncomputable def f_X6_mask (h : HP) (x0 : Nat) (x1 : Int32) (x2 : Int32) (x3 : Int32) (x4 : Int32) : Option (HP × Int32) :=
  (f_X6_isNumber x3).bind fun v1 =>
  if v1 = 0 then (
    some (h, (-1))
  ) else (
    ck 5 h x0 <|
    (f_X6_isTable h x0 x1).bind fun v5 =>
    if v5 = 0 then (
      some (h, (-1))
    ) else (
      ck 5 h x0 <|
      (f_X6_isTable h x0 x2).bind fun v9 =>
      if v9 = 0 then (
        some (h, (-1))
      ) else (
        ck 5 h x0 <|
        (f_X6_areLike h x0 x1 x2).bind fun v13 =>
        if v13 = 0 then (
          some (h, (-3))
        ) else (
          (gR 5 h x0 1).bind fun v16 =>
          (aI h v16 x1).bind fun v17 =>
          (gR 5 h x0 2).bind fun v18 =>
          (aI h v18 x1).bind fun v19 =>
          ck 5 h x0 <|
          (f_X6_begin h x0 v17 v19).bind fun h21 =>
          L_X6_mask_56 x0 x1 x2 x4 FU (fun h44 =>
            ck 5 h44 x0 <|
            (f_X6_putAt h44 x0 x3).bind fun (h46, v47) =>
            some (h46, v47)) h21 0
        )
      )
    )
  )
abbrev rmX6_mask : Room := { frames := 3, cells := 0, slots := 0, locals := 68 }
theorem hd_X6_mask : yX6_mask.cls = RX6 ∧ yX6_mask.cls ≠ "java/lang/invoke/MethodHandle" ∧ yX6_mask.cls ≠ "java/lang/invoke/VarHandle" ∧ (parseMethodDescriptor yX6_mask.desc).map (fun d => d.parameters.length) = some 4 := by decide +kernel
set_option maxRecDepth 100000 in
set_option maxHeartbeats 4000000 in
theorem w_X6_mask_70 {p : Program} {l : Launch} {e : Env} {s : State} {m : MethodId} {args : Array Value} {below : List Frame} {meth : Method} {c : Code} {D : va_G} {ad : Nat → Nat} {cy : Nat → ClassId} (E : EE p s m args c cX6_mask 7 (wsM yX6_mask cX6_mask 7 (some .int)) RX6 D cy) (hr : meth.sig.returnType = (some .int)) (hlk : meth.locks = false) {h' : HP} {r : Int32} (x0 : Nat) (x1 : Int32) (x2 : Int32) (x4 : Int32) (x5 : Int32) (x3 : Int32) : ∀ (n : Nat) (k : (HP → Option (HP × Int32))) (h : HP) (x6 : Int32), (∀ (h : HP), k h = some (h', r) → JJ p l e rmX6_mask s m args below meth c 0 0 (MQ below (QV D ad cy (some (.int r)) h') args s 0 0 (Aw ad)) D ad cy (Aw ad) 7 h [(0, .ref (ad x0)), (1, .int x1), (2, .int x2), (3, .int x3), (4, .int x4), (5, .int x5)] 130 []) → L_X6_mask_70 x0 x1 x2 x4 x5 n k h x6 = some (h', r) → JJ p l e rmX6_mask s m args below meth c 0 0 (MQ below (QV D ad cy (some (.int r)) h') args s 0 0 (Aw ad)) D ad cy (Aw ad) 7 h [(0, .ref (ad x0)), (1, .int x1), (2, .int x2), (3, .int x3), (4, .int x4), (5, .int x5), (6, .int x6)] 70 [] := by
  intro n
  induction n with
  | zero => intro k h x6 hk hf; cases hf
  | succ n ih =>
    intro k h x6 hk hf
    unfold L_X6_mask_70 at hf
    refine j_iload E 6 rfl dX6_mask_70 ?_
    refine j_aload_n E 0 rfl dX6_mask_72 rfl ?_
    obtain ⟨v26, ev26, hf⟩ := bs hf
    refine j_getR (ci := 5) (k0 := 2) (T := TX6) (N := 14) E (mI inUX6) rfl (by decide) (mU uw_3_106) ev26 dX6_mask_73 ?_
    refine j_iload_n E 1 rfl dX6_mask_76 rfl ?_
    obtain ⟨v27, ev27, hf⟩ := bs hf
    refine j_aI E ev27 dX6_mask_77 ?_
    refine j_icmp_ge (tgt := 130) E dX6_mask_78 (by decide) (fun z28 => ?_) (fun z28 => ?_)
    · have hf := ifp hf z28
      refine j_perm (lv' := [(0, .ref (ad x0)), (1, .int x1), (2, .int x2), (3, .int x3), (4, .int x4), (5, .int x5)]) [0, 1, 2, 3, 4, 5] rfl ?_
      exact hk h hf
    · have hf := ifn hf z28
      refine j_aload_n E 0 rfl dX6_mask_81 rfl ?_
      refine j_iload_n E 1 rfl dX6_mask_82 rfl ?_
      refine j_iload E 5 rfl dX6_mask_83 ?_
      refine j_iload E 6 rfl dX6_mask_85 ?_
      obtain ⟨k29, hf⟩ := ck_spec hf
      obtain ⟨v30, e31, hf⟩ := bs hf
      refine j_callV (ci := 5) (b := x0) (As := [.int x1, .int x5, .int x6]) (rest := []) (v := (some (.int v30))) E (c_X6_has l D ad cy h x0 x1 x5 x6 e31) (mcw E.1.2.2.2.2 uw_3_210 uw_3_207 uw_3_209 us_2_6 uw_1_6 rfl rfl hd_X6_has ⟨by decide, by decide⟩) rfl k29 rfl rfl (Nat.le_of_ble_eq_true rfl) dX6_mask_87 ⟨Nat.zero_le _, Nat.zero_le _⟩ ?_
      refine j_stk (st' := [.int v30]) rfl ?_
      refine j_if_eq (tgt := 124) E dX6_mask_90 (by decide) (fun z32 => ?_) (fun z32 => ?_)
      · have hf := ifp hf z32
        refine j_iinc (v := (x6 + 1)) (k0 := 6) (lv' := [(6, .int (x6 + 1)), (0, .ref (ad x0)), (1, .int x1), (2, .int x2), (3, .int x3), (4, .int x4), (5, .int x5)]) E dX6_mask_124 rfl (congrArg (fun z => x6 + z) (by decide)) (by decide) rfl ?_
        refine j_goto (tgt := 70) E dX6_mask_127 (by decide) ?_
        refine j_perm (lv' := [(0, .ref (ad x0)), (1, .int x1), (2, .int x2), (3, .int x3), (4, .int x4), (5, .int x5), (6, .int (x6 + 1))]) [1, 2, 3, 4, 5, 6, 0] rfl ?_
        exact ih k h (x6 + 1) hk hf
      · have hf := ifn hf z32
        refine j_aload_n E 0 rfl dX6_mask_93 rfl ?_
        refine j_iload_n E 2 rfl dX6_mask_94 rfl ?_
        refine j_iload E 5 rfl dX6_mask_95 ?_
        refine j_iload E 6 rfl dX6_mask_97 ?_
        obtain ⟨k33, hf⟩ := ck_spec hf
        obtain ⟨v34, e35, hf⟩ := bs hf
        refine j_callV (ci := 5) (b := x0) (As := [.int x2, .int x5, .int x6]) (rest := []) (v := (some (.int v34))) E (c_X6_has l D ad cy h x0 x2 x5 x6 e35) (mcw E.1.2.2.2.2 uw_3_210 uw_3_207 uw_3_209 us_2_6 uw_1_6 rfl rfl hd_X6_has ⟨by decide, by decide⟩) rfl k33 rfl rfl (Nat.le_of_ble_eq_true rfl) dX6_mask_99 ⟨Nat.zero_le _, Nat.zero_le _⟩ ?_
        refine j_stk (st' := [.int v34]) rfl ?_
        refine j_iload E 4 rfl dX6_mask_102 ?_
        refine j_icmp_ne (tgt := 124) E dX6_mask_104 (by decide) (fun z36 => ?_) (fun z36 => ?_)
        · have hf := ifn hf z36
          refine j_iinc (v := (x6 + 1)) (k0 := 6) (lv' := [(6, .int (x6 + 1)), (0, .ref (ad x0)), (1, .int x1), (2, .int x2), (3, .int x3), (4, .int x4), (5, .int x5)]) E dX6_mask_124 rfl (congrArg (fun z => x6 + z) (by decide)) (by decide) rfl ?_
          refine j_goto (tgt := 70) E dX6_mask_127 (by decide) ?_
          refine j_perm (lv' := [(0, .ref (ad x0)), (1, .int x1), (2, .int x2), (3, .int x3), (4, .int x4), (5, .int x5), (6, .int (x6 + 1))]) [1, 2, 3, 4, 5, 6, 0] rfl ?_
          exact ih k h (x6 + 1) hk hf
        · have hf := ifp hf z36
          refine j_aload_n E 0 rfl dX6_mask_107 rfl ?_
          refine j_iload E 5 rfl dX6_mask_108 ?_
          refine j_iload E 6 rfl dX6_mask_110 ?_
          refine j_aload_n E 0 rfl dX6_mask_112 rfl ?_
          refine j_iload_n E 1 rfl dX6_mask_113 rfl ?_
          refine j_iload E 5 rfl dX6_mask_114 ?_
          refine j_iload E 6 rfl dX6_mask_116 ?_
          obtain ⟨k37, hf⟩ := ck_spec hf
          obtain ⟨v38, e39, hf⟩ := bs hf
          refine j_callV (ci := 5) (b := x0) (As := [.int x1, .int x5, .int x6]) (rest := [.int x6, .int x5, .ref (ad x0)]) (v := (some (.long v38))) E (c_X6_holds l D ad cy h x0 x1 x5 x6 e39) (mcw E.1.2.2.2.2 uw_3_206 uw_3_203 uw_3_205 us_2_5 uw_1_6 rfl rfl hd_X6_holds ⟨by decide, by decide⟩) rfl k37 rfl rfl (Nat.le_of_ble_eq_true rfl) dX6_mask_118 ⟨Nat.zero_le _, Nat.zero_le _⟩ ?_
          refine j_stk (st' := [.long v38, .int x6, .int x5, .ref (ad x0)]) rfl ?_
          obtain ⟨k40, hf⟩ := ck_spec hf
          obtain ⟨h41, e42, hf⟩ := bs hf
          refine j_callV (ci := 5) (b := x0) (As := [.int x5, .int x6, .long v38]) (rest := []) (v := none) E (c_X6_keep l D ad cy h x0 x5 x6 v38 e42) (mcw E.1.2.2.2.2 uw_4_1 uw_3_238 uw_4_0 us_2_8 uw_1_6 rfl rfl hd_X6_keep ⟨by decide, by decide⟩) rfl k40 rfl rfl (Nat.le_of_ble_eq_true rfl) dX6_mask_121 ⟨Nat.zero_le _, Nat.zero_le _⟩ ?_
          refine j_stk (st' := []) rfl ?_
          refine j_iinc (v := (x6 + 1)) (k0 := 6) (lv' := [(6, .int (x6 + 1)), (0, .ref (ad x0)), (1, .int x1), (2, .int x2), (3, .int x3), (4, .int x4), (5, .int x5)]) E dX6_mask_124 rfl (congrArg (fun z => x6 + z) (by decide)) (by decide) rfl ?_
          refine j_goto (tgt := 70) E dX6_mask_127 (by decide) ?_
          refine j_perm (lv' := [(0, .ref (ad x0)), (1, .int x1), (2, .int x2), (3, .int x3), (4, .int x4), (5, .int x5), (6, .int (x6 + 1))]) [1, 2, 3, 4, 5, 6, 0] rfl ?_
          exact ih k h41 (x6 + 1) hk hf
set_option maxRecDepth 100000 in
set_option maxHeartbeats 4000000 in
theorem w_X6_mask_56 {p : Program} {l : Launch} {e : Env} {s : State} {m : MethodId} {args : Array Value} {below : List Frame} {meth : Method} {c : Code} {D : va_G} {ad : Nat → Nat} {cy : Nat → ClassId} (E : EE p s m args c cX6_mask 7 (wsM yX6_mask cX6_mask 7 (some .int)) RX6 D cy) (hr : meth.sig.returnType = (some .int)) (hlk : meth.locks = false) {h' : HP} {r : Int32} (x0 : Nat) (x1 : Int32) (x2 : Int32) (x4 : Int32) (x3 : Int32) : ∀ (n : Nat) (k : (HP → Option (HP × Int32))) (h : HP) (x5 : Int32), (∀ (h : HP), k h = some (h', r) → JJ p l e rmX6_mask s m args below meth c 0 0 (MQ below (QV D ad cy (some (.int r)) h') args s 0 0 (Aw ad)) D ad cy (Aw ad) 7 h [(0, .ref (ad x0)), (3, .int x3)] 136 []) → L_X6_mask_56 x0 x1 x2 x4 n k h x5 = some (h', r) → JJ p l e rmX6_mask s m args below meth c 0 0 (MQ below (QV D ad cy (some (.int r)) h') args s 0 0 (Aw ad)) D ad cy (Aw ad) 7 h [(0, .ref (ad x0)), (1, .int x1), (2, .int x2), (3, .int x3), (4, .int x4), (5, .int x5)] 56 [] := by
  intro n
  induction n with
  | zero => intro k h x5 hk hf; cases hf
  | succ n ih =>
    intro k h x5 hk hf
    unfold L_X6_mask_56 at hf
    refine j_iload E 5 rfl dX6_mask_56 ?_
    refine j_aload_n E 0 rfl dX6_mask_58 rfl ?_
    obtain ⟨v23, ev23, hf⟩ := bs hf
    refine j_getR (ci := 5) (k0 := 1) (T := TX6) (N := 14) E (mI inUX6) rfl (by decide) (mU uw_3_105) ev23 dX6_mask_59 ?_
    refine j_iload_n E 1 rfl dX6_mask_62 rfl ?_
    obtain ⟨v24, ev24, hf⟩ := bs hf
    refine j_aI E ev24 dX6_mask_63 ?_
    refine j_icmp_ge (tgt := 136) E dX6_mask_64 (by decide) (fun z25 => ?_) (fun z25 => ?_)
    · have hf := ifp hf z25
      refine j_perm (lv' := [(0, .ref (ad x0)), (3, .int x3)]) [0, 3] rfl ?_
      exact hk h hf
    · have hf := ifn hf z25
      refine j_iconst (v := 0) E dX6_mask_67 (by decide) ?_
      refine j_istore (lv' := [(6, .int 0), (0, .ref (ad x0)), (1, .int x1), (2, .int x2), (3, .int x3), (4, .int x4), (5, .int x5)]) E dX6_mask_68 (by decide) rfl ?_
      refine j_perm (lv' := [(0, .ref (ad x0)), (1, .int x1), (2, .int x2), (3, .int x3), (4, .int x4), (5, .int x5), (6, .int 0)]) [1, 2, 3, 4, 5, 6, 0] rfl ?_
      refine w_X6_mask_70 E hr hlk x0 x1 x2 x4 x5 x3 FU _ h 0 (fun h43 hf => ?_) hf
      refine j_iinc (v := (x5 + 1)) (k0 := 5) (lv' := [(5, .int (x5 + 1)), (0, .ref (ad x0)), (1, .int x1), (2, .int x2), (3, .int x3), (4, .int x4)]) E dX6_mask_130 rfl (congrArg (fun z => x5 + z) (by decide)) (by decide) rfl ?_
      refine j_goto (tgt := 56) E dX6_mask_133 (by decide) ?_
      refine j_perm (lv' := [(0, .ref (ad x0)), (1, .int x1), (2, .int x2), (3, .int x3), (4, .int x4), (5, .int (x5 + 1))]) [1, 2, 3, 4, 5, 0] rfl ?_
      exact ih k h43 (x5 + 1) hk hf
set_option maxRecDepth 100000 in
set_option maxHeartbeats 4000000 in
theorem c_X6_mask (l : Launch) (D : va_G) (ad : Nat → Nat) (cy : Nat → ClassId) (h : HP) (x0 : Nat) (x1 : Int32) (x2 : Int32) (x3 : Int32) (x4 : Int32) {h' : HP} {r : Int32} (hf : f_X6_mask h x0 x1 x2 x3 x4 = some (h', r)) : Met l yX6_mask (wsM yX6_mask cX6_mask 7 (some .int)) rmX6_mask (va_Pc [.ref (ad x0), .int x1, .int x2, .int x3, .int x4] (PW D ad cy h)) (QV D ad cy (some (.int r)) h') 0 0 (Aw ad) := by
  refine met_of (own := RX6) (lv := [(0, .ref (ad x0)), (1, .int x1), (2, .int x2), (3, .int x3), (4, .int x4)]) (by decide) rfl (Nat.le_of_ble_eq_true rfl) rfl (fun p e s m args below meth c E hr hlk => ?_)
  unfold f_X6_mask at hf
  refine j_iload_n E 3 rfl dX6_mask_0 rfl ?_
  obtain ⟨v1, e2, hf⟩ := bs hf
  refine j_callS (As := [.int x3]) (rest := []) (v := (some (.int v1))) E (c_X6_isNumber l D ad cy h x3 e2) (mcs E.1.2.2.2.2 uw_3_154 uw_3_152 uw_3_153 uw_1_6 rfl rfl hd_X6_isNumber ⟨by decide, by decide⟩) rfl rfl (Nat.le_of_ble_eq_true rfl) dX6_mask_1 ⟨Nat.zero_le _, Nat.zero_le _⟩ ?_
  refine j_stk (st' := [.int v1]) rfl ?_
  refine j_if_eq (tgt := 23) E dX6_mask_4 (by decide) (fun z3 => ?_) (fun z3 => ?_)
  · have hf := ifp hf z3
    refine j_iconst (v := (-1)) E dX6_mask_23 (by decide) ?_
    cases hf
    exact j_iret E hr hlk dX6_mask_24
  · have hf := ifn hf z3
    refine j_aload_n E 0 rfl dX6_mask_7 rfl ?_
    refine j_iload_n E 1 rfl dX6_mask_8 rfl ?_
    obtain ⟨k4, hf⟩ := ck_spec hf
    obtain ⟨v5, e6, hf⟩ := bs hf
    refine j_callV (ci := 5) (b := x0) (As := [.int x1]) (rest := []) (v := (some (.int v5))) E (c_X6_isTable l D ad cy h x0 x1 e6) (mcw E.1.2.2.2.2 uw_3_186 uw_3_183 uw_3_185 us_2_2 uw_1_6 rfl rfl hd_X6_isTable ⟨by decide, by decide⟩) rfl k4 rfl rfl (Nat.le_of_ble_eq_true rfl) dX6_mask_9 ⟨Nat.zero_le _, Nat.zero_le _⟩ ?_
    refine j_stk (st' := [.int v5]) rfl ?_
    refine j_if_eq (tgt := 23) E dX6_mask_12 (by decide) (fun z7 => ?_) (fun z7 => ?_)
    · have hf := ifp hf z7
      refine j_iconst (v := (-1)) E dX6_mask_23 (by decide) ?_
      cases hf
      exact j_iret E hr hlk dX6_mask_24
    · have hf := ifn hf z7
      refine j_aload_n E 0 rfl dX6_mask_15 rfl ?_
      refine j_iload_n E 2 rfl dX6_mask_16 rfl ?_
      obtain ⟨k8, hf⟩ := ck_spec hf
      obtain ⟨v9, e10, hf⟩ := bs hf
      refine j_callV (ci := 5) (b := x0) (As := [.int x2]) (rest := []) (v := (some (.int v9))) E (c_X6_isTable l D ad cy h x0 x2 e10) (mcw E.1.2.2.2.2 uw_3_186 uw_3_183 uw_3_185 us_2_2 uw_1_6 rfl rfl hd_X6_isTable ⟨by decide, by decide⟩) rfl k8 rfl rfl (Nat.le_of_ble_eq_true rfl) dX6_mask_17 ⟨Nat.zero_le _, Nat.zero_le _⟩ ?_
      refine j_stk (st' := [.int v9]) rfl ?_
      refine j_if_ne (tgt := 25) E dX6_mask_20 (by decide) (fun z11 => ?_) (fun z11 => ?_)
      · have hf := ifn hf z11
        refine j_aload_n E 0 rfl dX6_mask_25 rfl ?_
        refine j_iload_n E 1 rfl dX6_mask_26 rfl ?_
        refine j_iload_n E 2 rfl dX6_mask_27 rfl ?_
        obtain ⟨k12, hf⟩ := ck_spec hf
        obtain ⟨v13, e14, hf⟩ := bs hf
        refine j_callV (ci := 5) (b := x0) (As := [.int x1, .int x2]) (rest := []) (v := (some (.int v13))) E (c_X6_areLike l D ad cy h x0 x1 x2 e14) (mcw E.1.2.2.2.2 uw_3_237 uw_3_234 uw_3_236 us_2_7 uw_1_6 rfl rfl hd_X6_areLike ⟨by decide, by decide⟩) rfl k12 rfl rfl (Nat.le_of_ble_eq_true rfl) dX6_mask_28 ⟨Nat.zero_le _, Nat.zero_le _⟩ ?_
        refine j_stk (st' := [.int v13]) rfl ?_
        refine j_if_ne (tgt := 37) E dX6_mask_31 (by decide) (fun z15 => ?_) (fun z15 => ?_)
        · have hf := ifn hf z15
          refine j_aload_n E 0 rfl dX6_mask_37 rfl ?_
          refine j_aload_n E 0 rfl dX6_mask_38 rfl ?_
          obtain ⟨v16, ev16, hf⟩ := bs hf
          refine j_getR (ci := 5) (k0 := 1) (T := TX6) (N := 14) E (mI inUX6) rfl (by decide) (mU uw_3_105) ev16 dX6_mask_39 ?_
          refine j_iload_n E 1 rfl dX6_mask_42 rfl ?_
          obtain ⟨v17, ev17, hf⟩ := bs hf
          refine j_aI E ev17 dX6_mask_43 ?_
          refine j_aload_n E 0 rfl dX6_mask_44 rfl ?_
          obtain ⟨v18, ev18, hf⟩ := bs hf
          refine j_getR (ci := 5) (k0 := 2) (T := TX6) (N := 14) E (mI inUX6) rfl (by decide) (mU uw_3_106) ev18 dX6_mask_45 ?_
          refine j_iload_n E 1 rfl dX6_mask_48 rfl ?_
          obtain ⟨v19, ev19, hf⟩ := bs hf
          refine j_aI E ev19 dX6_mask_49 ?_
          obtain ⟨k20, hf⟩ := ck_spec hf
          obtain ⟨h21, e22, hf⟩ := bs hf
          refine j_callV (ci := 5) (b := x0) (As := [.int v17, .int v19]) (rest := []) (v := none) E (c_X6_begin l D ad cy h x0 v17 v19 e22) (mcw E.1.2.2.2.2 uw_3_158 uw_3_155 uw_3_157 us_1_15 uw_1_6 rfl rfl hd_X6_begin ⟨by decide, by decide⟩) rfl k20 rfl rfl (Nat.le_of_ble_eq_true rfl) dX6_mask_50 ⟨Nat.zero_le _, Nat.zero_le _⟩ ?_
          refine j_stk (st' := []) rfl ?_
          refine j_iconst (v := 0) E dX6_mask_53 (by decide) ?_
          refine j_istore (lv' := [(5, .int 0), (0, .ref (ad x0)), (1, .int x1), (2, .int x2), (3, .int x3), (4, .int x4)]) E dX6_mask_54 (by decide) rfl ?_
          refine j_perm (lv' := [(0, .ref (ad x0)), (1, .int x1), (2, .int x2), (3, .int x3), (4, .int x4), (5, .int 0)]) [1, 2, 3, 4, 5, 0] rfl ?_
          refine w_X6_mask_56 E hr hlk x0 x1 x2 x4 x3 FU _ h21 0 (fun h44 hf => ?_) hf
          refine j_aload_n E 0 rfl dX6_mask_136 rfl ?_
          refine j_iload_n E 1 rfl dX6_mask_137 rfl ?_
          obtain ⟨k45, hf⟩ := ck_spec hf
          obtain ⟨⟨h46, v47⟩, e48, hf⟩ := bs hf
          refine j_callV (ci := 5) (b := x0) (As := [.int x3]) (rest := []) (v := (some (.int v47))) E (c_X6_putAt l D ad cy h44 x0 x3 e48) (mcw E.1.2.2.2.2 uw_3_162 uw_3_159 uw_3_161 us_2_0 uw_1_6 rfl rfl hd_X6_putAt ⟨by decide, by decide⟩) rfl k45 rfl rfl (Nat.le_of_ble_eq_true rfl) dX6_mask_138 ⟨Nat.zero_le _, Nat.zero_le _⟩ ?_
          refine j_stk (st' := [.int v47]) rfl ?_
          cases hf
          exact j_iret E hr hlk dX6_mask_141
        · have hf := ifp hf z15
          refine j_bipush (v := (-3)) E dX6_mask_34 (by decide) ?_
          cases hf
          exact j_iret E hr hlk dX6_mask_36
      · have hf := ifp hf z11
        refine j_iconst (v := (-1)) E dX6_mask_23 (by decide) ?_
        cases hf
        exact j_iret E hr hlk dX6_mask_24
noncomputable def L_X6_turn_48 (x0 : Nat) (x1 : Int32) (x3 : Int32) : Nat → (HP → Option (HP × Int32)) → HP → Int32 → Option (HP × Int32)
  | 0, _, _, _ => none
  | n + 1, k, h, x4 =>
      (gR 5 h x0 2).bind fun v18 =>
      (aI h v18 x1).bind fun v19 =>
      if v19 ≤ x4 then (
        k h
      ) else (
        ck 5 h x0 <|
        (f_X6_has h x0 x1 x3 x4).bind fun v22 =>
        if v22 = 0 then (
          L_X6_turn_48 x0 x1 x3 n k h (x4 + 1)
        ) else (
          ck 5 h x0 <|
          (f_X6_holds h x0 x1 x3 x4).bind fun v26 =>
          ck 5 h x0 <|
          (f_X6_keep h x0 x4 x3 v26).bind fun h29 =>
          L_X6_turn_48 x0 x1 x3 n k h29 (x4 + 1)
        )
      )
noncomputable def L_X6_turn_35 (x0 : Nat) (x1 : Int32) : Nat → (HP → Option (HP × Int32)) → HP → Int32 → Option (HP × Int32)
  | 0, _, _, _ => none
  | n + 1, k, h, x3 =>
      (gR 5 h x0 1).bind fun v15 =>
      (aI h v15 x1).bind fun v16 =>
      if v16 ≤ x3 then (
        k h
      ) else (
        L_X6_turn_48 x0 x1 x3 FU (fun h31 =>
          L_X6_turn_35 x0 x1 n k h31 (x3 + 1)) h 0
      )
noncomputable def f_X6_turn (h : HP) (x0 : Nat) (x1 : Int32) (x2 : Int32) : Option (HP × Int32) :=
  (f_X6_isNumber x2).bind fun v1 =>
  if v1 = 0 then (
    some (h, (-1))
  ) else (
    ck 5 h x0 <|
    (f_X6_isTable h x0 x1).bind fun v5 =>
    if v5 = 0 then (
      some (h, (-1))
    ) else (
      (gR 5 h x0 2).bind fun v8 =>
      (aI h v8 x1).bind fun v9 =>
      (gR 5 h x0 1).bind fun v10 =>
      (aI h v10 x1).bind fun v11 =>
      ck 5 h x0 <|
      (f_X6_begin h x0 v9 v11).bind fun h13 =>
      L_X6_turn_35 x0 x1 FU (fun h32 =>
        ck 5 h32 x0 <|
        (f_X6_putAt h32 x0 x2).bind fun (h34, v35) =>
        some (h34, v35)) h13 0
    )
  )
abbrev rmX6_turn : Room := { frames := 3, cells := 0, slots := 0, locals := 68 }
theorem hd_X6_turn : yX6_turn.cls = RX6 ∧ yX6_turn.cls ≠ "java/lang/invoke/MethodHandle" ∧ yX6_turn.cls ≠ "java/lang/invoke/VarHandle" ∧ (parseMethodDescriptor yX6_turn.desc).map (fun d => d.parameters.length) = some 2 := by decide +kernel
set_option maxRecDepth 100000 in
set_option maxHeartbeats 4000000 in
theorem w_X6_turn_48 {p : Program} {l : Launch} {e : Env} {s : State} {m : MethodId} {args : Array Value} {below : List Frame} {meth : Method} {c : Code} {D : va_G} {ad : Nat → Nat} {cy : Nat → ClassId} (E : EE p s m args c cX6_turn 5 (wsM yX6_turn cX6_turn 5 (some .int)) RX6 D cy) (hr : meth.sig.returnType = (some .int)) (hlk : meth.locks = false) {h' : HP} {r : Int32} (x0 : Nat) (x1 : Int32) (x3 : Int32) (x2 : Int32) : ∀ (n : Nat) (k : (HP → Option (HP × Int32))) (h : HP) (x4 : Int32), (∀ (h : HP), k h = some (h', r) → JJ p l e rmX6_turn s m args below meth c 0 0 (MQ below (QV D ad cy (some (.int r)) h') args s 0 0 (Aw ad)) D ad cy (Aw ad) 5 h [(0, .ref (ad x0)), (1, .int x1), (2, .int x2), (3, .int x3)] 91 []) → L_X6_turn_48 x0 x1 x3 n k h x4 = some (h', r) → JJ p l e rmX6_turn s m args below meth c 0 0 (MQ below (QV D ad cy (some (.int r)) h') args s 0 0 (Aw ad)) D ad cy (Aw ad) 5 h [(0, .ref (ad x0)), (1, .int x1), (2, .int x2), (3, .int x3), (4, .int x4)] 48 [] := by
  intro n
  induction n with
  | zero => intro k h x4 hk hf; cases hf
  | succ n ih =>
    intro k h x4 hk hf
    unfold L_X6_turn_48 at hf
    refine j_iload E 4 rfl dX6_turn_48 ?_
    refine j_aload_n E 0 rfl dX6_turn_50 rfl ?_
    obtain ⟨v18, ev18, hf⟩ := bs hf
    refine j_getR (ci := 5) (k0 := 2) (T := TX6) (N := 14) E (mI inUX6) rfl (by decide) (mU uw_3_106) ev18 dX6_turn_51 ?_
    refine j_iload_n E 1 rfl dX6_turn_54 rfl ?_
    obtain ⟨v19, ev19, hf⟩ := bs hf
    refine j_aI E ev19 dX6_turn_55 ?_
    refine j_icmp_ge (tgt := 91) E dX6_turn_56 (by decide) (fun z20 => ?_) (fun z20 => ?_)
    · have hf := ifp hf z20
      refine j_perm (lv' := [(0, .ref (ad x0)), (1, .int x1), (2, .int x2), (3, .int x3)]) [0, 1, 2, 3] rfl ?_
      exact hk h hf
    · have hf := ifn hf z20
      refine j_aload_n E 0 rfl dX6_turn_59 rfl ?_
      refine j_iload_n E 1 rfl dX6_turn_60 rfl ?_
      refine j_iload_n E 3 rfl dX6_turn_61 rfl ?_
      refine j_iload E 4 rfl dX6_turn_62 ?_
      obtain ⟨k21, hf⟩ := ck_spec hf
      obtain ⟨v22, e23, hf⟩ := bs hf
      refine j_callV (ci := 5) (b := x0) (As := [.int x1, .int x3, .int x4]) (rest := []) (v := (some (.int v22))) E (c_X6_has l D ad cy h x0 x1 x3 x4 e23) (mcw E.1.2.2.2.2 uw_3_210 uw_3_207 uw_3_209 us_2_6 uw_1_6 rfl rfl hd_X6_has ⟨by decide, by decide⟩) rfl k21 rfl rfl (Nat.le_of_ble_eq_true rfl) dX6_turn_64 ⟨Nat.zero_le _, Nat.zero_le _⟩ ?_
      refine j_stk (st' := [.int v22]) rfl ?_
      refine j_if_eq (tgt := 85) E dX6_turn_67 (by decide) (fun z24 => ?_) (fun z24 => ?_)
      · have hf := ifp hf z24
        refine j_iinc (v := (x4 + 1)) (k0 := 4) (lv' := [(4, .int (x4 + 1)), (0, .ref (ad x0)), (1, .int x1), (2, .int x2), (3, .int x3)]) E dX6_turn_85 rfl (congrArg (fun z => x4 + z) (by decide)) (by decide) rfl ?_
        refine j_goto (tgt := 48) E dX6_turn_88 (by decide) ?_
        refine j_perm (lv' := [(0, .ref (ad x0)), (1, .int x1), (2, .int x2), (3, .int x3), (4, .int (x4 + 1))]) [1, 2, 3, 4, 0] rfl ?_
        exact ih k h (x4 + 1) hk hf
      · have hf := ifn hf z24
        refine j_aload_n E 0 rfl dX6_turn_70 rfl ?_
        refine j_iload E 4 rfl dX6_turn_71 ?_
        refine j_iload_n E 3 rfl dX6_turn_73 rfl ?_
        refine j_aload_n E 0 rfl dX6_turn_74 rfl ?_
        refine j_iload_n E 1 rfl dX6_turn_75 rfl ?_
        refine j_iload_n E 3 rfl dX6_turn_76 rfl ?_
        refine j_iload E 4 rfl dX6_turn_77 ?_
        obtain ⟨k25, hf⟩ := ck_spec hf
        obtain ⟨v26, e27, hf⟩ := bs hf
        refine j_callV (ci := 5) (b := x0) (As := [.int x1, .int x3, .int x4]) (rest := [.int x3, .int x4, .ref (ad x0)]) (v := (some (.long v26))) E (c_X6_holds l D ad cy h x0 x1 x3 x4 e27) (mcw E.1.2.2.2.2 uw_3_206 uw_3_203 uw_3_205 us_2_5 uw_1_6 rfl rfl hd_X6_holds ⟨by decide, by decide⟩) rfl k25 rfl rfl (Nat.le_of_ble_eq_true rfl) dX6_turn_79 ⟨Nat.zero_le _, Nat.zero_le _⟩ ?_
        refine j_stk (st' := [.long v26, .int x3, .int x4, .ref (ad x0)]) rfl ?_
        obtain ⟨k28, hf⟩ := ck_spec hf
        obtain ⟨h29, e30, hf⟩ := bs hf
        refine j_callV (ci := 5) (b := x0) (As := [.int x4, .int x3, .long v26]) (rest := []) (v := none) E (c_X6_keep l D ad cy h x0 x4 x3 v26 e30) (mcw E.1.2.2.2.2 uw_4_1 uw_3_238 uw_4_0 us_2_8 uw_1_6 rfl rfl hd_X6_keep ⟨by decide, by decide⟩) rfl k28 rfl rfl (Nat.le_of_ble_eq_true rfl) dX6_turn_82 ⟨Nat.zero_le _, Nat.zero_le _⟩ ?_
        refine j_stk (st' := []) rfl ?_
        refine j_iinc (v := (x4 + 1)) (k0 := 4) (lv' := [(4, .int (x4 + 1)), (0, .ref (ad x0)), (1, .int x1), (2, .int x2), (3, .int x3)]) E dX6_turn_85 rfl (congrArg (fun z => x4 + z) (by decide)) (by decide) rfl ?_
        refine j_goto (tgt := 48) E dX6_turn_88 (by decide) ?_
        refine j_perm (lv' := [(0, .ref (ad x0)), (1, .int x1), (2, .int x2), (3, .int x3), (4, .int (x4 + 1))]) [1, 2, 3, 4, 0] rfl ?_
        exact ih k h29 (x4 + 1) hk hf
set_option maxRecDepth 100000 in
set_option maxHeartbeats 4000000 in
theorem w_X6_turn_35 {p : Program} {l : Launch} {e : Env} {s : State} {m : MethodId} {args : Array Value} {below : List Frame} {meth : Method} {c : Code} {D : va_G} {ad : Nat → Nat} {cy : Nat → ClassId} (E : EE p s m args c cX6_turn 5 (wsM yX6_turn cX6_turn 5 (some .int)) RX6 D cy) (hr : meth.sig.returnType = (some .int)) (hlk : meth.locks = false) {h' : HP} {r : Int32} (x0 : Nat) (x1 : Int32) (x2 : Int32) : ∀ (n : Nat) (k : (HP → Option (HP × Int32))) (h : HP) (x3 : Int32), (∀ (h : HP), k h = some (h', r) → JJ p l e rmX6_turn s m args below meth c 0 0 (MQ below (QV D ad cy (some (.int r)) h') args s 0 0 (Aw ad)) D ad cy (Aw ad) 5 h [(0, .ref (ad x0)), (2, .int x2)] 97 []) → L_X6_turn_35 x0 x1 n k h x3 = some (h', r) → JJ p l e rmX6_turn s m args below meth c 0 0 (MQ below (QV D ad cy (some (.int r)) h') args s 0 0 (Aw ad)) D ad cy (Aw ad) 5 h [(0, .ref (ad x0)), (1, .int x1), (2, .int x2), (3, .int x3)] 35 [] := by
  intro n
  induction n with
  | zero => intro k h x3 hk hf; cases hf
  | succ n ih =>
    intro k h x3 hk hf
    unfold L_X6_turn_35 at hf
    refine j_iload_n E 3 rfl dX6_turn_35 rfl ?_
    refine j_aload_n E 0 rfl dX6_turn_36 rfl ?_
    obtain ⟨v15, ev15, hf⟩ := bs hf
    refine j_getR (ci := 5) (k0 := 1) (T := TX6) (N := 14) E (mI inUX6) rfl (by decide) (mU uw_3_105) ev15 dX6_turn_37 ?_
    refine j_iload_n E 1 rfl dX6_turn_40 rfl ?_
    obtain ⟨v16, ev16, hf⟩ := bs hf
    refine j_aI E ev16 dX6_turn_41 ?_
    refine j_icmp_ge (tgt := 97) E dX6_turn_42 (by decide) (fun z17 => ?_) (fun z17 => ?_)
    · have hf := ifp hf z17
      refine j_perm (lv' := [(0, .ref (ad x0)), (2, .int x2)]) [0, 2] rfl ?_
      exact hk h hf
    · have hf := ifn hf z17
      refine j_iconst (v := 0) E dX6_turn_45 (by decide) ?_
      refine j_istore (lv' := [(4, .int 0), (0, .ref (ad x0)), (1, .int x1), (2, .int x2), (3, .int x3)]) E dX6_turn_46 (by decide) rfl ?_
      refine j_perm (lv' := [(0, .ref (ad x0)), (1, .int x1), (2, .int x2), (3, .int x3), (4, .int 0)]) [1, 2, 3, 4, 0] rfl ?_
      refine w_X6_turn_48 E hr hlk x0 x1 x3 x2 FU _ h 0 (fun h31 hf => ?_) hf
      refine j_iinc (v := (x3 + 1)) (k0 := 3) (lv' := [(3, .int (x3 + 1)), (0, .ref (ad x0)), (1, .int x1), (2, .int x2)]) E dX6_turn_91 rfl (congrArg (fun z => x3 + z) (by decide)) (by decide) rfl ?_
      refine j_goto (tgt := 35) E dX6_turn_94 (by decide) ?_
      refine j_perm (lv' := [(0, .ref (ad x0)), (1, .int x1), (2, .int x2), (3, .int (x3 + 1))]) [1, 2, 3, 0] rfl ?_
      exact ih k h31 (x3 + 1) hk hf
set_option maxRecDepth 100000 in
set_option maxHeartbeats 4000000 in
theorem c_X6_turn (l : Launch) (D : va_G) (ad : Nat → Nat) (cy : Nat → ClassId) (h : HP) (x0 : Nat) (x1 : Int32) (x2 : Int32) {h' : HP} {r : Int32} (hf : f_X6_turn h x0 x1 x2 = some (h', r)) : Met l yX6_turn (wsM yX6_turn cX6_turn 5 (some .int)) rmX6_turn (va_Pc [.ref (ad x0), .int x1, .int x2] (PW D ad cy h)) (QV D ad cy (some (.int r)) h') 0 0 (Aw ad) := by
  refine met_of (own := RX6) (lv := [(0, .ref (ad x0)), (1, .int x1), (2, .int x2)]) (by decide) rfl (Nat.le_of_ble_eq_true rfl) rfl (fun p e s m args below meth c E hr hlk => ?_)
  unfold f_X6_turn at hf
  refine j_iload_n E 2 rfl dX6_turn_0 rfl ?_
  obtain ⟨v1, e2, hf⟩ := bs hf
  refine j_callS (As := [.int x2]) (rest := []) (v := (some (.int v1))) E (c_X6_isNumber l D ad cy h x2 e2) (mcs E.1.2.2.2.2 uw_3_154 uw_3_152 uw_3_153 uw_1_6 rfl rfl hd_X6_isNumber ⟨by decide, by decide⟩) rfl rfl (Nat.le_of_ble_eq_true rfl) dX6_turn_1 ⟨Nat.zero_le _, Nat.zero_le _⟩ ?_
  refine j_stk (st' := [.int v1]) rfl ?_
  refine j_if_eq (tgt := 15) E dX6_turn_4 (by decide) (fun z3 => ?_) (fun z3 => ?_)
  · have hf := ifp hf z3
    refine j_iconst (v := (-1)) E dX6_turn_15 (by decide) ?_
    cases hf
    exact j_iret E hr hlk dX6_turn_16
  · have hf := ifn hf z3
    refine j_aload_n E 0 rfl dX6_turn_7 rfl ?_
    refine j_iload_n E 1 rfl dX6_turn_8 rfl ?_
    obtain ⟨k4, hf⟩ := ck_spec hf
    obtain ⟨v5, e6, hf⟩ := bs hf
    refine j_callV (ci := 5) (b := x0) (As := [.int x1]) (rest := []) (v := (some (.int v5))) E (c_X6_isTable l D ad cy h x0 x1 e6) (mcw E.1.2.2.2.2 uw_3_186 uw_3_183 uw_3_185 us_2_2 uw_1_6 rfl rfl hd_X6_isTable ⟨by decide, by decide⟩) rfl k4 rfl rfl (Nat.le_of_ble_eq_true rfl) dX6_turn_9 ⟨Nat.zero_le _, Nat.zero_le _⟩ ?_
    refine j_stk (st' := [.int v5]) rfl ?_
    refine j_if_ne (tgt := 17) E dX6_turn_12 (by decide) (fun z7 => ?_) (fun z7 => ?_)
    · have hf := ifn hf z7
      refine j_aload_n E 0 rfl dX6_turn_17 rfl ?_
      refine j_aload_n E 0 rfl dX6_turn_18 rfl ?_
      obtain ⟨v8, ev8, hf⟩ := bs hf
      refine j_getR (ci := 5) (k0 := 2) (T := TX6) (N := 14) E (mI inUX6) rfl (by decide) (mU uw_3_106) ev8 dX6_turn_19 ?_
      refine j_iload_n E 1 rfl dX6_turn_22 rfl ?_
      obtain ⟨v9, ev9, hf⟩ := bs hf
      refine j_aI E ev9 dX6_turn_23 ?_
      refine j_aload_n E 0 rfl dX6_turn_24 rfl ?_
      obtain ⟨v10, ev10, hf⟩ := bs hf
      refine j_getR (ci := 5) (k0 := 1) (T := TX6) (N := 14) E (mI inUX6) rfl (by decide) (mU uw_3_105) ev10 dX6_turn_25 ?_
      refine j_iload_n E 1 rfl dX6_turn_28 rfl ?_
      obtain ⟨v11, ev11, hf⟩ := bs hf
      refine j_aI E ev11 dX6_turn_29 ?_
      obtain ⟨k12, hf⟩ := ck_spec hf
      obtain ⟨h13, e14, hf⟩ := bs hf
      refine j_callV (ci := 5) (b := x0) (As := [.int v9, .int v11]) (rest := []) (v := none) E (c_X6_begin l D ad cy h x0 v9 v11 e14) (mcw E.1.2.2.2.2 uw_3_158 uw_3_155 uw_3_157 us_1_15 uw_1_6 rfl rfl hd_X6_begin ⟨by decide, by decide⟩) rfl k12 rfl rfl (Nat.le_of_ble_eq_true rfl) dX6_turn_30 ⟨Nat.zero_le _, Nat.zero_le _⟩ ?_
      refine j_stk (st' := []) rfl ?_
      refine j_iconst (v := 0) E dX6_turn_33 (by decide) ?_
      refine j_istore_n (lv' := [(3, .int 0), (0, .ref (ad x0)), (1, .int x1), (2, .int x2)]) E dX6_turn_34 rfl (by decide) rfl ?_
      refine j_perm (lv' := [(0, .ref (ad x0)), (1, .int x1), (2, .int x2), (3, .int 0)]) [1, 2, 3, 0] rfl ?_
      refine w_X6_turn_35 E hr hlk x0 x1 x2 FU _ h13 0 (fun h32 hf => ?_) hf
      refine j_aload_n E 0 rfl dX6_turn_97 rfl ?_
      refine j_iload_n E 1 rfl dX6_turn_98 rfl ?_
      obtain ⟨k33, hf⟩ := ck_spec hf
      obtain ⟨⟨h34, v35⟩, e36, hf⟩ := bs hf
      refine j_callV (ci := 5) (b := x0) (As := [.int x2]) (rest := []) (v := (some (.int v35))) E (c_X6_putAt l D ad cy h32 x0 x2 e36) (mcw E.1.2.2.2.2 uw_3_162 uw_3_159 uw_3_161 us_2_0 uw_1_6 rfl rfl hd_X6_putAt ⟨by decide, by decide⟩) rfl k33 rfl rfl (Nat.le_of_ble_eq_true rfl) dX6_turn_99 ⟨Nat.zero_le _, Nat.zero_le _⟩ ?_
      refine j_stk (st' := [.int v35]) rfl ?_
      cases hf
      exact j_iret E hr hlk dX6_turn_102
    · have hf := ifp hf z7
      refine j_iconst (v := (-1)) E dX6_turn_15 (by decide) ?_
      cases hf
      exact j_iret E hr hlk dX6_turn_16
