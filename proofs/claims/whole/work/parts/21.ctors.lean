def gX2 (h : HP) (a : Nat) : HP := fun k => if k = a then .inl (1, [.int 0, .int 0, .ref (a + 1), .ref (a + 2)]) else if k = a + 1 then .inr (16, .inl (fun _ => 0)) else if k = a + 2 then .inr (256, .inr (.inl (fun _ => 0))) else h k
abbrev rmX2_init : Room := { frames := 1, cells := 2, slots := 272, locals := 30 }
theorem hd_X2_init : yX2_init.cls = RX2 ∧ yX2_init.cls ≠ "java/lang/invoke/MethodHandle" ∧ yX2_init.cls ≠ "java/lang/invoke/VarHandle" ∧ (parseMethodDescriptor yX2_init.desc).map (fun d => d.parameters.length) = some 0 := by decide +kernel
set_option maxRecDepth 100000 in
set_option maxHeartbeats 4000000 in
theorem c_X2_init (l : Launch) (D : va_G) (z : Nat) (cy : Nat → ClassId) (h : HP) (a : Nat) (hv : h a = .inl (1, [.int 0, .int 0, .null, .null])) : Met l yX2_init (wsM yX2_init cX2_init 1 none) rmX2_init (va_Pc [.ref (az z a)] (PN D z cy (a + 1) h)) (QN D z cy (a + 1 + 2) (gX2 h a)) 2 272 (fun q : Nat => z ≤ q) := by
  refine met_ofN (own := RX2) (by decide) rfl rfl (by decide) (fun p e s m args below meth c E hr hlk hnm => ?_)
  refine n_aload_n E 0 rfl dX2_init_0 rfl ?_
  refine n_obj E (mU uw_1_72) (mU uw_1_17) (mU uw_1_18) (by decide) (Nat.le_of_ble_eq_true rfl) dX2_init_1 ?_
  refine n_aload_n E 0 rfl dX2_init_4 rfl ?_
  refine n_iconst (v := 0) E dX2_init_5 (by decide) ?_
  refine n_put (ci := 1) (k0 := 0) (T := TX2) (N := 4) (a := a) (v := .int 0) (cv := .int 0) (fs := [.int 0, .int 0, .null, .null]) (fs' := [.int 0, .int 0, .null, .null]) E (mI inUX2) rfl (by decide) (mU uw_1_73) tyX2 tyX2_ok nmX2 rfl rfl (tyX2_ok 0 (by decide)) rfl rfl (by omega) (by simp [va_up, hv] <;> omega) (Nat.le_of_ble_eq_true rfl) rfl rfl dX2_init_6 ?_
  refine n_aload_n E 0 rfl dX2_init_9 rfl ?_
  refine n_iconst (v := 0) E dX2_init_10 (by decide) ?_
  refine n_put (ci := 1) (k0 := 1) (T := TX2) (N := 4) (a := a) (v := .int 0) (cv := .int 0) (fs := [.int 0, .int 0, .null, .null]) (fs' := [.int 0, .int 0, .null, .null]) E (mI inUX2) rfl (by decide) (mU uw_1_77) tyX2 tyX2_ok nmX2 rfl rfl (tyX2_ok 1 (by decide)) rfl rfl (by omega) (by simp [va_up, hv] <;> omega) (Nat.le_of_ble_eq_true rfl) rfl rfl dX2_init_11 ?_
  refine n_aload_n E 0 rfl dX2_init_14 rfl ?_
  refine n_bipush (v := 16) E dX2_init_15 (by decide) ?_
  refine n_newa_int (N := 16) E (by omega) (mU uw_1_41) (by decide) (by decide) (by decide) (by decide) (by decide) dX2_init_17 ?_
  refine n_putF (ci := 1) (k0 := 2) (T := TX2) (N := 4) (a := a) (v := .ref (a + 1)) (cv := .ref (az z (a + 1))) (fs := [.int 0, .int 0, .null, .null]) (fs' := [.int 0, .int 0, .ref (a + 1), .null]) E (mI inUX2) rfl (by decide) (mU uw_1_80) tyX2 tyX2_ok nmX2 rfl hnm rfl rfl (tyX2_ok 2 (by decide)) rfl rfl (by omega) (by simp [va_up, hv] <;> omega) (Nat.le_of_ble_eq_true rfl) rfl rfl dX2_init_19 ?_
  refine n_aload_n E 0 rfl dX2_init_22 rfl ?_
  refine n_sipush (v := 256) E dX2_init_23 (by decide) ?_
  refine n_newa_long (N := 256) E (by omega) (mU uw_1_42) (by decide) (by decide) (by decide) (by decide) (by decide) dX2_init_26 ?_
  refine n_putF (ci := 1) (k0 := 3) (T := TX2) (N := 4) (a := a) (v := .ref (a + 2)) (cv := .ref (az z (a + 2))) (fs := [.int 0, .int 0, .ref (a + 1), .null]) (fs' := [.int 0, .int 0, .ref (a + 1), .ref (a + 2)]) E (mI inUX2) rfl (by decide) (mU uw_1_81) tyX2 tyX2_ok nmX2 rfl hnm rfl rfl (tyX2_ok 3 (by decide)) rfl rfl (by omega) (by simp [va_up, hv] <;> omega) (Nat.le_of_ble_eq_true rfl) rfl rfl dX2_init_28 ?_
  exact n_vret E (by omega) hr hlk (by
    funext k
    by_cases q0 : k = a
    · subst q0; simp [va_up, gX2] <;> omega
    · by_cases q1 : k = a + 1
      · subst q1; simp [va_up, gX2] <;> omega
      · by_cases q2 : k = a + 2
        · subst q2; simp [va_up, gX2] <;> omega
        · simp [va_up, gX2, q0, q1, q2] <;> omega) dX2_init_31
def gX3 (h : HP) (a : Nat) : HP := fun k => if k = a then .inl (2, [.int 0, .ref (a + 1)]) else if k = a + 1 then .inr (16, .inl (fun _ => 0)) else h k
abbrev rmX3_init : Room := { frames := 1, cells := 1, slots := 16, locals := 30 }
theorem hd_X3_init : yX3_init.cls = RX3 ∧ yX3_init.cls ≠ "java/lang/invoke/MethodHandle" ∧ yX3_init.cls ≠ "java/lang/invoke/VarHandle" ∧ (parseMethodDescriptor yX3_init.desc).map (fun d => d.parameters.length) = some 0 := by decide +kernel
set_option maxRecDepth 100000 in
set_option maxHeartbeats 4000000 in
theorem c_X3_init (l : Launch) (D : va_G) (z : Nat) (cy : Nat → ClassId) (h : HP) (a : Nat) (hv : h a = .inl (2, [.int 0, .null])) : Met l yX3_init (wsM yX3_init cX3_init 1 none) rmX3_init (va_Pc [.ref (az z a)] (PN D z cy (a + 1) h)) (QN D z cy (a + 1 + 1) (gX3 h a)) 1 16 (fun q : Nat => z ≤ q) := by
  refine met_ofN (own := RX3) (by decide) rfl rfl (by decide) (fun p e s m args below meth c E hr hlk hnm => ?_)
  refine n_aload_n E 0 rfl dX3_init_0 rfl ?_
  refine n_obj E (mU uw_1_96) (mU uw_1_17) (mU uw_1_18) (by decide) (Nat.le_of_ble_eq_true rfl) dX3_init_1 ?_
  refine n_aload_n E 0 rfl dX3_init_4 rfl ?_
  refine n_iconst (v := 0) E dX3_init_5 (by decide) ?_
  refine n_put (ci := 2) (k0 := 0) (T := TX3) (N := 2) (a := a) (v := .int 0) (cv := .int 0) (fs := [.int 0, .null]) (fs' := [.int 0, .null]) E (mI inUX3) rfl (by decide) (mU uw_1_97) tyX3 tyX3_ok nmX3 rfl rfl (tyX3_ok 0 (by decide)) rfl rfl (by omega) (by simp [va_up, hv] <;> omega) (Nat.le_of_ble_eq_true rfl) rfl rfl dX3_init_6 ?_
  refine n_aload_n E 0 rfl dX3_init_9 rfl ?_
  refine n_bipush (v := 16) E dX3_init_10 (by decide) ?_
  refine n_newa_int (N := 16) E (by omega) (mU uw_1_41) (by decide) (by decide) (by decide) (by decide) (by decide) dX3_init_12 ?_
  refine n_putF (ci := 2) (k0 := 1) (T := TX3) (N := 2) (a := a) (v := .ref (a + 1)) (cv := .ref (az z (a + 1))) (fs := [.int 0, .null]) (fs' := [.int 0, .ref (a + 1)]) E (mI inUX3) rfl (by decide) (mU uw_1_101) tyX3 tyX3_ok nmX3 rfl hnm rfl rfl (tyX3_ok 1 (by decide)) rfl rfl (by omega) (by simp [va_up, hv] <;> omega) (Nat.le_of_ble_eq_true rfl) rfl rfl dX3_init_14 ?_
  exact n_vret E (by omega) hr hlk (by
    funext k
    by_cases q0 : k = a
    · subst q0; simp [va_up, gX3] <;> omega
    · by_cases q1 : k = a + 1
      · subst q1; simp [va_up, gX3] <;> omega
      · simp [va_up, gX3, q0, q1] <;> omega) dX3_init_17
def gX4 (h : HP) (a : Nat) : HP := fun k => if k = a then .inl (3, [.int 0, .ref (a + 1), .ref (a + 2), .ref (a + 3)]) else if k = a + 1 then .inr (64, .inl (fun _ => 0)) else if k = a + 2 then .inr (64, .inl (fun _ => 0)) else if k = a + 3 then .inr (64, .inr (.inl (fun _ => 0))) else h k
abbrev rmX4_init : Room := { frames := 1, cells := 3, slots := 192, locals := 30 }
theorem hd_X4_init : yX4_init.cls = RX4 ∧ yX4_init.cls ≠ "java/lang/invoke/MethodHandle" ∧ yX4_init.cls ≠ "java/lang/invoke/VarHandle" ∧ (parseMethodDescriptor yX4_init.desc).map (fun d => d.parameters.length) = some 0 := by decide +kernel
set_option maxRecDepth 100000 in
set_option maxHeartbeats 4000000 in
theorem c_X4_init (l : Launch) (D : va_G) (z : Nat) (cy : Nat → ClassId) (h : HP) (a : Nat) (hv : h a = .inl (3, [.int 0, .null, .null, .null])) : Met l yX4_init (wsM yX4_init cX4_init 1 none) rmX4_init (va_Pc [.ref (az z a)] (PN D z cy (a + 1) h)) (QN D z cy (a + 1 + 3) (gX4 h a)) 3 192 (fun q : Nat => z ≤ q) := by
  refine met_ofN (own := RX4) (by decide) rfl rfl (by decide) (fun p e s m args below meth c E hr hlk hnm => ?_)
  refine n_aload_n E 0 rfl dX4_init_0 rfl ?_
  refine n_obj E (mU uw_1_26) (mU uw_1_17) (mU uw_1_18) (by decide) (Nat.le_of_ble_eq_true rfl) dX4_init_1 ?_
  refine n_aload_n E 0 rfl dX4_init_4 rfl ?_
  refine n_iconst (v := 0) E dX4_init_5 (by decide) ?_
  refine n_put (ci := 3) (k0 := 0) (T := TX4) (N := 4) (a := a) (v := .int 0) (cv := .int 0) (fs := [.int 0, .null, .null, .null]) (fs' := [.int 0, .null, .null, .null]) E (mI inUX4) rfl (by decide) (mU uw_1_27) tyX4 tyX4_ok nmX4 rfl rfl (tyX4_ok 0 (by decide)) rfl rfl (by omega) (by simp [va_up, hv] <;> omega) (Nat.le_of_ble_eq_true rfl) rfl rfl dX4_init_6 ?_
  refine n_aload_n E 0 rfl dX4_init_9 rfl ?_
  refine n_bipush (v := 64) E dX4_init_10 (by decide) ?_
  refine n_newa_int (N := 64) E (by omega) (mU uw_1_41) (by decide) (by decide) (by decide) (by decide) (by decide) dX4_init_12 ?_
  refine n_putF (ci := 3) (k0 := 1) (T := TX4) (N := 4) (a := a) (v := .ref (a + 1)) (cv := .ref (az z (a + 1))) (fs := [.int 0, .null, .null, .null]) (fs' := [.int 0, .ref (a + 1), .null, .null]) E (mI inUX4) rfl (by decide) (mU uw_1_29) tyX4 tyX4_ok nmX4 rfl hnm rfl rfl (tyX4_ok 1 (by decide)) rfl rfl (by omega) (by simp [va_up, hv] <;> omega) (Nat.le_of_ble_eq_true rfl) rfl rfl dX4_init_14 ?_
  refine n_aload_n E 0 rfl dX4_init_17 rfl ?_
  refine n_bipush (v := 64) E dX4_init_18 (by decide) ?_
  refine n_newa_int (N := 64) E (by omega) (mU uw_1_41) (by decide) (by decide) (by decide) (by decide) (by decide) dX4_init_20 ?_
  refine n_putF (ci := 3) (k0 := 2) (T := TX4) (N := 4) (a := a) (v := .ref (a + 2)) (cv := .ref (az z (a + 2))) (fs := [.int 0, .ref (a + 1), .null, .null]) (fs' := [.int 0, .ref (a + 1), .ref (a + 2), .null]) E (mI inUX4) rfl (by decide) (mU uw_1_30) tyX4 tyX4_ok nmX4 rfl hnm rfl rfl (tyX4_ok 2 (by decide)) rfl rfl (by omega) (by simp [va_up, hv] <;> omega) (Nat.le_of_ble_eq_true rfl) rfl rfl dX4_init_22 ?_
  refine n_aload_n E 0 rfl dX4_init_25 rfl ?_
  refine n_bipush (v := 64) E dX4_init_26 (by decide) ?_
  refine n_newa_long (N := 64) E (by omega) (mU uw_1_42) (by decide) (by decide) (by decide) (by decide) (by decide) dX4_init_28 ?_
  refine n_putF (ci := 3) (k0 := 3) (T := TX4) (N := 4) (a := a) (v := .ref (a + 3)) (cv := .ref (az z (a + 3))) (fs := [.int 0, .ref (a + 1), .ref (a + 2), .null]) (fs' := [.int 0, .ref (a + 1), .ref (a + 2), .ref (a + 3)]) E (mI inUX4) rfl (by decide) (mU uw_1_31) tyX4 tyX4_ok nmX4 rfl hnm rfl rfl (tyX4_ok 3 (by decide)) rfl rfl (by omega) (by simp [va_up, hv] <;> omega) (Nat.le_of_ble_eq_true rfl) rfl rfl dX4_init_30 ?_
  exact n_vret E (by omega) hr hlk (by
    funext k
    by_cases q0 : k = a
    · subst q0; simp [va_up, gX4] <;> omega
    · by_cases q1 : k = a + 1
      · subst q1; simp [va_up, gX4] <;> omega
      · by_cases q2 : k = a + 2
        · subst q2; simp [va_up, gX4] <;> omega
        · by_cases q3 : k = a + 3
          · subst q3; simp [va_up, gX4] <;> omega
          · simp [va_up, gX4, q0, q1, q2, q3] <;> omega) dX4_init_33
def gX1 (h : HP) (a : Nat) : HP := fun k => if k = a then .inl (0, [.int 0, .ref (a + 1), .ref (a + 2), .ref (a + 3), .ref (a + 4), .ref (a + 5)]) else if k = a + 1 then .inr (16, .inl (fun _ => 0)) else if k = a + 2 then .inr (16, .inl (fun _ => 0)) else if k = a + 3 then .inr (16, .inl (fun _ => 0)) else if k = a + 4 then .inr (16, .inr (.inl (fun _ => 0))) else if k = a + 5 then .inr (16, .inr (.inl (fun _ => 0))) else h k
abbrev rmX1_init : Room := { frames := 1, cells := 5, slots := 80, locals := 30 }
theorem hd_X1_init : yX1_init.cls = RX1 ∧ yX1_init.cls ≠ "java/lang/invoke/MethodHandle" ∧ yX1_init.cls ≠ "java/lang/invoke/VarHandle" ∧ (parseMethodDescriptor yX1_init.desc).map (fun d => d.parameters.length) = some 0 := by decide +kernel
set_option maxRecDepth 100000 in
set_option maxHeartbeats 4000000 in
theorem c_X1_init (l : Launch) (D : va_G) (z : Nat) (cy : Nat → ClassId) (h : HP) (a : Nat) (hv : h a = .inl (0, [.int 0, .null, .null, .null, .null, .null])) : Met l yX1_init (wsM yX1_init cX1_init 1 none) rmX1_init (va_Pc [.ref (az z a)] (PN D z cy (a + 1) h)) (QN D z cy (a + 1 + 5) (gX1 h a)) 5 80 (fun q : Nat => z ≤ q) := by
  refine met_ofN (own := RX1) (by decide) rfl rfl (by decide) (fun p e s m args below meth c E hr hlk hnm => ?_)
  refine n_aload_n E 0 rfl dX1_init_0 rfl ?_
  refine n_obj E (mU uw_1_48) (mU uw_1_17) (mU uw_1_18) (by decide) (Nat.le_of_ble_eq_true rfl) dX1_init_1 ?_
  refine n_aload_n E 0 rfl dX1_init_4 rfl ?_
  refine n_iconst (v := 0) E dX1_init_5 (by decide) ?_
  refine n_put (ci := 0) (k0 := 0) (T := TX1) (N := 6) (a := a) (v := .int 0) (cv := .int 0) (fs := [.int 0, .null, .null, .null, .null, .null]) (fs' := [.int 0, .null, .null, .null, .null, .null]) E (mI inUX1) rfl (by decide) (mU uw_1_49) tyX1 tyX1_ok nmX1 rfl rfl (tyX1_ok 0 (by decide)) rfl rfl (by omega) (by simp [va_up, hv] <;> omega) (Nat.le_of_ble_eq_true rfl) rfl rfl dX1_init_6 ?_
  refine n_aload_n E 0 rfl dX1_init_9 rfl ?_
  refine n_bipush (v := 16) E dX1_init_10 (by decide) ?_
  refine n_newa_int (N := 16) E (by omega) (mU uw_1_41) (by decide) (by decide) (by decide) (by decide) (by decide) dX1_init_12 ?_
  refine n_putF (ci := 0) (k0 := 1) (T := TX1) (N := 6) (a := a) (v := .ref (a + 1)) (cv := .ref (az z (a + 1))) (fs := [.int 0, .null, .null, .null, .null, .null]) (fs' := [.int 0, .ref (a + 1), .null, .null, .null, .null]) E (mI inUX1) rfl (by decide) (mU uw_1_50) tyX1 tyX1_ok nmX1 rfl hnm rfl rfl (tyX1_ok 1 (by decide)) rfl rfl (by omega) (by simp [va_up, hv] <;> omega) (Nat.le_of_ble_eq_true rfl) rfl rfl dX1_init_14 ?_
  refine n_aload_n E 0 rfl dX1_init_17 rfl ?_
  refine n_bipush (v := 16) E dX1_init_18 (by decide) ?_
  refine n_newa_int (N := 16) E (by omega) (mU uw_1_41) (by decide) (by decide) (by decide) (by decide) (by decide) dX1_init_20 ?_
  refine n_putF (ci := 0) (k0 := 2) (T := TX1) (N := 6) (a := a) (v := .ref (a + 2)) (cv := .ref (az z (a + 2))) (fs := [.int 0, .ref (a + 1), .null, .null, .null, .null]) (fs' := [.int 0, .ref (a + 1), .ref (a + 2), .null, .null, .null]) E (mI inUX1) rfl (by decide) (mU uw_1_51) tyX1 tyX1_ok nmX1 rfl hnm rfl rfl (tyX1_ok 2 (by decide)) rfl rfl (by omega) (by simp [va_up, hv] <;> omega) (Nat.le_of_ble_eq_true rfl) rfl rfl dX1_init_22 ?_
  refine n_aload_n E 0 rfl dX1_init_25 rfl ?_
  refine n_bipush (v := 16) E dX1_init_26 (by decide) ?_
  refine n_newa_int (N := 16) E (by omega) (mU uw_1_41) (by decide) (by decide) (by decide) (by decide) (by decide) dX1_init_28 ?_
  refine n_putF (ci := 0) (k0 := 3) (T := TX1) (N := 6) (a := a) (v := .ref (a + 3)) (cv := .ref (az z (a + 3))) (fs := [.int 0, .ref (a + 1), .ref (a + 2), .null, .null, .null]) (fs' := [.int 0, .ref (a + 1), .ref (a + 2), .ref (a + 3), .null, .null]) E (mI inUX1) rfl (by decide) (mU uw_1_52) tyX1 tyX1_ok nmX1 rfl hnm rfl rfl (tyX1_ok 3 (by decide)) rfl rfl (by omega) (by simp [va_up, hv] <;> omega) (Nat.le_of_ble_eq_true rfl) rfl rfl dX1_init_30 ?_
  refine n_aload_n E 0 rfl dX1_init_33 rfl ?_
  refine n_bipush (v := 16) E dX1_init_34 (by decide) ?_
  refine n_newa_long (N := 16) E (by omega) (mU uw_1_42) (by decide) (by decide) (by decide) (by decide) (by decide) dX1_init_36 ?_
  refine n_put (ci := 0) (k0 := 4) (T := TX1) (N := 6) (a := a) (v := .ref (a + 4)) (cv := .ref (az z (a + 4))) (fs := [.int 0, .ref (a + 1), .ref (a + 2), .ref (a + 3), .null, .null]) (fs' := [.int 0, .ref (a + 1), .ref (a + 2), .ref (a + 3), .ref (a + 4), .null]) E (mI inUX1) rfl (by decide) (mU uw_1_53) tyX1 tyX1_ok nmX1 rfl rfl (tyX1_ok 4 (by decide)) rfl rfl (by omega) (by simp [va_up, hv] <;> omega) (Nat.le_of_ble_eq_true rfl) rfl rfl dX1_init_38 ?_
  refine n_aload_n E 0 rfl dX1_init_41 rfl ?_
  refine n_bipush (v := 16) E dX1_init_42 (by decide) ?_
  refine n_newa_long (N := 16) E (by omega) (mU uw_1_42) (by decide) (by decide) (by decide) (by decide) (by decide) dX1_init_44 ?_
  refine n_put (ci := 0) (k0 := 5) (T := TX1) (N := 6) (a := a) (v := .ref (a + 5)) (cv := .ref (az z (a + 5))) (fs := [.int 0, .ref (a + 1), .ref (a + 2), .ref (a + 3), .ref (a + 4), .null]) (fs' := [.int 0, .ref (a + 1), .ref (a + 2), .ref (a + 3), .ref (a + 4), .ref (a + 5)]) E (mI inUX1) rfl (by decide) (mU uw_1_54) tyX1 tyX1_ok nmX1 rfl rfl (tyX1_ok 5 (by decide)) rfl rfl (by omega) (by simp [va_up, hv] <;> omega) (Nat.le_of_ble_eq_true rfl) rfl rfl dX1_init_46 ?_
  exact n_vret E (by omega) hr hlk (by
    funext k
    by_cases q0 : k = a
    · subst q0; simp [va_up, gX1] <;> omega
    · by_cases q1 : k = a + 1
      · subst q1; simp [va_up, gX1] <;> omega
      · by_cases q2 : k = a + 2
        · subst q2; simp [va_up, gX1] <;> omega
        · by_cases q3 : k = a + 3
          · subst q3; simp [va_up, gX1] <;> omega
          · by_cases q4 : k = a + 4
            · subst q4; simp [va_up, gX1] <;> omega
            · by_cases q5 : k = a + 5
              · subst q5; simp [va_up, gX1] <;> omega
              · simp [va_up, gX1, q0, q1, q2, q3, q4, q5] <;> omega) dX1_init_49
def gX6 (h : HP) (a : Nat) : HP := fun k => if k = a then .inl (5, [.ref (a + 1), .ref (a + 2), .ref (a + 3), .ref (a + 4), .ref (a + 5), .int 0, .ref (a + 6), .ref (a + 7), .int 0, .ref (a + 8), .ref (a + 9), .int 0, .ref (a + 10), .ref (a + 11)]) else if k = a + 1 then .inr (9, .inr (.inr (.inl (fun _ => 0)))) else if k = a + 2 then .inr (9, .inl (fun _ => 0)) else if k = a + 3 then .inr (9, .inl (fun _ => 0)) else if k = a + 4 then .inr (2304, .inr (.inr (.inl (fun _ => 0)))) else if k = a + 5 then .inr (2304, .inr (.inl (fun _ => 0))) else if k = a + 6 then .inr (64, .inl (fun _ => 0)) else if k = a + 7 then .inr (64, .inr (.inl (fun _ => 0))) else if k = a + 8 then .inr (16, .inl (fun _ => 0)) else if k = a + 9 then .inr (3000, .inr (.inl (fun _ => 0))) else if k = a + 10 then .inr (16, .inr (.inl (fun _ => 0))) else if k = a + 11 then .inr (16, .inr (.inl (fun _ => 0))) else h k
abbrev rmX6_init : Room := { frames := 1, cells := 11, slots := 7811, locals := 30 }
theorem hd_X6_init : yX6_init.cls = RX6 ∧ yX6_init.cls ≠ "java/lang/invoke/MethodHandle" ∧ yX6_init.cls ≠ "java/lang/invoke/VarHandle" ∧ (parseMethodDescriptor yX6_init.desc).map (fun d => d.parameters.length) = some 0 := by decide +kernel
set_option maxRecDepth 100000 in
set_option maxHeartbeats 4000000 in
theorem c_X6_init (l : Launch) (D : va_G) (z : Nat) (cy : Nat → ClassId) (h : HP) (a : Nat) (hv : h a = .inl (5, [.null, .null, .null, .null, .null, .int 0, .null, .null, .int 0, .null, .null, .int 0, .null, .null])) : Met l yX6_init (wsM yX6_init cX6_init 1 none) rmX6_init (va_Pc [.ref (az z a)] (PN D z cy (a + 1) h)) (QN D z cy (a + 1 + 11) (gX6 h a)) 11 7811 (fun q : Nat => z ≤ q) := by
  refine met_ofN (own := RX6) (by decide) rfl rfl (by decide) (fun p e s m args below meth c E hr hlk hnm => ?_)
  refine n_aload_n E 0 rfl dX6_init_0 rfl ?_
  refine n_obj E (mU uw_3_103) (mU uw_1_17) (mU uw_1_18) (by decide) (Nat.le_of_ble_eq_true rfl) dX6_init_1 ?_
  refine n_aload_n E 0 rfl dX6_init_4 rfl ?_
  refine n_bipush (v := 9) E dX6_init_5 (by decide) ?_
  refine n_newa_boolean (N := 9) E (by omega) (mU uw_3_147) (by decide) (by decide) (by decide) (by decide) (by decide) dX6_init_7 ?_
  refine n_putF (ci := 5) (k0 := 0) (T := TX6) (N := 14) (a := a) (v := .ref (a + 1)) (cv := .ref (az z (a + 1))) (fs := [.null, .null, .null, .null, .null, .int 0, .null, .null, .int 0, .null, .null, .int 0, .null, .null]) (fs' := [.ref (a + 1), .null, .null, .null, .null, .int 0, .null, .null, .int 0, .null, .null, .int 0, .null, .null]) E (mI inUX6) rfl (by decide) (mU uw_3_104) tyX6 tyX6_ok nmX6 rfl hnm rfl rfl (tyX6_ok 0 (by decide)) rfl rfl (by omega) (by simp [va_up, hv] <;> omega) (Nat.le_of_ble_eq_true rfl) rfl rfl dX6_init_9 ?_
  refine n_aload_n E 0 rfl dX6_init_12 rfl ?_
  refine n_bipush (v := 9) E dX6_init_13 (by decide) ?_
  refine n_newa_int (N := 9) E (by omega) (mU uw_1_41) (by decide) (by decide) (by decide) (by decide) (by decide) dX6_init_15 ?_
  refine n_putF (ci := 5) (k0 := 1) (T := TX6) (N := 14) (a := a) (v := .ref (a + 2)) (cv := .ref (az z (a + 2))) (fs := [.ref (a + 1), .null, .null, .null, .null, .int 0, .null, .null, .int 0, .null, .null, .int 0, .null, .null]) (fs' := [.ref (a + 1), .ref (a + 2), .null, .null, .null, .int 0, .null, .null, .int 0, .null, .null, .int 0, .null, .null]) E (mI inUX6) rfl (by decide) (mU uw_3_105) tyX6 tyX6_ok nmX6 rfl hnm rfl rfl (tyX6_ok 1 (by decide)) rfl rfl (by omega) (by simp [va_up, hv] <;> omega) (Nat.le_of_ble_eq_true rfl) rfl rfl dX6_init_17 ?_
  refine n_aload_n E 0 rfl dX6_init_20 rfl ?_
  refine n_bipush (v := 9) E dX6_init_21 (by decide) ?_
  refine n_newa_int (N := 9) E (by omega) (mU uw_1_41) (by decide) (by decide) (by decide) (by decide) (by decide) dX6_init_23 ?_
  refine n_putF (ci := 5) (k0 := 2) (T := TX6) (N := 14) (a := a) (v := .ref (a + 3)) (cv := .ref (az z (a + 3))) (fs := [.ref (a + 1), .ref (a + 2), .null, .null, .null, .int 0, .null, .null, .int 0, .null, .null, .int 0, .null, .null]) (fs' := [.ref (a + 1), .ref (a + 2), .ref (a + 3), .null, .null, .int 0, .null, .null, .int 0, .null, .null, .int 0, .null, .null]) E (mI inUX6) rfl (by decide) (mU uw_3_106) tyX6 tyX6_ok nmX6 rfl hnm rfl rfl (tyX6_ok 2 (by decide)) rfl rfl (by omega) (by simp [va_up, hv] <;> omega) (Nat.le_of_ble_eq_true rfl) rfl rfl dX6_init_25 ?_
  refine n_aload_n E 0 rfl dX6_init_28 rfl ?_
  refine n_sipush (v := 2304) E dX6_init_29 (by decide) ?_
  refine n_newa_boolean (N := 2304) E (by omega) (mU uw_3_147) (by decide) (by decide) (by decide) (by decide) (by decide) dX6_init_32 ?_
  refine n_putF (ci := 5) (k0 := 3) (T := TX6) (N := 14) (a := a) (v := .ref (a + 4)) (cv := .ref (az z (a + 4))) (fs := [.ref (a + 1), .ref (a + 2), .ref (a + 3), .null, .null, .int 0, .null, .null, .int 0, .null, .null, .int 0, .null, .null]) (fs' := [.ref (a + 1), .ref (a + 2), .ref (a + 3), .ref (a + 4), .null, .int 0, .null, .null, .int 0, .null, .null, .int 0, .null, .null]) E (mI inUX6) rfl (by decide) (mU uw_3_107) tyX6 tyX6_ok nmX6 rfl hnm rfl rfl (tyX6_ok 3 (by decide)) rfl rfl (by omega) (by simp [va_up, hv] <;> omega) (Nat.le_of_ble_eq_true rfl) rfl rfl dX6_init_34 ?_
  refine n_aload_n E 0 rfl dX6_init_37 rfl ?_
  refine n_sipush (v := 2304) E dX6_init_38 (by decide) ?_
  refine n_newa_long (N := 2304) E (by omega) (mU uw_1_42) (by decide) (by decide) (by decide) (by decide) (by decide) dX6_init_41 ?_
  refine n_putF (ci := 5) (k0 := 4) (T := TX6) (N := 14) (a := a) (v := .ref (a + 5)) (cv := .ref (az z (a + 5))) (fs := [.ref (a + 1), .ref (a + 2), .ref (a + 3), .ref (a + 4), .null, .int 0, .null, .null, .int 0, .null, .null, .int 0, .null, .null]) (fs' := [.ref (a + 1), .ref (a + 2), .ref (a + 3), .ref (a + 4), .ref (a + 5), .int 0, .null, .null, .int 0, .null, .null, .int 0, .null, .null]) E (mI inUX6) rfl (by decide) (mU uw_3_108) tyX6 tyX6_ok nmX6 rfl hnm rfl rfl (tyX6_ok 4 (by decide)) rfl rfl (by omega) (by simp [va_up, hv] <;> omega) (Nat.le_of_ble_eq_true rfl) rfl rfl dX6_init_43 ?_
  refine n_aload_n E 0 rfl dX6_init_46 rfl ?_
  refine n_bipush (v := 64) E dX6_init_47 (by decide) ?_
  refine n_newa_int (N := 64) E (by omega) (mU uw_1_41) (by decide) (by decide) (by decide) (by decide) (by decide) dX6_init_49 ?_
  refine n_putF (ci := 5) (k0 := 6) (T := TX6) (N := 14) (a := a) (v := .ref (a + 6)) (cv := .ref (az z (a + 6))) (fs := [.ref (a + 1), .ref (a + 2), .ref (a + 3), .ref (a + 4), .ref (a + 5), .int 0, .null, .null, .int 0, .null, .null, .int 0, .null, .null]) (fs' := [.ref (a + 1), .ref (a + 2), .ref (a + 3), .ref (a + 4), .ref (a + 5), .int 0, .ref (a + 6), .null, .int 0, .null, .null, .int 0, .null, .null]) E (mI inUX6) rfl (by decide) (mU uw_3_110) tyX6 tyX6_ok nmX6 rfl hnm rfl rfl (tyX6_ok 6 (by decide)) rfl rfl (by omega) (by simp [va_up, hv] <;> omega) (Nat.le_of_ble_eq_true rfl) rfl rfl dX6_init_51 ?_
  refine n_aload_n E 0 rfl dX6_init_54 rfl ?_
  refine n_bipush (v := 64) E dX6_init_55 (by decide) ?_
  refine n_newa_long (N := 64) E (by omega) (mU uw_1_42) (by decide) (by decide) (by decide) (by decide) (by decide) dX6_init_57 ?_
  refine n_putF (ci := 5) (k0 := 7) (T := TX6) (N := 14) (a := a) (v := .ref (a + 7)) (cv := .ref (az z (a + 7))) (fs := [.ref (a + 1), .ref (a + 2), .ref (a + 3), .ref (a + 4), .ref (a + 5), .int 0, .ref (a + 6), .null, .int 0, .null, .null, .int 0, .null, .null]) (fs' := [.ref (a + 1), .ref (a + 2), .ref (a + 3), .ref (a + 4), .ref (a + 5), .int 0, .ref (a + 6), .ref (a + 7), .int 0, .null, .null, .int 0, .null, .null]) E (mI inUX6) rfl (by decide) (mU uw_3_111) tyX6 tyX6_ok nmX6 rfl hnm rfl rfl (tyX6_ok 7 (by decide)) rfl rfl (by omega) (by simp [va_up, hv] <;> omega) (Nat.le_of_ble_eq_true rfl) rfl rfl dX6_init_59 ?_
  refine n_aload_n E 0 rfl dX6_init_62 rfl ?_
  refine n_bipush (v := 16) E dX6_init_63 (by decide) ?_
  refine n_newa_int (N := 16) E (by omega) (mU uw_1_41) (by decide) (by decide) (by decide) (by decide) (by decide) dX6_init_65 ?_
  refine n_putF (ci := 5) (k0 := 9) (T := TX6) (N := 14) (a := a) (v := .ref (a + 8)) (cv := .ref (az z (a + 8))) (fs := [.ref (a + 1), .ref (a + 2), .ref (a + 3), .ref (a + 4), .ref (a + 5), .int 0, .ref (a + 6), .ref (a + 7), .int 0, .null, .null, .int 0, .null, .null]) (fs' := [.ref (a + 1), .ref (a + 2), .ref (a + 3), .ref (a + 4), .ref (a + 5), .int 0, .ref (a + 6), .ref (a + 7), .int 0, .ref (a + 8), .null, .int 0, .null, .null]) E (mI inUX6) rfl (by decide) (mU uw_3_113) tyX6 tyX6_ok nmX6 rfl hnm rfl rfl (tyX6_ok 9 (by decide)) rfl rfl (by omega) (by simp [va_up, hv] <;> omega) (Nat.le_of_ble_eq_true rfl) rfl rfl dX6_init_67 ?_
  refine n_aload_n E 0 rfl dX6_init_70 rfl ?_
  refine n_sipush (v := 3000) E dX6_init_71 (by decide) ?_
  refine n_newa_long (N := 3000) E (by omega) (mU uw_1_42) (by decide) (by decide) (by decide) (by decide) (by decide) dX6_init_74 ?_
  refine n_putF (ci := 5) (k0 := 10) (T := TX6) (N := 14) (a := a) (v := .ref (a + 9)) (cv := .ref (az z (a + 9))) (fs := [.ref (a + 1), .ref (a + 2), .ref (a + 3), .ref (a + 4), .ref (a + 5), .int 0, .ref (a + 6), .ref (a + 7), .int 0, .ref (a + 8), .null, .int 0, .null, .null]) (fs' := [.ref (a + 1), .ref (a + 2), .ref (a + 3), .ref (a + 4), .ref (a + 5), .int 0, .ref (a + 6), .ref (a + 7), .int 0, .ref (a + 8), .ref (a + 9), .int 0, .null, .null]) E (mI inUX6) rfl (by decide) (mU uw_3_114) tyX6 tyX6_ok nmX6 rfl hnm rfl rfl (tyX6_ok 10 (by decide)) rfl rfl (by omega) (by simp [va_up, hv] <;> omega) (Nat.le_of_ble_eq_true rfl) rfl rfl dX6_init_76 ?_
  refine n_aload_n E 0 rfl dX6_init_79 rfl ?_
  refine n_bipush (v := 16) E dX6_init_80 (by decide) ?_
  refine n_newa_long (N := 16) E (by omega) (mU uw_1_42) (by decide) (by decide) (by decide) (by decide) (by decide) dX6_init_82 ?_
  refine n_putF (ci := 5) (k0 := 12) (T := TX6) (N := 14) (a := a) (v := .ref (a + 10)) (cv := .ref (az z (a + 10))) (fs := [.ref (a + 1), .ref (a + 2), .ref (a + 3), .ref (a + 4), .ref (a + 5), .int 0, .ref (a + 6), .ref (a + 7), .int 0, .ref (a + 8), .ref (a + 9), .int 0, .null, .null]) (fs' := [.ref (a + 1), .ref (a + 2), .ref (a + 3), .ref (a + 4), .ref (a + 5), .int 0, .ref (a + 6), .ref (a + 7), .int 0, .ref (a + 8), .ref (a + 9), .int 0, .ref (a + 10), .null]) E (mI inUX6) rfl (by decide) (mU uw_3_116) tyX6 tyX6_ok nmX6 rfl hnm rfl rfl (tyX6_ok 12 (by decide)) rfl rfl (by omega) (by simp [va_up, hv] <;> omega) (Nat.le_of_ble_eq_true rfl) rfl rfl dX6_init_84 ?_
  refine n_aload_n E 0 rfl dX6_init_87 rfl ?_
  refine n_bipush (v := 16) E dX6_init_88 (by decide) ?_
  refine n_newa_long (N := 16) E (by omega) (mU uw_1_42) (by decide) (by decide) (by decide) (by decide) (by decide) dX6_init_90 ?_
  refine n_putF (ci := 5) (k0 := 13) (T := TX6) (N := 14) (a := a) (v := .ref (a + 11)) (cv := .ref (az z (a + 11))) (fs := [.ref (a + 1), .ref (a + 2), .ref (a + 3), .ref (a + 4), .ref (a + 5), .int 0, .ref (a + 6), .ref (a + 7), .int 0, .ref (a + 8), .ref (a + 9), .int 0, .ref (a + 10), .null]) (fs' := [.ref (a + 1), .ref (a + 2), .ref (a + 3), .ref (a + 4), .ref (a + 5), .int 0, .ref (a + 6), .ref (a + 7), .int 0, .ref (a + 8), .ref (a + 9), .int 0, .ref (a + 10), .ref (a + 11)]) E (mI inUX6) rfl (by decide) (mU uw_3_117) tyX6 tyX6_ok nmX6 rfl hnm rfl rfl (tyX6_ok 13 (by decide)) rfl rfl (by omega) (by simp [va_up, hv] <;> omega) (Nat.le_of_ble_eq_true rfl) rfl rfl dX6_init_92 ?_
  exact n_vret E (by omega) hr hlk (by
    funext k
    by_cases q0 : k = a
    · subst q0; simp [va_up, gX6] <;> omega
    · by_cases q1 : k = a + 1
      · subst q1; simp [va_up, gX6] <;> omega
      · by_cases q2 : k = a + 2
        · subst q2; simp [va_up, gX6] <;> omega
        · by_cases q3 : k = a + 3
          · subst q3; simp [va_up, gX6] <;> omega
          · by_cases q4 : k = a + 4
            · subst q4; simp [va_up, gX6] <;> omega
            · by_cases q5 : k = a + 5
              · subst q5; simp [va_up, gX6] <;> omega
              · by_cases q6 : k = a + 6
                · subst q6; simp [va_up, gX6] <;> omega
                · by_cases q7 : k = a + 7
                  · subst q7; simp [va_up, gX6] <;> omega
                  · by_cases q8 : k = a + 8
                    · subst q8; simp [va_up, gX6] <;> omega
                    · by_cases q9 : k = a + 9
                      · subst q9; simp [va_up, gX6] <;> omega
                      · by_cases q10 : k = a + 10
                        · subst q10; simp [va_up, gX6] <;> omega
                        · by_cases q11 : k = a + 11
                          · subst q11; simp [va_up, gX6] <;> omega
                          · simp [va_up, gX6, q0, q1, q2, q3, q4, q5, q6, q7, q8, q9, q10, q11] <;> omega) dX6_init_95
def hk0 : HP := va_up (fun _ => .inl (9, [])) 0 (.inl (4, [.null, .null, .null, .null, .null, .null]))
def hk1 : HP := va_up hk0 1 (.inr (8, .inr (.inr (.inr (fun _ => none)))))
def hk2 : HP := va_up hk1 0 (.inl (4, [.ref 1, .null, .null, .null, .null, .null]))
def hk3 : HP := va_up hk2 2 (.inl (3, [.int 0, .null, .null, .null]))
def hk4 : HP := gX4 hk3 2
def hk5 : HP := va_up hk4 0 (.inl (4, [.ref 1, .ref 2, .null, .null, .null, .null]))
def hk6 : HP := va_up hk5 6 (.inl (0, [.int 0, .null, .null, .null, .null, .null]))
def hk7 : HP := gX1 hk6 6
def hk8 : HP := va_up hk7 0 (.inl (4, [.ref 1, .ref 2, .ref 6, .null, .null, .null]))
def hk9 : HP := va_up hk8 12 (.inl (1, [.int 0, .int 0, .null, .null]))
def hk10 : HP := gX2 hk9 12
def hk11 : HP := va_up hk10 0 (.inl (4, [.ref 1, .ref 2, .ref 6, .ref 12, .null, .null]))
def hk12 : HP := va_up hk11 15 (.inl (2, [.int 0, .null]))
def hk13 : HP := gX3 hk12 15
def hk14 : HP := va_up hk13 0 (.inl (4, [.ref 1, .ref 2, .ref 6, .ref 12, .ref 15, .null]))
def hk15 : HP := va_up hk14 17 (.inl (2, [.int 0, .null]))
def hk16 : HP := gX3 hk15 17
def hk17 : HP := va_up hk16 0 (.inl (4, [.ref 1, .ref 2, .ref 6, .ref 12, .ref 15, .ref 17]))
def hk18 : HP := va_up hk17 19 (.inl (1, [.int 0, .int 0, .null, .null]))
def hk19 : HP := gX2 hk18 19
def hk20 : HP := va_up hk19 1 (.inr (8, .inr (.inr (.inr (va_up (fun _ => none) 0 (some 19))))))
def hk21 : HP := va_up hk20 22 (.inl (1, [.int 0, .int 0, .null, .null]))
def hk22 : HP := gX2 hk21 22
def hk23 : HP := va_up hk22 1 (.inr (8, .inr (.inr (.inr (va_up (va_up (fun _ => none) 0 (some 19)) 1 (some 22))))))
def hk24 : HP := va_up hk23 25 (.inl (1, [.int 0, .int 0, .null, .null]))
def hk25 : HP := gX2 hk24 25
def hk26 : HP := va_up hk25 1 (.inr (8, .inr (.inr (.inr (va_up (va_up (va_up (fun _ => none) 0 (some 19)) 1 (some 22)) 2 (some 25))))))
def hk27 : HP := va_up hk26 28 (.inl (1, [.int 0, .int 0, .null, .null]))
def hk28 : HP := gX2 hk27 28
def hk29 : HP := va_up hk28 1 (.inr (8, .inr (.inr (.inr (va_up (va_up (va_up (va_up (fun _ => none) 0 (some 19)) 1 (some 22)) 2 (some 25)) 3 (some 28))))))
def hk30 : HP := va_up hk29 31 (.inl (1, [.int 0, .int 0, .null, .null]))
def hk31 : HP := gX2 hk30 31
def hk32 : HP := va_up hk31 1 (.inr (8, .inr (.inr (.inr (va_up (va_up (va_up (va_up (va_up (fun _ => none) 0 (some 19)) 1 (some 22)) 2 (some 25)) 3 (some 28)) 4 (some 31))))))
def hk33 : HP := va_up hk32 34 (.inl (1, [.int 0, .int 0, .null, .null]))
def hk34 : HP := gX2 hk33 34
def hk35 : HP := va_up hk34 1 (.inr (8, .inr (.inr (.inr (va_up (va_up (va_up (va_up (va_up (va_up (fun _ => none) 0 (some 19)) 1 (some 22)) 2 (some 25)) 3 (some 28)) 4 (some 31)) 5 (some 34))))))
def hk36 : HP := va_up hk35 37 (.inl (1, [.int 0, .int 0, .null, .null]))
def hk37 : HP := gX2 hk36 37
def hk38 : HP := va_up hk37 1 (.inr (8, .inr (.inr (.inr (va_up (va_up (va_up (va_up (va_up (va_up (va_up (fun _ => none) 0 (some 19)) 1 (some 22)) 2 (some 25)) 3 (some 28)) 4 (some 31)) 5 (some 34)) 6 (some 37))))))
def hk39 : HP := va_up hk38 40 (.inl (1, [.int 0, .int 0, .null, .null]))
def hk40 : HP := gX2 hk39 40
def hk41 : HP := va_up hk40 1 (.inr (8, .inr (.inr (.inr (va_up (va_up (va_up (va_up (va_up (va_up (va_up (va_up (fun _ => none) 0 (some 19)) 1 (some 22)) 2 (some 25)) 3 (some 28)) 4 (some 31)) 5 (some 34)) 6 (some 37)) 7 (some 40))))))
abbrev rmX5_init : Room := { frames := 2, cells := 42, slots := 2810, locals := 70 }
theorem hd_X5_init : yX5_init.cls = RX5 ∧ yX5_init.cls ≠ "java/lang/invoke/MethodHandle" ∧ yX5_init.cls ≠ "java/lang/invoke/VarHandle" ∧ (parseMethodDescriptor yX5_init.desc).map (fun d => d.parameters.length) = some 0 := by decide +kernel
set_option maxRecDepth 100000 in
set_option maxHeartbeats 4000000 in
theorem c_X5_init (l : Launch) (D : va_G) (z : Nat) (cy : Nat → ClassId) : Met l yX5_init (wsM yX5_init cX5_init 2 none) rmX5_init (va_Pc [.ref (az z 0)] (PN D z cy 1 hk0)) (QN D z cy 43 hk41) 42 2810 (fun q : Nat => z ≤ q) := by
  refine met_ofN (own := RX5) (by decide) rfl rfl (by decide) (fun p e s m args below meth c E hr hlk hnm => ?_)
  refine n_aload_n E 0 rfl dX5_init_0 rfl ?_
  refine n_obj E (mU uw_1_16) (mU uw_1_17) (mU uw_1_18) (by decide) (Nat.le_of_ble_eq_true rfl) dX5_init_1 ?_
  refine n_aload_n E 0 rfl dX5_init_4 rfl ?_
  refine n_bipush (v := 8) E dX5_init_5 (by decide) ?_
  refine n_newq (N := 8) (index := 9) E (by omega) (mU uw_1_19) (by decide) (by decide) (by decide) (by decide) (by decide) dX5_init_7 ?_
  change JN p l e rmX5_init s m args below meth c _ _ _ D z cy 2 2 hk1 _ _ _
  refine n_putF (ci := 4) (k0 := 0) (T := TX5) (N := 6) (a := 0) (v := .ref 1) (cv := .ref (az z 1)) (fs := [.null, .null, .null, .null, .null, .null]) (fs' := [.ref 1, .null, .null, .null, .null, .null]) (h' := hk2) E (mI inUX5) rfl (by decide) (mU uw_1_107) tyX5 tyX5_ok nmX5 rfl hnm rfl rfl (tyX5_ok 0 (by decide)) rfl rfl (by decide) rfl (by decide) rfl rfl dX5_init_10 ?_
  refine n_aload_n E 0 rfl dX5_init_13 rfl ?_
  refine n_new (ci := 3) (T := TX4) (N := 4) (fs := [.int 0, .null, .null, .null]) E (by omega) (mI inUX4) tyX4 tyX4_ok rfl (mU uw_1_21) (mU uw_1_22) (mU uw_1_2) (fun j hj => match j, hj with | 0, _ => rfl | 1, _ => rfl | 2, _ => rfl | 3, _ => rfl | j + 4, hj => absurd hj (by omega)) rfl (by decide) (by decide) dX5_init_14 ?_
  change JN p l e rmX5_init s m args below meth c _ _ _ D z cy 2 3 hk3 _ _ _
  refine n_dup E dX5_init_17 rfl ?_
  refine n_callIN (host := RX5) E (by omega) (c_X4_init l D z cy hk3 2 rfl) (mcni E.1.1.2.2.2.2 E.1.2.2 0 rfl uw_1_25 uw_1_24 uw_1_2 rfl rfl rfl hd_X4_init ⟨by decide, by decide⟩) (Nat.le_of_ble_eq_true rfl) dX5_init_18 ⟨by decide, by decide⟩ ?_
  change JN p l e rmX5_init s m args below meth c _ _ _ D z cy 2 6 hk4 _ _ _
  refine n_putF (ci := 4) (k0 := 1) (T := TX5) (N := 6) (a := 0) (v := .ref 2) (cv := .ref (az z 2)) (fs := [.ref 1, .null, .null, .null, .null, .null]) (fs' := [.ref 1, .ref 2, .null, .null, .null, .null]) (h' := hk5) E (mI inUX5) rfl (by decide) (mU uw_1_108) tyX5 tyX5_ok nmX5 rfl hnm rfl rfl (tyX5_ok 1 (by decide)) rfl rfl (by decide) rfl (by decide) rfl rfl dX5_init_21 ?_
  refine n_aload_n E 0 rfl dX5_init_24 rfl ?_
  refine n_new (ci := 0) (T := TX1) (N := 6) (fs := [.int 0, .null, .null, .null, .null, .null]) E (by omega) (mI inUX1) tyX1 tyX1_ok rfl (mU uw_1_43) (mU uw_1_44) (mU uw_1_3) (fun j hj => match j, hj with | 0, _ => rfl | 1, _ => rfl | 2, _ => rfl | 3, _ => rfl | 4, _ => rfl | 5, _ => rfl | j + 6, hj => absurd hj (by omega)) rfl (by decide) (by decide) dX5_init_25 ?_
  change JN p l e rmX5_init s m args below meth c _ _ _ D z cy 2 7 hk6 _ _ _
  refine n_dup E dX5_init_28 rfl ?_
  refine n_callIN (host := RX5) E (by omega) (c_X1_init l D z cy hk6 6 rfl) (mcni E.1.1.2.2.2.2 E.1.2.2 1 rfl uw_1_47 uw_1_46 uw_1_3 rfl rfl rfl hd_X1_init ⟨by decide, by decide⟩) (Nat.le_of_ble_eq_true rfl) dX5_init_29 ⟨by decide, by decide⟩ ?_
  change JN p l e rmX5_init s m args below meth c _ _ _ D z cy 2 12 hk7 _ _ _
  refine n_putF (ci := 4) (k0 := 2) (T := TX5) (N := 6) (a := 0) (v := .ref 6) (cv := .ref (az z 6)) (fs := [.ref 1, .ref 2, .null, .null, .null, .null]) (fs' := [.ref 1, .ref 2, .ref 6, .null, .null, .null]) (h' := hk8) E (mI inUX5) rfl (by decide) (mU uw_1_109) tyX5 tyX5_ok nmX5 rfl hnm rfl rfl (tyX5_ok 2 (by decide)) rfl rfl (by decide) rfl (by decide) rfl rfl dX5_init_32 ?_
  refine n_aload_n E 0 rfl dX5_init_35 rfl ?_
  refine n_new (ci := 1) (T := TX2) (N := 4) (fs := [.int 0, .int 0, .null, .null]) E (by omega) (mI inUX2) tyX2 tyX2_ok rfl (mU uw_1_19) (mU uw_1_68) (mU uw_1_4) (fun j hj => match j, hj with | 0, _ => rfl | 1, _ => rfl | 2, _ => rfl | 3, _ => rfl | j + 4, hj => absurd hj (by omega)) rfl (by decide) (by decide) dX5_init_36 ?_
  change JN p l e rmX5_init s m args below meth c _ _ _ D z cy 2 13 hk9 _ _ _
  refine n_dup E dX5_init_39 rfl ?_
  refine n_callIN (host := RX5) E (by omega) (c_X2_init l D z cy hk9 12 rfl) (mcni E.1.1.2.2.2.2 E.1.2.2 2 rfl uw_1_71 uw_1_70 uw_1_4 rfl rfl rfl hd_X2_init ⟨by decide, by decide⟩) (Nat.le_of_ble_eq_true rfl) dX5_init_40 ⟨by decide, by decide⟩ ?_
  change JN p l e rmX5_init s m args below meth c _ _ _ D z cy 2 15 hk10 _ _ _
  refine n_put (ci := 4) (k0 := 3) (T := TX5) (N := 6) (a := 0) (v := .ref 12) (cv := .ref (az z 12)) (fs := [.ref 1, .ref 2, .ref 6, .null, .null, .null]) (fs' := [.ref 1, .ref 2, .ref 6, .ref 12, .null, .null]) (h' := hk11) E (mI inUX5) rfl (by decide) (mU uw_1_110) tyX5 tyX5_ok nmX5 rfl rfl (tyX5_ok 3 (by decide)) rfl rfl (by decide) rfl (by decide) rfl rfl dX5_init_43 ?_
  refine n_aload_n E 0 rfl dX5_init_46 rfl ?_
  refine n_new (ci := 2) (T := TX3) (N := 2) (fs := [.int 0, .null]) E (by omega) (mI inUX3) tyX3 tyX3_ok rfl (mU uw_1_91) (mU uw_1_92) (mU uw_1_5) (fun j hj => match j, hj with | 0, _ => rfl | 1, _ => rfl | j + 2, hj => absurd hj (by omega)) rfl (by decide) (by decide) dX5_init_47 ?_
  change JN p l e rmX5_init s m args below meth c _ _ _ D z cy 2 16 hk12 _ _ _
  refine n_dup E dX5_init_50 rfl ?_
  refine n_callIN (host := RX5) E (by omega) (c_X3_init l D z cy hk12 15 rfl) (mcni E.1.1.2.2.2.2 E.1.2.2 3 rfl uw_1_95 uw_1_94 uw_1_5 rfl rfl rfl hd_X3_init ⟨by decide, by decide⟩) (Nat.le_of_ble_eq_true rfl) dX5_init_51 ⟨by decide, by decide⟩ ?_
  change JN p l e rmX5_init s m args below meth c _ _ _ D z cy 2 17 hk13 _ _ _
  refine n_put (ci := 4) (k0 := 4) (T := TX5) (N := 6) (a := 0) (v := .ref 15) (cv := .ref (az z 15)) (fs := [.ref 1, .ref 2, .ref 6, .ref 12, .null, .null]) (fs' := [.ref 1, .ref 2, .ref 6, .ref 12, .ref 15, .null]) (h' := hk14) E (mI inUX5) rfl (by decide) (mU uw_1_111) tyX5 tyX5_ok nmX5 rfl rfl (tyX5_ok 4 (by decide)) rfl rfl (by decide) rfl (by decide) rfl rfl dX5_init_54 ?_
  refine n_aload_n E 0 rfl dX5_init_57 rfl ?_
  refine n_new (ci := 2) (T := TX3) (N := 2) (fs := [.int 0, .null]) E (by omega) (mI inUX3) tyX3 tyX3_ok rfl (mU uw_1_91) (mU uw_1_92) (mU uw_1_5) (fun j hj => match j, hj with | 0, _ => rfl | 1, _ => rfl | j + 2, hj => absurd hj (by omega)) rfl (by decide) (by decide) dX5_init_58 ?_
  change JN p l e rmX5_init s m args below meth c _ _ _ D z cy 2 18 hk15 _ _ _
  refine n_dup E dX5_init_61 rfl ?_
  refine n_callIN (host := RX5) E (by omega) (c_X3_init l D z cy hk15 17 rfl) (mcni E.1.1.2.2.2.2 E.1.2.2 3 rfl uw_1_95 uw_1_94 uw_1_5 rfl rfl rfl hd_X3_init ⟨by decide, by decide⟩) (Nat.le_of_ble_eq_true rfl) dX5_init_62 ⟨by decide, by decide⟩ ?_
  change JN p l e rmX5_init s m args below meth c _ _ _ D z cy 2 19 hk16 _ _ _
  refine n_put (ci := 4) (k0 := 5) (T := TX5) (N := 6) (a := 0) (v := .ref 17) (cv := .ref (az z 17)) (fs := [.ref 1, .ref 2, .ref 6, .ref 12, .ref 15, .null]) (fs' := [.ref 1, .ref 2, .ref 6, .ref 12, .ref 15, .ref 17]) (h' := hk17) E (mI inUX5) rfl (by decide) (mU uw_1_112) tyX5 tyX5_ok nmX5 rfl rfl (tyX5_ok 5 (by decide)) rfl rfl (by decide) rfl (by decide) rfl rfl dX5_init_65 ?_
  refine n_iconst (v := 0) E dX5_init_68 (by decide) ?_
  refine n_istore_n (lv' := [(1, .int 0), (0, .ref (az z 0))]) E dX5_init_69 rfl (by decide) rfl ?_
  refine n_iload_n E 0 rfl dX5_init_70 rfl ?_
  refine n_bipush (v := 8) E dX5_init_71 (by decide) ?_
  refine n_icmp_ge (tgt := 95) E dX5_init_73 (by decide) (fun q => absurd q (by decide)) (fun _ => ?_)
  refine n_aload_n E 1 rfl dX5_init_76 rfl ?_
  refine n_getR (ci := 4) (k0 := 0) (T := TX5) (N := 6) (a := 0) (b := 1) (fs := [.ref 1, .ref 2, .ref 6, .ref 12, .ref 15, .ref 17]) E (mI inUX5) rfl (by decide) (mU uw_1_107) (by decide) rfl rfl dX5_init_77 ?_
  refine n_iload_n E 0 rfl dX5_init_80 rfl ?_
  refine n_new (ci := 1) (T := TX2) (N := 4) (fs := [.int 0, .int 0, .null, .null]) E (by omega) (mI inUX2) tyX2 tyX2_ok rfl (mU uw_1_19) (mU uw_1_68) (mU uw_1_4) (fun j hj => match j, hj with | 0, _ => rfl | 1, _ => rfl | 2, _ => rfl | 3, _ => rfl | j + 4, hj => absurd hj (by omega)) rfl (by decide) (by decide) dX5_init_81 ?_
  change JN p l e rmX5_init s m args below meth c _ _ _ D z cy 2 20 hk18 _ _ _
  refine n_dup E dX5_init_84 rfl ?_
  refine n_callIN (host := RX5) E (by omega) (c_X2_init l D z cy hk18 19 rfl) (mcni E.1.1.2.2.2.2 E.1.2.2 2 rfl uw_1_71 uw_1_70 uw_1_4 rfl rfl rfl hd_X2_init ⟨by decide, by decide⟩) (Nat.le_of_ble_eq_true rfl) dX5_init_85 ⟨by decide, by decide⟩ ?_
  change JN p l e rmX5_init s m args below meth c _ _ _ D z cy 2 22 hk19 _ _ _
  refine n_sG (a := 1) (b := 19) (N := 8) (f := (fun _ => none)) (fs := [.int 0, .int 0, .ref 20, .ref 21]) (h' := hk20) E (by decide) rfl (by decide) rfl (by unfold vp_in; decide) rfl dX5_init_88 ?_
  refine n_iinc (v := 1) (k0 := 0) (lv' := [(1, .int 1), (0, .ref (az z 0))]) E dX5_init_89 rfl (by decide) (by decide) rfl ?_
  refine n_goto (tgt := 70) E dX5_init_92 (by decide) ?_
  refine n_iload_n E 0 rfl dX5_init_70 rfl ?_
  refine n_bipush (v := 8) E dX5_init_71 (by decide) ?_
  refine n_icmp_ge (tgt := 95) E dX5_init_73 (by decide) (fun q => absurd q (by decide)) (fun _ => ?_)
  refine n_aload_n E 1 rfl dX5_init_76 rfl ?_
  refine n_getR (ci := 4) (k0 := 0) (T := TX5) (N := 6) (a := 0) (b := 1) (fs := [.ref 1, .ref 2, .ref 6, .ref 12, .ref 15, .ref 17]) E (mI inUX5) rfl (by decide) (mU uw_1_107) (by decide) rfl rfl dX5_init_77 ?_
  refine n_iload_n E 0 rfl dX5_init_80 rfl ?_
  refine n_new (ci := 1) (T := TX2) (N := 4) (fs := [.int 0, .int 0, .null, .null]) E (by omega) (mI inUX2) tyX2 tyX2_ok rfl (mU uw_1_19) (mU uw_1_68) (mU uw_1_4) (fun j hj => match j, hj with | 0, _ => rfl | 1, _ => rfl | 2, _ => rfl | 3, _ => rfl | j + 4, hj => absurd hj (by omega)) rfl (by decide) (by decide) dX5_init_81 ?_
  change JN p l e rmX5_init s m args below meth c _ _ _ D z cy 2 23 hk21 _ _ _
  refine n_dup E dX5_init_84 rfl ?_
  refine n_callIN (host := RX5) E (by omega) (c_X2_init l D z cy hk21 22 rfl) (mcni E.1.1.2.2.2.2 E.1.2.2 2 rfl uw_1_71 uw_1_70 uw_1_4 rfl rfl rfl hd_X2_init ⟨by decide, by decide⟩) (Nat.le_of_ble_eq_true rfl) dX5_init_85 ⟨by decide, by decide⟩ ?_
  change JN p l e rmX5_init s m args below meth c _ _ _ D z cy 2 25 hk22 _ _ _
  refine n_sG (a := 1) (b := 22) (N := 8) (f := (va_up (fun _ => none) 0 (some 19))) (fs := [.int 0, .int 0, .ref 23, .ref 24]) (h' := hk23) E (by decide) rfl (by decide) rfl (by unfold vp_in; decide) rfl dX5_init_88 ?_
  refine n_iinc (v := 2) (k0 := 0) (lv' := [(1, .int 2), (0, .ref (az z 0))]) E dX5_init_89 rfl (by decide) (by decide) rfl ?_
  refine n_goto (tgt := 70) E dX5_init_92 (by decide) ?_
  refine n_iload_n E 0 rfl dX5_init_70 rfl ?_
  refine n_bipush (v := 8) E dX5_init_71 (by decide) ?_
  refine n_icmp_ge (tgt := 95) E dX5_init_73 (by decide) (fun q => absurd q (by decide)) (fun _ => ?_)
  refine n_aload_n E 1 rfl dX5_init_76 rfl ?_
  refine n_getR (ci := 4) (k0 := 0) (T := TX5) (N := 6) (a := 0) (b := 1) (fs := [.ref 1, .ref 2, .ref 6, .ref 12, .ref 15, .ref 17]) E (mI inUX5) rfl (by decide) (mU uw_1_107) (by decide) rfl rfl dX5_init_77 ?_
  refine n_iload_n E 0 rfl dX5_init_80 rfl ?_
  refine n_new (ci := 1) (T := TX2) (N := 4) (fs := [.int 0, .int 0, .null, .null]) E (by omega) (mI inUX2) tyX2 tyX2_ok rfl (mU uw_1_19) (mU uw_1_68) (mU uw_1_4) (fun j hj => match j, hj with | 0, _ => rfl | 1, _ => rfl | 2, _ => rfl | 3, _ => rfl | j + 4, hj => absurd hj (by omega)) rfl (by decide) (by decide) dX5_init_81 ?_
  change JN p l e rmX5_init s m args below meth c _ _ _ D z cy 2 26 hk24 _ _ _
  refine n_dup E dX5_init_84 rfl ?_
  refine n_callIN (host := RX5) E (by omega) (c_X2_init l D z cy hk24 25 rfl) (mcni E.1.1.2.2.2.2 E.1.2.2 2 rfl uw_1_71 uw_1_70 uw_1_4 rfl rfl rfl hd_X2_init ⟨by decide, by decide⟩) (Nat.le_of_ble_eq_true rfl) dX5_init_85 ⟨by decide, by decide⟩ ?_
  change JN p l e rmX5_init s m args below meth c _ _ _ D z cy 2 28 hk25 _ _ _
  refine n_sG (a := 1) (b := 25) (N := 8) (f := (va_up (va_up (fun _ => none) 0 (some 19)) 1 (some 22))) (fs := [.int 0, .int 0, .ref 26, .ref 27]) (h' := hk26) E (by decide) rfl (by decide) rfl (by unfold vp_in; decide) rfl dX5_init_88 ?_
  refine n_iinc (v := 3) (k0 := 0) (lv' := [(1, .int 3), (0, .ref (az z 0))]) E dX5_init_89 rfl (by decide) (by decide) rfl ?_
  refine n_goto (tgt := 70) E dX5_init_92 (by decide) ?_
  refine n_iload_n E 0 rfl dX5_init_70 rfl ?_
  refine n_bipush (v := 8) E dX5_init_71 (by decide) ?_
  refine n_icmp_ge (tgt := 95) E dX5_init_73 (by decide) (fun q => absurd q (by decide)) (fun _ => ?_)
  refine n_aload_n E 1 rfl dX5_init_76 rfl ?_
  refine n_getR (ci := 4) (k0 := 0) (T := TX5) (N := 6) (a := 0) (b := 1) (fs := [.ref 1, .ref 2, .ref 6, .ref 12, .ref 15, .ref 17]) E (mI inUX5) rfl (by decide) (mU uw_1_107) (by decide) rfl rfl dX5_init_77 ?_
  refine n_iload_n E 0 rfl dX5_init_80 rfl ?_
  refine n_new (ci := 1) (T := TX2) (N := 4) (fs := [.int 0, .int 0, .null, .null]) E (by omega) (mI inUX2) tyX2 tyX2_ok rfl (mU uw_1_19) (mU uw_1_68) (mU uw_1_4) (fun j hj => match j, hj with | 0, _ => rfl | 1, _ => rfl | 2, _ => rfl | 3, _ => rfl | j + 4, hj => absurd hj (by omega)) rfl (by decide) (by decide) dX5_init_81 ?_
  change JN p l e rmX5_init s m args below meth c _ _ _ D z cy 2 29 hk27 _ _ _
  refine n_dup E dX5_init_84 rfl ?_
  refine n_callIN (host := RX5) E (by omega) (c_X2_init l D z cy hk27 28 rfl) (mcni E.1.1.2.2.2.2 E.1.2.2 2 rfl uw_1_71 uw_1_70 uw_1_4 rfl rfl rfl hd_X2_init ⟨by decide, by decide⟩) (Nat.le_of_ble_eq_true rfl) dX5_init_85 ⟨by decide, by decide⟩ ?_
  change JN p l e rmX5_init s m args below meth c _ _ _ D z cy 2 31 hk28 _ _ _
  refine n_sG (a := 1) (b := 28) (N := 8) (f := (va_up (va_up (va_up (fun _ => none) 0 (some 19)) 1 (some 22)) 2 (some 25))) (fs := [.int 0, .int 0, .ref 29, .ref 30]) (h' := hk29) E (by decide) rfl (by decide) rfl (by unfold vp_in; decide) rfl dX5_init_88 ?_
  refine n_iinc (v := 4) (k0 := 0) (lv' := [(1, .int 4), (0, .ref (az z 0))]) E dX5_init_89 rfl (by decide) (by decide) rfl ?_
  refine n_goto (tgt := 70) E dX5_init_92 (by decide) ?_
  refine n_iload_n E 0 rfl dX5_init_70 rfl ?_
  refine n_bipush (v := 8) E dX5_init_71 (by decide) ?_
  refine n_icmp_ge (tgt := 95) E dX5_init_73 (by decide) (fun q => absurd q (by decide)) (fun _ => ?_)
  refine n_aload_n E 1 rfl dX5_init_76 rfl ?_
  refine n_getR (ci := 4) (k0 := 0) (T := TX5) (N := 6) (a := 0) (b := 1) (fs := [.ref 1, .ref 2, .ref 6, .ref 12, .ref 15, .ref 17]) E (mI inUX5) rfl (by decide) (mU uw_1_107) (by decide) rfl rfl dX5_init_77 ?_
  refine n_iload_n E 0 rfl dX5_init_80 rfl ?_
  refine n_new (ci := 1) (T := TX2) (N := 4) (fs := [.int 0, .int 0, .null, .null]) E (by omega) (mI inUX2) tyX2 tyX2_ok rfl (mU uw_1_19) (mU uw_1_68) (mU uw_1_4) (fun j hj => match j, hj with | 0, _ => rfl | 1, _ => rfl | 2, _ => rfl | 3, _ => rfl | j + 4, hj => absurd hj (by omega)) rfl (by decide) (by decide) dX5_init_81 ?_
  change JN p l e rmX5_init s m args below meth c _ _ _ D z cy 2 32 hk30 _ _ _
  refine n_dup E dX5_init_84 rfl ?_
  refine n_callIN (host := RX5) E (by omega) (c_X2_init l D z cy hk30 31 rfl) (mcni E.1.1.2.2.2.2 E.1.2.2 2 rfl uw_1_71 uw_1_70 uw_1_4 rfl rfl rfl hd_X2_init ⟨by decide, by decide⟩) (Nat.le_of_ble_eq_true rfl) dX5_init_85 ⟨by decide, by decide⟩ ?_
  change JN p l e rmX5_init s m args below meth c _ _ _ D z cy 2 34 hk31 _ _ _
  refine n_sG (a := 1) (b := 31) (N := 8) (f := (va_up (va_up (va_up (va_up (fun _ => none) 0 (some 19)) 1 (some 22)) 2 (some 25)) 3 (some 28))) (fs := [.int 0, .int 0, .ref 32, .ref 33]) (h' := hk32) E (by decide) rfl (by decide) rfl (by unfold vp_in; decide) rfl dX5_init_88 ?_
  refine n_iinc (v := 5) (k0 := 0) (lv' := [(1, .int 5), (0, .ref (az z 0))]) E dX5_init_89 rfl (by decide) (by decide) rfl ?_
  refine n_goto (tgt := 70) E dX5_init_92 (by decide) ?_
  refine n_iload_n E 0 rfl dX5_init_70 rfl ?_
  refine n_bipush (v := 8) E dX5_init_71 (by decide) ?_
  refine n_icmp_ge (tgt := 95) E dX5_init_73 (by decide) (fun q => absurd q (by decide)) (fun _ => ?_)
  refine n_aload_n E 1 rfl dX5_init_76 rfl ?_
  refine n_getR (ci := 4) (k0 := 0) (T := TX5) (N := 6) (a := 0) (b := 1) (fs := [.ref 1, .ref 2, .ref 6, .ref 12, .ref 15, .ref 17]) E (mI inUX5) rfl (by decide) (mU uw_1_107) (by decide) rfl rfl dX5_init_77 ?_
  refine n_iload_n E 0 rfl dX5_init_80 rfl ?_
  refine n_new (ci := 1) (T := TX2) (N := 4) (fs := [.int 0, .int 0, .null, .null]) E (by omega) (mI inUX2) tyX2 tyX2_ok rfl (mU uw_1_19) (mU uw_1_68) (mU uw_1_4) (fun j hj => match j, hj with | 0, _ => rfl | 1, _ => rfl | 2, _ => rfl | 3, _ => rfl | j + 4, hj => absurd hj (by omega)) rfl (by decide) (by decide) dX5_init_81 ?_
  change JN p l e rmX5_init s m args below meth c _ _ _ D z cy 2 35 hk33 _ _ _
  refine n_dup E dX5_init_84 rfl ?_
  refine n_callIN (host := RX5) E (by omega) (c_X2_init l D z cy hk33 34 rfl) (mcni E.1.1.2.2.2.2 E.1.2.2 2 rfl uw_1_71 uw_1_70 uw_1_4 rfl rfl rfl hd_X2_init ⟨by decide, by decide⟩) (Nat.le_of_ble_eq_true rfl) dX5_init_85 ⟨by decide, by decide⟩ ?_
  change JN p l e rmX5_init s m args below meth c _ _ _ D z cy 2 37 hk34 _ _ _
  refine n_sG (a := 1) (b := 34) (N := 8) (f := (va_up (va_up (va_up (va_up (va_up (fun _ => none) 0 (some 19)) 1 (some 22)) 2 (some 25)) 3 (some 28)) 4 (some 31))) (fs := [.int 0, .int 0, .ref 35, .ref 36]) (h' := hk35) E (by decide) rfl (by decide) rfl (by unfold vp_in; decide) rfl dX5_init_88 ?_
  refine n_iinc (v := 6) (k0 := 0) (lv' := [(1, .int 6), (0, .ref (az z 0))]) E dX5_init_89 rfl (by decide) (by decide) rfl ?_
  refine n_goto (tgt := 70) E dX5_init_92 (by decide) ?_
  refine n_iload_n E 0 rfl dX5_init_70 rfl ?_
  refine n_bipush (v := 8) E dX5_init_71 (by decide) ?_
  refine n_icmp_ge (tgt := 95) E dX5_init_73 (by decide) (fun q => absurd q (by decide)) (fun _ => ?_)
  refine n_aload_n E 1 rfl dX5_init_76 rfl ?_
  refine n_getR (ci := 4) (k0 := 0) (T := TX5) (N := 6) (a := 0) (b := 1) (fs := [.ref 1, .ref 2, .ref 6, .ref 12, .ref 15, .ref 17]) E (mI inUX5) rfl (by decide) (mU uw_1_107) (by decide) rfl rfl dX5_init_77 ?_
  refine n_iload_n E 0 rfl dX5_init_80 rfl ?_
  refine n_new (ci := 1) (T := TX2) (N := 4) (fs := [.int 0, .int 0, .null, .null]) E (by omega) (mI inUX2) tyX2 tyX2_ok rfl (mU uw_1_19) (mU uw_1_68) (mU uw_1_4) (fun j hj => match j, hj with | 0, _ => rfl | 1, _ => rfl | 2, _ => rfl | 3, _ => rfl | j + 4, hj => absurd hj (by omega)) rfl (by decide) (by decide) dX5_init_81 ?_
  change JN p l e rmX5_init s m args below meth c _ _ _ D z cy 2 38 hk36 _ _ _
  refine n_dup E dX5_init_84 rfl ?_
  refine n_callIN (host := RX5) E (by omega) (c_X2_init l D z cy hk36 37 rfl) (mcni E.1.1.2.2.2.2 E.1.2.2 2 rfl uw_1_71 uw_1_70 uw_1_4 rfl rfl rfl hd_X2_init ⟨by decide, by decide⟩) (Nat.le_of_ble_eq_true rfl) dX5_init_85 ⟨by decide, by decide⟩ ?_
  change JN p l e rmX5_init s m args below meth c _ _ _ D z cy 2 40 hk37 _ _ _
  refine n_sG (a := 1) (b := 37) (N := 8) (f := (va_up (va_up (va_up (va_up (va_up (va_up (fun _ => none) 0 (some 19)) 1 (some 22)) 2 (some 25)) 3 (some 28)) 4 (some 31)) 5 (some 34))) (fs := [.int 0, .int 0, .ref 38, .ref 39]) (h' := hk38) E (by decide) rfl (by decide) rfl (by unfold vp_in; decide) rfl dX5_init_88 ?_
  refine n_iinc (v := 7) (k0 := 0) (lv' := [(1, .int 7), (0, .ref (az z 0))]) E dX5_init_89 rfl (by decide) (by decide) rfl ?_
  refine n_goto (tgt := 70) E dX5_init_92 (by decide) ?_
  refine n_iload_n E 0 rfl dX5_init_70 rfl ?_
  refine n_bipush (v := 8) E dX5_init_71 (by decide) ?_
  refine n_icmp_ge (tgt := 95) E dX5_init_73 (by decide) (fun q => absurd q (by decide)) (fun _ => ?_)
  refine n_aload_n E 1 rfl dX5_init_76 rfl ?_
  refine n_getR (ci := 4) (k0 := 0) (T := TX5) (N := 6) (a := 0) (b := 1) (fs := [.ref 1, .ref 2, .ref 6, .ref 12, .ref 15, .ref 17]) E (mI inUX5) rfl (by decide) (mU uw_1_107) (by decide) rfl rfl dX5_init_77 ?_
  refine n_iload_n E 0 rfl dX5_init_80 rfl ?_
  refine n_new (ci := 1) (T := TX2) (N := 4) (fs := [.int 0, .int 0, .null, .null]) E (by omega) (mI inUX2) tyX2 tyX2_ok rfl (mU uw_1_19) (mU uw_1_68) (mU uw_1_4) (fun j hj => match j, hj with | 0, _ => rfl | 1, _ => rfl | 2, _ => rfl | 3, _ => rfl | j + 4, hj => absurd hj (by omega)) rfl (by decide) (by decide) dX5_init_81 ?_
  change JN p l e rmX5_init s m args below meth c _ _ _ D z cy 2 41 hk39 _ _ _
  refine n_dup E dX5_init_84 rfl ?_
  refine n_callIN (host := RX5) E (by omega) (c_X2_init l D z cy hk39 40 rfl) (mcni E.1.1.2.2.2.2 E.1.2.2 2 rfl uw_1_71 uw_1_70 uw_1_4 rfl rfl rfl hd_X2_init ⟨by decide, by decide⟩) (Nat.le_of_ble_eq_true rfl) dX5_init_85 ⟨by decide, by decide⟩ ?_
  change JN p l e rmX5_init s m args below meth c _ _ _ D z cy 2 43 hk40 _ _ _
  refine n_sG (a := 1) (b := 40) (N := 8) (f := (va_up (va_up (va_up (va_up (va_up (va_up (va_up (fun _ => none) 0 (some 19)) 1 (some 22)) 2 (some 25)) 3 (some 28)) 4 (some 31)) 5 (some 34)) 6 (some 37))) (fs := [.int 0, .int 0, .ref 41, .ref 42]) (h' := hk41) E (by decide) rfl (by decide) rfl (by unfold vp_in; decide) rfl dX5_init_88 ?_
  refine n_iinc (v := 8) (k0 := 0) (lv' := [(1, .int 8), (0, .ref (az z 0))]) E dX5_init_89 rfl (by decide) (by decide) rfl ?_
  refine n_goto (tgt := 70) E dX5_init_92 (by decide) ?_
  refine n_iload_n E 0 rfl dX5_init_70 rfl ?_
  refine n_bipush (v := 8) E dX5_init_71 (by decide) ?_
  refine n_icmp_ge (tgt := 95) E dX5_init_73 (by decide) (fun _ => ?_) (fun q => absurd (by decide) q)
  exact n_vret E (by omega) hr hlk rfl dX5_init_95
