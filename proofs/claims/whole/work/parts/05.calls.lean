section CALLS
variable {p : Program} {l : Launch} {e : Env} {R : Room} {s : State} {m : MethodId} {args : Array Value} {below : List Frame} {meth : Method} {c : Code} {cells slots : Nat} {Q : State → Prop} {D : va_G} {ad : Nat → Nat} {cy : Nat → ClassId} {A : Nat → Prop} {nL : Nat} {h h' : HP} {lv : List (Nat × Value)} {pc : Nat} {st : List Value} {cc : ByteArray} {Ts : List Cond} {own : String}
theorem j_sG (E : EE p s m args c cc nL Ts own D cy) {a b : Nat} {i : Int32} (hv : sG h a i b = some h') (hd : decode cc pc = .ok (.aastore, 1)) (k : JJ p l e R s m args below meth c cells slots Q D ad cy A nL h' lv (pc + 1) st) : JJ p l e R s m args below meth c cells slots Q D ad cy A nL h lv pc (.ref (ad b) :: .int i :: .ref (ad a) :: st) := by
  intro H locs ls w q
  obtain ⟨ha, ho, n, f, h1, h2, rfl⟩ := sG_spec hv
  obtain ⟨hb, fs, h3⟩ := iO_spec ho
  refine va_astq (D := D) (r := (RX2, TX2, 4)) E.1.1 E.1.2.1 E.2.1 w.1 w.2.1 w.2.2 a 3 b 1 (wl_at ha h1) rfl (wl_at hb h3) rfl h2 hd (fun H1 locs1 hP hD hS => ?_)
  have e : (wl ad cy h).set a (ad a, .inl (cy 3, n, .inr (.inr (.inr (.inr (va_up (fun j => (f j).map ad) i.toNatClampNeg (some (ad b)))))))) = wl ad cy (va_up h a (.inr (n, .inr (.inr (.inr (va_up f i.toNatClampNeg (some b))))))) := by
    rw [← wl_set ha]
    have e2 : (fun j => (va_up f i.toNatClampNeg (some b) j).map ad) = va_up (fun j => (f j).map ad) i.toNatClampNeg (some (ad b)) := by
      funext j
      by_cases hj : j = i.toNatClampNeg
      · subst hj; simp [va_up]
      · simp [va_up, hj]
    simp only [cnE, e2]
  rw [e] at hP hD
  exact k H1 locs1 ls ⟨hP, hD, hS⟩ q
theorem j_cpI (E : EE p s m args c cc nL Ts own D cy) {a b index : Nat} {sp dp n : Int32} (hlink : Cond.methodLink own index arraycopyName ∈ Ts) (hnat : Cond.native arraycopyName ∈ Ts) (hstat : Cond.static arraycopyName ∈ Ts) (hini : Cond.initialized "java/lang/System" ∈ Ts) (hfr : 1 ≤ R.frames) (hlo : (st.map fun v => v.category).sum + (nativeFrameWords "java/lang/System" "arraycopy" 5 + 11) ≤ R.locals) (hv : cpI h a sp b dp n = some h') (hd : decode cc pc = .ok (.invokestatic index, 3)) (k : JJ p l e R s m args below meth c cells slots Q D ad cy A nL h' lv (pc + 3) st) : JJ p l e R s m args below meth c cells slots Q D ad cy A nL h lv pc (.int n :: .int dp :: .ref (ad b) :: .int sp :: .ref (ad a) :: st) := by
  intro H locs ls w q
  obtain ⟨ha, hb, n0, f, n1, g, h1, h2, g1, g2, g3, g4, g5, rfl⟩ := cpI_spec hv
  refine va_copyi (D := D) E.1.1 E.1.2.1 (E.1.2.2.1.trans q.1.symm) E.1.2.2.2.1 (E.1.2.2.2.2 _ hlink) (E.1.2.2.2.2 _ hnat) (E.1.2.2.2.2 _ hstat) (E.1.2.2.2.2 _ hini) E.2.1 w.1 w.2.1 w.2.2 a b 0 0 (wl_at ha h1) (wl_at hb h2) rfl rfl rfl g1 g2 g3 g4 g5 (fun _ _ => rfl) hfr hlo hd (fun H1 locs1 hP hD hS => ?_)
  exact k H1 locs1 ls ⟨by rw [← wl_set hb]; exact hP, by rw [← wl_set hb]; exact hD, hS⟩ q
theorem j_cpJ (E : EE p s m args c cc nL Ts own D cy) {a b index : Nat} {sp dp n : Int32} (hlink : Cond.methodLink own index arraycopyName ∈ Ts) (hnat : Cond.native arraycopyName ∈ Ts) (hstat : Cond.static arraycopyName ∈ Ts) (hini : Cond.initialized "java/lang/System" ∈ Ts) (hfr : 1 ≤ R.frames) (hlo : (st.map fun v => v.category).sum + (nativeFrameWords "java/lang/System" "arraycopy" 5 + 11) ≤ R.locals) (hv : cpJ h a sp b dp n = some h') (hd : decode cc pc = .ok (.invokestatic index, 3)) (k : JJ p l e R s m args below meth c cells slots Q D ad cy A nL h' lv (pc + 3) st) : JJ p l e R s m args below meth c cells slots Q D ad cy A nL h lv pc (.int n :: .int dp :: .ref (ad b) :: .int sp :: .ref (ad a) :: st) := by
  intro H locs ls w q
  obtain ⟨ha, hb, n0, f, n1, g, h1, h2, g1, g2, g3, g4, g5, rfl⟩ := cpJ_spec hv
  refine va_copyl (D := D) E.1.1 E.1.2.1 (E.1.2.2.1.trans q.1.symm) E.1.2.2.2.1 (E.1.2.2.2.2 _ hlink) (E.1.2.2.2.2 _ hnat) (E.1.2.2.2.2 _ hstat) (E.1.2.2.2.2 _ hini) E.2.1 w.1 w.2.1 w.2.2 a b 1 1 (wl_at ha h1) (wl_at hb h2) rfl rfl rfl g1 g2 g3 g4 g5 (fun _ _ => rfl) hfr hlo hd (fun H1 locs1 hP hD hS => ?_)
  exact k H1 locs1 ls ⟨by rw [← wl_set hb]; exact hP, by rw [← wl_set hb]; exact hD, hS⟩ q
theorem j_run {v : Option Value} {st0 rest : List Value} {a : Array Value} (run : ∀ (H : Heap) (locs : List Loc) (ls : Array Slot), Wd D ad cy A s.heap H locs h → lv_has ls nL lv → va_Run p l e R s m args below meth c H locs cells slots 0 0 (F0 m pc ls st0) rest (QV D ad cy v h' a) (Aw ad)) (k : JJ p l e R s m args below meth c cells slots Q D ad cy A nL h' lv (pc + 3) (v.toList ++ rest)) : JJ p l e R s m args below meth c cells slots Q D ad cy A nL h lv pc st0 := by
  intro H locs ls w q T hT X
  obtain ⟨v', st₀, t, T', L, h0, X', hL, e1, e2, ⟨hv, hPW, hF⟩, st⟩ := run H locs ls w q T hT X
  cases hv
  have hA := w.A
  obtain ⟨hz, hk⟩ := hF
  rw [h0] at hz hk
  have hS := w.2.2
  obtain ⟨t2, a1, b1⟩ := k T'.heap (locs ++ L) ls ⟨by rw [e1]; exact hPW.1, hPW.2.2.1.weaken (fun _ q _ z => hA q.1 z), Nat.le_trans hS.1 (by rw [e1]; exact hz), fun q h1 h2 => by rw [e1, hk q (Nat.lt_of_lt_of_le h1 hS.1) (fun z => h2 (hA q z))]; exact hS.2.1 q h1 h2, fun q hq => by
      rcases List.mem_append.mp hq with h | h
      · exact hS.2.2 q h
      · exact hA _ (hL q h)⟩ q T' rfl X'
  exact ⟨t2, st t2 a1, b1⟩
theorem j_callV (E : EE p s m args c cc nL Ts own D cy) {y : MethodName} {ws : List Cond} {rm : Room} {bytes : ByteArray} {maxL n index : Nat} {ret : Option FieldType} {As rest st0 : List Value} {v : Option Value} {C : String} {T : u_T} {N ci b : Nat} (hM : Met l y ws rm (va_Pc (.ref (ad b) :: As) (PW D ad cy h)) (QV D ad cy v h') 0 0 (Aw ad)) (cw : CallW R s args own C index y bytes maxL ret ws rm 0 0 n) (hc : vwCl[ci]? = some (C, T, N)) (hb : iO ci h b = true) (hn : As.length = n) (hst : st0 = As.reverse ++ .ref (ad b) :: rest) (hW : (rest.map fun v => v.category).sum ≤ 8) (hd : decode cc pc = .ok (.invokevirtual index, 3)) (hf : cells ≤ R.cells ∧ slots ≤ R.slots) (k : JJ p l e R s m args below meth c cells slots Q D ad cy A nL h' lv (pc + 3) (v.toList ++ rest)) : JJ p l e R s m args below meth c cells slots Q D ad cy A nL h lv pc st0 := by
  obtain ⟨hb1, fs, hb2⟩ := iO_spec hb
  exact j_run (a := (Value.ref (ad b) :: As).toArray) (fun H locs ls w q => va_runV E.1 hM cw ⟨PW.blind, va_recv E.2.1 w.1 hc (wl_at hb1 hb2), fun U hU hW => ⟨rfl, w.PW E.2.1 E.2.2 hU hW⟩⟩ rfl hn q.1 hst (lv_room hW) hd hf) k
theorem j_callS (E : EE p s m args c cc nL Ts own D cy) {y : MethodName} {ws : List Cond} {rm : Room} {bytes : ByteArray} {maxL n index : Nat} {ret : Option FieldType} {As rest st0 : List Value} {v : Option Value} (hM : Met l y ws rm (va_Pc As (PW D ad cy h)) (QV D ad cy v h') 0 0 (Aw ad)) (cw : CallB R s args own index y bytes maxL ret ws rm 0 0 n ∧ (Cond.static y).before args s = true) (hn : As.length = n) (hst : st0 = As.reverse ++ rest) (hW : (rest.map fun v => v.category).sum ≤ 8) (hd : decode cc pc = .ok (.invokestatic index, 3)) (hf : cells ≤ R.cells ∧ slots ≤ R.slots) (k : JJ p l e R s m args below meth c cells slots Q D ad cy A nL h' lv (pc + 3) (v.toList ++ rest)) : JJ p l e R s m args below meth c cells slots Q D ad cy A nL h lv pc st0 :=
  j_run (a := As.toArray) (fun H locs ls w q => va_runS E.1 hM cw ⟨PW.blind, fun U hU hW => ⟨rfl, w.PW E.2.1 E.2.2 hU hW⟩⟩ rfl hn q.1 hst (lv_room hW) hd hf) k
theorem j_callSN (E : EE p s m args c cc nL Ts own D cy) {y : MethodName} {ws : List Cond} {rm : Room} {bytes : ByteArray} {maxL n index : Nat} {ret : Option FieldType} {As rest st0 : List Value} {v : Option Value} {host : String} (hM : Met l y ws rm (va_Pc As (PW D ad cy h)) (QV D ad cy v h') 0 0 (Aw ad)) (cw : va_CN R s args own index y host bytes maxL ret ws rm 0 0 n ∧ (Cond.static y).before args s = true ∧ True) (hn : As.length = n) (hst : st0 = As.reverse ++ rest) (hW : (rest.map fun v => v.category).sum ≤ 8) (hd : decode cc pc = .ok (.invokestatic index, 3)) (hf : cells ≤ R.cells ∧ slots ≤ R.slots) (k : JJ p l e R s m args below meth c cells slots Q D ad cy A nL h' lv (pc + 3) (v.toList ++ rest)) : JJ p l e R s m args below meth c cells slots Q D ad cy A nL h lv pc st0 :=
  j_run (a := As.toArray) (fun H locs ls w q => va_runSN E.1 hM cw ⟨PW.blind, fun U hU hW => ⟨rfl, w.PW E.2.1 E.2.2 hU hW⟩⟩ rfl hn q.1 hst (lv_room hW) hd hf) k
/-- words: a method's own code, and all that the tables say -/
abbrev wsM (y : MethodName) (cc : ByteArray) (n : Nat) (ret : Option FieldType) : List Cond := Cond.code y cc n ret :: wsU
theorem good_wsM {y y2 : MethodName} {cc cc2 : ByteArray} {n n2 : Nat} {ret ret2 : Option FieldType} (hc : Cond.code y2 cc2 n2 ret2 ∈ wsU) : GoodIn (wsM y cc n ret) (wsM y2 cc2 n2 ret2) := by
  intro w hw
  rcases List.mem_cons.mp hw with rfl | h
  · exact ⟨List.mem_cons_of_mem _ hc, wsU_good _ hc⟩
  · exact ⟨List.mem_cons_of_mem _ h, wsU_good _ h⟩
theorem mcw {y2 : MethodName} {cc2 : ByteArray} {n2 mc ms maxL n index : Nat} {ret2 ret : Option FieldType} {own2 C : String} {y : MethodName} {bytes : ByteArray} {rm : Room} (E : ∀ w ∈ wsM y2 cc2 n2 ret2, w.before args s = true) (hcode : Cond.code y bytes maxL ret ∈ wsU) (hl : Cond.methodLink own2 index y ∈ wsU) (hi : Cond.instanceMethod y ∈ wsU) (hs : Cond.selects C y y ∈ wsU) (hin : Cond.initialized C ∈ wsU) (hrc : rm.cells = mc) (hrs : rm.slots = ms)
    (hd : y.cls = C ∧ y.cls ≠ "java/lang/invoke/MethodHandle" ∧ y.cls ≠ "java/lang/invoke/VarHandle" ∧ (parseMethodDescriptor y.desc).map (fun d => d.parameters.length) = some n) (hR : rm.frames + 1 ≤ R.frames ∧ 8 + (maxL + 11) + rm.locals ≤ R.locals) : CallW R s args own2 C index y bytes maxL ret (wsM y bytes maxL ret) rm mc ms n :=
  have t : ∀ w ∈ wsU, w.before args s = true := fun w h => E w (List.mem_cons_of_mem _ h)
  ⟨callB_of n E (good_wsM hcode) rfl hrc hrs (by rw [hd.1]; exact t _ hin) (t _ hl) hd.2 hR, t _ hi, t _ hs⟩
theorem mcs {y2 : MethodName} {cc2 : ByteArray} {n2 mc ms maxL n index : Nat} {ret2 ret : Option FieldType} {own2 C : String} {y : MethodName} {bytes : ByteArray} {rm : Room} (E : ∀ w ∈ wsM y2 cc2 n2 ret2, w.before args s = true) (hcode : Cond.code y bytes maxL ret ∈ wsU) (hl : Cond.methodLink own2 index y ∈ wsU) (hi : Cond.static y ∈ wsU) (hin : Cond.initialized C ∈ wsU) (hrc : rm.cells = mc) (hrs : rm.slots = ms)
    (hd : y.cls = C ∧ y.cls ≠ "java/lang/invoke/MethodHandle" ∧ y.cls ≠ "java/lang/invoke/VarHandle" ∧ (parseMethodDescriptor y.desc).map (fun d => d.parameters.length) = some n) (hR : rm.frames + 1 ≤ R.frames ∧ 8 + (maxL + 11) + rm.locals ≤ R.locals) : CallB R s args own2 index y bytes maxL ret (wsM y bytes maxL ret) rm mc ms n ∧ (Cond.static y).before args s = true :=
  have t : ∀ w ∈ wsU, w.before args s = true := fun w h => E w (List.mem_cons_of_mem _ h)
  ⟨callB_of n E (good_wsM hcode) rfl hrc hrs (by rw [hd.1]; exact t _ hin) (t _ hl) hd.2 hR, t _ hi⟩
theorem mcn {y2 : MethodName} {cc2 : ByteArray} {n2 mc ms maxL n index : Nat} {ret2 ret : Option FieldType} {own2 C host : String} {y : MethodName} {bytes : ByteArray} {rm : Room} (E : ∀ w ∈ wsM y2 cc2 n2 ret2, w.before args s = true) (hN : NW s) (k0 : Nat) (hk : nestl[k0]? = some (own2, index, y, host)) (hcode : Cond.code y bytes maxL ret ∈ wsU) (hi : Cond.static y ∈ wsU) (hin : Cond.initialized C ∈ wsU) (hrc : rm.cells = mc) (hrs : rm.slots = ms)
    (hd : y.cls = C ∧ y.cls ≠ "java/lang/invoke/MethodHandle" ∧ y.cls ≠ "java/lang/invoke/VarHandle" ∧ (parseMethodDescriptor y.desc).map (fun d => d.parameters.length) = some n) (hR : rm.frames + 1 ≤ R.frames ∧ 8 + (maxL + 11) + rm.locals ≤ R.locals) : va_CN R s args own2 index y host bytes maxL ret (wsM y bytes maxL ret) rm mc ms n ∧ (Cond.static y).before args s = true ∧ True :=
  have t : ∀ w ∈ wsU, w.before args s = true := fun w h => E w (List.mem_cons_of_mem _ h)
  ⟨va_cnB n E (good_wsM hcode) rfl hrc hrs (hN k0 _ hk) (by rw [hd.1]; exact t _ hin) hd.2 hR, t _ hi, trivial⟩
theorem met_of {y : MethodName} {maxL : Nat} {ret : Option FieldType} {rm : Room} {av : List Value} {v : Option Value} (hy : plainName y.cls = true) (ho : y.cls = own) (hlen : (lg_sl av).length ≤ maxL) (hlv : lv_args 0 av = lv)
    (body : ∀ (p : Program) (e : Env) (s : State) (m : MethodId) (args : Array Value) (below : List Frame) (meth : Method) (c : Code), EE p s m args c cc maxL (wsM y cc maxL ret) own D cy → meth.sig.returnType = ret → meth.locks = false → JJ p l e rm s m args below meth c 0 0 (MQ below (QV D ad cy v h') args s 0 0 (Aw ad)) D ad cy (Aw ad) maxL h lv 0 []) :
    Met l y (wsM y cc maxL ret) rm (va_Pc av (PW D ad cy h)) (QV D ad cy v h') 0 0 (Aw ad) := by
  subst ho
  subst hlv
  refine Met.ofW (cc := cc) (maxL := maxL) (ret := ret) hy rfl ?_
  intro p e s m args below meth c s₁ B hml hv
  obtain ⟨rfl, hP, hK, hD, hN⟩ := hv
  have hl := lv_entry av (n := maxL) hlen
  rw [lg_entry_eq]
  exact body p e s m _ below meth c ⟨⟨B.exec, B.bytes, hml, findClass_of_methodNamed B.named, atoms_spec (ws := wsM y cc maxL ret) B.pre⟩, hK, hN⟩ B.returns B.notSynchronized s.heap [] _ ⟨hP, hD, va_S.rf⟩ hl
end CALLS
section RETS
variable {p : Program} {l : Launch} {e : Env} {R : Room} {s : State} {m : MethodId} {args : Array Value} {below : List Frame} {meth : Method} {c : Code} {D : va_G} {ad : Nat → Nat} {cy : Nat → ClassId} {nL : Nat} {h h' : HP} {lv : List (Nat × Value)} {pc : Nat} {cc : ByteArray} {Ts : List Cond} {own : String}
theorem j_iret (E : EE p s m args c cc nL Ts own D cy) (hr : meth.sig.returnType = some .int) (hlk : meth.locks = false) {x : Int32} (hd : decode cc pc = .ok (.ireturn, 1)) : JJ p l e R s m args below meth c 0 0 (MQ below (QV D ad cy (some (.int x)) h) args s 0 0 (Aw ad)) D ad cy (Aw ad) nL h lv pc [.int x] := fun H locs ls w q => W.iret E.1.1 E.1.2.1 hr (fun t ht hW => ⟨rfl, w.PW E.2.1 E.2.2 ht hW, w.2.2.F ht⟩) w.2.2.2.2 hd hlk
theorem j_lret (E : EE p s m args c cc nL Ts own D cy) (hr : meth.sig.returnType = some .long) (hlk : meth.locks = false) {x : Int64} (hd : decode cc pc = .ok (.lreturn, 1)) : JJ p l e R s m args below meth c 0 0 (MQ below (QV D ad cy (some (.long x)) h) args s 0 0 (Aw ad)) D ad cy (Aw ad) nL h lv pc [.long x] := fun H locs ls w q => W.lret E.1.1 E.1.2.1 hr (fun t ht hW => ⟨rfl, w.PW E.2.1 E.2.2 ht hW, w.2.2.F ht⟩) w.2.2.2.2 hd hlk
theorem j_zret (E : EE p s m args c cc nL Ts own D cy) (hr : meth.sig.returnType = some .boolean) (hlk : meth.locks = false) {x : Int32} (hn : narrow .boolean (.int x) = .int x) (hd : decode cc pc = .ok (.ireturn, 1)) : JJ p l e R s m args below meth c 0 0 (MQ below (QV D ad cy (some (.int x)) h) args s 0 0 (Aw ad)) D ad cy (Aw ad) nL h lv pc [.int x] := fun H locs ls w q => W.zret E.1.1 E.1.2.1 hr hn (fun t ht hW => ⟨rfl, w.PW E.2.1 E.2.2 ht hW, w.2.2.F ht⟩) w.2.2.2.2 hd hlk
theorem j_vret (E : EE p s m args c cc nL Ts own D cy) (hr : meth.sig.returnType = none) (hlk : meth.locks = false) (hd : decode cc pc = .ok (.return_, 1)) : JJ p l e R s m args below meth c 0 0 (MQ below (QV D ad cy none h) args s 0 0 (Aw ad)) D ad cy (Aw ad) nL h lv pc [] := fun H locs ls w q => W.vret E.1.1 E.1.2.1 hr (fun t ht hW => ⟨rfl, w.PW E.2.1 E.2.2 ht hW, w.2.2.F ht⟩) w.2.2.2.2 hd hlk
theorem j_aret (E : EE p s m args c cc nL Ts own D cy) {C : String} (hr : meth.sig.returnType = some (.object C)) (hlk : meth.locks = false) {v : Value} (hv : v = .null ∨ ∃ a, v = .ref a) (hd : decode cc pc = .ok (.areturn, 1)) : JJ p l e R s m args below meth c 0 0 (MQ below (QV D ad cy (some v) h) args s 0 0 (Aw ad)) D ad cy (Aw ad) nL h lv pc [v] := fun H locs ls w q => W.aret E.1.1 E.1.2.1 hr (Or.inl ⟨C, rfl⟩) hv (fun t ht hW => ⟨rfl, w.PW E.2.1 E.2.2 ht hW, w.2.2.F ht⟩) w.2.2.2.2 hd hlk
end RETS
/-- the loops' fuel: a number that no evaluation opens -/
noncomputable def FU : Nat := Classical.choose (⟨6000, rfl⟩ : ∃ n : Nat, n = 6000)
theorem FU_eq : FU = 6000 := Classical.choose_spec (⟨6000, rfl⟩ : ∃ n : Nat, n = 6000)
theorem sw_out (x : Int32) (hi : Nat) (hI : Int) (he : (hi : Int) = hI) (hs : hi < 2 ^ 31) (h : ∀ k : Nat, k ≤ hi → ¬ x = nI k) : x.toInt < 0 ∨ hI < x.toInt := by
  subst he
  by_cases h0 : x < 0
  · left
    have := Int32.lt_iff_toInt_lt.mp h0
    simpa using this
  · obtain ⟨j, hj, e⟩ := nI_of h0
    by_cases hk : j ≤ hi
    · exact absurd e (h j hk)
    · right
      rw [e, nI_toInt hj]
      omega
