section STARTROWS
variable {p : Program} {l : Launch} {e : Env} {R : Room} {s : State} {m : MethodId} {args : Array Value} {below : List Frame} {meth : Method} {c : Code} {cells slots : Nat} {Q : State → Prop} {D : va_G} {z n0 : Nat} {cy : Nat → ClassId} {nL n : Nat} {h : HP} {lv : List (Nat × Value)} {pc : Nat} {st : List Value} {cc : ByteArray} {Ts : List Cond} {own : String}
theorem n_astore_n (E : EN p s m args c cc nL Ts own D cy z n0) {kk : Fin 4} {i x : Nat} {lv' : List (Nat × Value)} (hd : decode cc pc = .ok (.astore_n kk, 1)) (hi : (kk : Nat) = i) (hn : i < nL) (hl : (i, Value.ref x) :: lv.filter (fun q => !(q.1 == i) && !(q.1 + 1 == i && q.2.category == 2)) = lv') (k : JN p l e R s m args below meth c cells slots Q D z cy nL n h lv' (pc + 1) st) : JN p l e R s m args below meth c cells slots Q D z cy nL n h lv pc (.ref x :: st) := fun H locs ls w q => lv_astore_n E.1.1.1 E.1.1.2.1 hd hi q hn hl (fun ls q => k H locs ls w q)
theorem n_callI (E : EN p s m args c cc nL Ts own D cy z n0) (hcn : n0 + cells = n) {y : MethodName} {ws : List Cond} {rm : Room} {bytes : ByteArray} {maxL n' index a mc ms : Nat} {h' : HP} (hM : Met l y ws rm (va_Pc [.ref (az z a)] (PN D z cy n h)) (QN D z cy n' h') mc ms (fun q : Nat => z ≤ q)) (cw : CallB R s args own index y bytes maxL none ws rm mc ms 0 ∧ y.name = "<init>" ∧ (Cond.instanceMethod y).before args s = true) (hW : (st.map fun v => v.category).sum ≤ 8) (hd : decode cc pc = .ok (.invokespecial index, 3)) (hf : cells + mc ≤ R.cells ∧ slots + ms ≤ R.slots) (k : JN p l e R s m args below meth c (cells + mc) (slots + ms) Q D z cy nL n' h' lv (pc + 3) st) : JN p l e R s m args below meth c cells slots Q D z cy nL n h lv pc (.ref (az z a) :: st) := by
  intro H locs ls w q T hT X
  have hz := n_size w E.2.2 hcn hT X
  have hrun := va_runI (As := []) (rest := st) E.1.1 hM cw (H := H) (locs := locs) (cells := cells) (slots := slots) (below := below) (meth := meth) (e := e) ⟨PN.blind, fun U hU hW => ⟨rfl, by rw [hU]; exact w.1, va_K.moved hW.alike E.1.2.1, w.2.1, E.1.2.2.warm hW, va_AO.moved hW.alike E.2.1, by rw [hU]; exact hz⟩⟩ (g := F0 m pc ls (.ref (az z a) :: st)) rfl rfl q.1 rfl (lv_room hW) hd hf
  obtain ⟨v', st₀, t, T', L, h0, X', hL, e1, e2, ⟨hv, hPN, hF⟩, stp⟩ := hrun T hT X
  cases hv
  obtain ⟨hz1, hk1⟩ := hF
  rw [h0] at hz1 hk1
  have hS := w.2.2
  obtain ⟨t2, a1, b1⟩ := k T'.heap (locs ++ L) ls ⟨by rw [e1]; exact hPN.1, hPN.2.2.1, Nat.le_trans hS.1 (by rw [e1]; exact hz1), fun q h1 h2 => by rw [e1, hk1 q (Nat.lt_of_lt_of_le h1 hS.1) h2]; exact hS.2.1 q h1 h2, fun q hq => by
      rcases List.mem_append.mp hq with h | h
      · exact hS.2.2 q h
      · exact hL q h⟩ q T' rfl X'
  exact ⟨t2, stp t2 a1, b1⟩
theorem mciL {mc ms maxL index : Nat} {own2 C : String} {y : MethodName} {bytes : ByteArray} {rm : Room} (E : ∀ w ∈ wsU, w.before args s = true) (hcode : Cond.code y bytes maxL none ∈ wsU) (hl : Cond.methodLink own2 index y ∈ wsU) (hi : Cond.instanceMethod y ∈ wsU) (hin : Cond.initialized C ∈ wsU) (hrc : rm.cells = mc) (hrs : rm.slots = ms) (hnm : y.name = "<init>")
    (hd : y.cls = C ∧ y.cls ≠ "java/lang/invoke/MethodHandle" ∧ y.cls ≠ "java/lang/invoke/VarHandle" ∧ (parseMethodDescriptor y.desc).map (fun d => d.parameters.length) = some 0) (hR : rm.frames + 1 ≤ R.frames ∧ 8 + (maxL + 11) + rm.locals ≤ R.locals) : CallB R s args own2 index y bytes maxL none (wsM y bytes maxL none) rm mc ms 0 ∧ y.name = "<init>" ∧ (Cond.instanceMethod y).before args s = true :=
  ⟨callB_of 0 E (good_wsL hcode) rfl hrc hrs (by rw [hd.1]; exact E _ hin) (E _ hl) hd.2 hR, hnm, E _ hi⟩
end STARTROWS
theorem nw_start {s : State} {b : Nat} (hts : ∀ w ∈ lw_tbl, w.before #[Value.ref b] s = true) : NW s := by
  intro k q hk
  match k, hk with
  | 0, hk => cases hk; exact va_Nw.of rfl (hts _ (tin_1 _ (List.mem_of_getElem? (i := 23) rfl)))
  | 1, hk => cases hk; exact va_Nw.of rfl (hts _ (tin_1 _ (List.mem_of_getElem? (i := 45) rfl)))
  | 2, hk => cases hk; exact va_Nw.of rfl (hts _ (tin_1 _ (List.mem_of_getElem? (i := 69) rfl)))
  | 3, hk => cases hk; exact va_Nw.of rfl (hts _ (tin_1 _ (List.mem_of_getElem? (i := 93) rfl)))
  | 4, hk => cases hk; exact va_Nw.of rfl (hts _ (tin_1 _ (List.mem_of_getElem? (i := 177) rfl)))
  | 5, hk => cases hk; exact va_Nw.of rfl (hts _ (tin_1 _ (List.mem_of_getElem? (i := 225) rfl)))
  | 6, hk => cases hk; exact va_Nw.of rfl (hts _ (tin_2 _ (List.mem_of_getElem? (i := 6) rfl)))
  | 7, hk => cases hk; exact va_Nw.of rfl (hts _ (tin_2 _ (List.mem_of_getElem? (i := 230) rfl)))
  | 8, hk => cases hk; exact va_Nw.of rfl (hts _ (tin_3 _ (List.mem_of_getElem? (i := 10) rfl)))
  | 9, hk => cases hk; exact va_Nw.of rfl (hts _ (tin_3 _ (List.mem_of_getElem? (i := 49) rfl)))
  | k + 10, hk => cases hk
set_option maxHeartbeats 4000000 in
set_option maxRecDepth 100000 in
/-- what the tables say of the classes: a numbering of all that the worlds hold -/
theorem k_start {s : State} {b : Nat} (hts : ∀ w ∈ lw_tbl, w.before #[Value.ref b] s = true) : ∃ (D : va_G) (cy : Nat → ClassId), va_K D vwCl (tyl cy) s := by
  have htU : ∀ w ∈ wsU, w.before #[Value.ref b] s = true := fun w h => hts w (wsU_in w h)
  obtain ⟨cX1, iX1, hKnX1⟩ := u_known (C := RX1) (T := TX1) (N := 6) (n := 6) htU inUX1 (htU _ uw_1_44)
  obtain ⟨cX2, iX2, hKnX2⟩ := u_known (C := RX2) (T := TX2) (N := 4) (n := 4) htU inUX2 (htU _ uw_1_68)
  obtain ⟨cX3, iX3, hKnX3⟩ := u_known (C := RX3) (T := TX3) (N := 2) (n := 2) htU inUX3 (htU _ uw_1_92)
  obtain ⟨cX4, iX4, hKnX4⟩ := u_known (C := RX4) (T := TX4) (N := 4) (n := 4) htU inUX4 (htU _ uw_1_22)
  obtain ⟨cX5, iX5, hKnX5⟩ := u_known (C := RX5) (T := TX5) (N := 6) (n := 6) htU inUX5 (htU _ uw_1_12)
  obtain ⟨cX6, iX6, hKnX6⟩ := u_known (C := RX6) (T := TX6) (N := 14) (n := 14) htU inUX6 (htU _ uw_3_99)
  obtain ⟨cI, kI, compI, a1, a2, a3⟩ := Cond.arrayClass_spec (htU _ uw_1_41)
  obtain ⟨cJ, kJ, compJ, b1, b2, b3⟩ := Cond.arrayClass_spec (htU _ uw_1_42)
  obtain ⟨cZ, kZ, compZ, d1, d2, d3⟩ := Cond.arrayClass_spec (htU _ uw_3_147)
  obtain ⟨comp, cG, kG, g1, g2, g3, g4, g5⟩ := Cond.arrayOver_spec (hts (Cond.arrayOver (.object RX2)) (tin_1 _ (List.mem_of_getElem? (i := 20) rfl)))
  refine ⟨(fun k => if k = 0 then cX1 else if k = 1 then cX2 else if k = 2 then cX3 else if k = 3 then cX4 else if k = 4 then cX5 else cX6, fun k => if k = 0 then iX1 else if k = 1 then iX2 else if k = 2 then iX3 else if k = 3 then iX4 else if k = 4 then iX5 else iX6), (fun k => if k = 0 then cI else if k = 1 then cJ else if k = 2 then cZ else cG), ?_, ?_⟩
  · intro k q hq
    match k, hq with
    | 0, hq => cases hq; exact hKnX1
    | 1, hq => cases hq; exact hKnX2
    | 2, hq => cases hq; exact hKnX3
    | 3, hq => cases hq; exact hKnX4
    | 4, hq => cases hq; exact hKnX5
    | 5, hq => cases hq; exact hKnX6
    | k + 6, hq => cases hq
  · intro k q hq
    match k, hq with
    | 0, hq => cases hq; exact ⟨fun n z => ⟨fun k h => (by cases h), kI, a2, compI, a3⟩, a1⟩
    | 1, hq => cases hq; exact ⟨fun n z => ⟨fun k h => (by cases h), kJ, b2, compJ, b3⟩, b1⟩
    | 2, hq => cases hq; exact ⟨fun n z => ⟨fun k h => (by cases h), kZ, d2, compZ, d3⟩, d1⟩
    | 3, hq => cases hq; exact ⟨fun n z => ⟨fun k h => (by cases h), kG, g3, comp, g4⟩, kG, comp, g3, g4, g1, g5⟩
    | k + 4, hq => cases hq
set_option maxHeartbeats 4000000 in
set_option maxRecDepth 100000 in
/-- THE LAW, from its entry -/
theorem whole_start {p : Program} {e : Env} {s : State} {m : MethodId} {below : List Frame} {meth : Method} {c : Code} (l : Launch) {b L : Nat} {xs : Nat → Int32} (hL : L ≤ 4096) (C0 : lw_At p s m meth c b L xs) : W p l e room_1 s m #[Value.ref b] below meth c s.heap [] 0 0 (lw_Z below #[Value.ref b] s) (entryFrame m ([Value.ref b] : List Value).toArray 4) := by
  obtain ⟨hx, hb, hr, hml, hown, hts, hX, hbl, hlocks, hgv⟩ := id C0
  have hbA : ¬ (fun q : Nat => s.heap.size ≤ q) b := Nat.not_le.mpr hbl
  have htU : ∀ w ∈ wsU, w.before #[Value.ref b] s = true := fun w h => hts w (wsU_in w h)
  obtain ⟨D, cy, hK⟩ := k_start hts
  have hN := nw_start hts
  have hAO : va_AO RX2 s := va_AO.of (hts (Cond.arrayOver (.object RX2)) (tin_1 _ (List.mem_of_getElem? (i := 20) rfl)))
  have E1 : EE p s m #[Value.ref b] c code 4 wsU RL D cy := ⟨⟨hx, hb, hml, hown, htU⟩, hK, hN⟩
  have E : EN p s m #[Value.ref b] c code 4 wsU RL D cy s.heap.size 0 := ⟨E1, hAO, rfl⟩
  have hl := lv_entry ([.ref b]) (n := 4) (Nat.le_of_ble_eq_true rfl)
  rw [lg_entry_eq]
  generalize (lg_sl ([.ref b]) ++ List.replicate (4 - (lg_sl ([.ref b])).length) Slot.unset).toArray = ls at hl ⊢
  have hl : lv_has ls 4 [(0, .ref b)] := hl
  have hW0 : WN D s.heap.size cy s.heap s.heap [] 0 (fun _ => .inl (9, [])) := ⟨fun k q h => by simp [wln] at h, ⟨fun i j p q h => by simp [wln] at h, fun k q h => by simp [wln] at h⟩, va_S.rf⟩
  suffices hJ : JN p l e room_1 s m #[Value.ref b] below meth c 0 0 (lw_Z below #[Value.ref b] s) D s.heap.size cy 4 0 (fun _ => .inl (9, [])) [(0, .ref b)] 0 [] from hJ s.heap [] ls hW0 hl
  refine n_new (ci := 4) (T := TX5) (N := 6) (fs := [.null, .null, .null, .null, .null, .null]) E (by omega) inUX5 tyX5 tyX5_ok rfl uw_1_11 uw_1_12 uw_1_1 (fun j hj => match j, hj with | 0, _ => rfl | 1, _ => rfl | 2, _ => rfl | 3, _ => rfl | 4, _ => rfl | 5, _ => rfl | j + 6, hj => absurd hj (by omega)) rfl (by decide) (by decide) dL_law_0 ?_
  refine n_dup E dL_law_3 rfl ?_
  refine n_callI E (by omega) (c_X5_init l D s.heap.size cy) (mciL htU uw_1_15 uw_1_13 uw_1_14 uw_1_1 rfl rfl rfl hd_X5_init ⟨by decide, by decide⟩) (Nat.le_of_ble_eq_true rfl) dL_law_4 ⟨by decide, by decide⟩ ?_
  refine n_astore_n (lv' := [(1, .ref (az s.heap.size 0)), (0, .ref b)]) E dL_law_7 rfl (by decide) rfl ?_
  refine n_new (ci := 5) (T := TX6) (N := 14) (fs := [.null, .null, .null, .null, .null, .int 0, .null, .null, .int 0, .null, .null, .int 0, .null, .null]) E (by omega) inUX6 tyX6 tyX6_ok rfl uw_3_98 uw_3_99 uw_1_6 (fun j hj => match j, hj with | 0, _ => rfl | 1, _ => rfl | 2, _ => rfl | 3, _ => rfl | 4, _ => rfl | 5, _ => rfl | 6, _ => rfl | 7, _ => rfl | 8, _ => rfl | 9, _ => rfl | 10, _ => rfl | 11, _ => rfl | 12, _ => rfl | 13, _ => rfl | j + 14, hj => absurd hj (by omega)) rfl (by decide) (by decide) dL_law_8 ?_
  refine n_dup E dL_law_11 rfl ?_
  refine n_callI (n' := 55) (h' := hStart) E (by omega) (c_X6_init l D s.heap.size cy (va_up hk41 43 (.inl (5, [.null, .null, .null, .null, .null, .int 0, .null, .null, .int 0, .null, .null, .int 0, .null, .null]))) 43 (va_up_self _ _ _)) (mciL htU uw_3_102 uw_3_100 uw_3_101 uw_1_6 rfl rfl rfl hd_X6_init ⟨by decide, by decide⟩) (Nat.le_of_ble_eq_true rfl) dL_law_12 ⟨by decide, by decide⟩ ?_
  refine n_astore_n (lv' := [(2, .ref (az s.heap.size 43)), (1, .ref (az s.heap.size 0)), (0, .ref b)]) E dL_law_15 rfl (by decide) rfl ?_
  refine n_iconst (v := 0) E dL_law_16 (by decide) ?_
  refine n_istore_n (lv' := [(3, .int 0), (2, .ref (az s.heap.size 43)), (1, .ref (az s.heap.size 0)), (0, .ref b)]) E dL_law_17 rfl (by decide) rfl ?_
  intro H locs ls w q
  refine W.widen (k := 600000) (n := 7302250) (by decide) (by decide) ?_
  have hJJ := w_L_law_18 (ad := az s.heap.size) E1 hr hlocks hX hbl hbA 0 43 FU (fun _ => some 1) hStart 0 (l := l) (e := e) (below := below) (fun h hf => j_iconst (v := 1) E1 dL_law_1426 (by decide) (j_lawret E1 hr hlocks dL_law_1427)) (law_pure L xs hL)
  exact hJJ H locs ls w (lv_sub q [3, 2, 1, 0] rfl)
set_option maxHeartbeats 4000000 in
theorem lw_walk (l : Launch) (b : Addr) (xs : List Int32) : MetFree l x (headSpec (Jvm.Cond.code x code maxLocals ret :: tables_1) room_1) (lw_P b xs) (fun _ _ _ _ _ => True) lw_Q := by
  refine MetFree.of_bodyS (code := code) (maxLocals := maxLocals) (ret := ret) (by decide) ?_ ?_
  · intro args s m h hn
    obtain ⟨meth, c, h1, h2, h3, h4, h5, h6, -, -⟩ := Cond.code_spec hn (atoms_spec (ws := Jvm.Cond.code x code maxLocals ret :: tables_1) h _ List.mem_cons_self)
    exact ⟨meth, c, h1, h2, h3, h4, h5, h6⟩
  · intro p e s m args below meth c s₁ B hml0 hP _
    obtain ⟨rfl, hx, hbd, hgv⟩ := hP
    obtain ⟨scr, harrAt, hlist, hof, hsmall⟩ := hx
    obtain ⟨hcb, hkn, -, -⟩ := State.arrayAt?_spec harrAt
    have hown : s.vm.findClass R_law = some m.cls := findClass_of_methodNamed B.named
    have hts0 : ∀ c ∈ (Jvm.Cond.code x code maxLocals ret :: tables_1), c.before #[Value.ref b] s = true := atoms_spec (ws := Jvm.Cond.code x code maxLocals ret :: tables_1) B.pre
    have hts : ∀ w ∈ lw_tbl, w.before #[Value.ref b] s = true := k2_hts_sels lw_privs (fun w hw => hts0 w (List.mem_cons_of_mem _ hw)) lw_privs_ok
    have hml : c.maxLocals = 4 := B.maxLocals_eq (hts0 _ List.mem_cons_self)
    have X₀ : Stand p l e room_1 s m #[Value.ref b] below meth c s₁ [] 0 0 := Stand.of_body B
    have hh0 : s₁.heap = s.heap := by rw [B.state]; rfl
    have hsz : scr.slots.size = xs.length := by rw [← Array.length_toList, hlist, List.length_map]
    have hval : ∀ j : Nat, j < xs.length → scr.slots[j]? = some (.int (xs.getD j 0)) := fun j hj => by
      rw [← Array.getElem?_toList, hlist]
      simp [hj]
    have hbl : b < s.heap.size := (Array.getElem?_eq_some_iff.mp hcb).1
    have hX : va_X b xs.length (fun j => xs.getD j 0) s s.heap := ⟨scr, hcb, hof, hkn, hsz, hval⟩
    have K : W p l e room_1 s m #[Value.ref b] below meth c s₁.heap [] 0 0 (lw_Z below #[Value.ref b] s) (entryFrame m ([Value.ref b] : List Value).toArray 4) := by
      rw [hh0]
      exact whole_start l hbd ⟨B.exec, B.bytes, B.returns, hml, hown, hts, hX, hbl, B.notSynchronized, hgv⟩
    obtain ⟨t, a1, o, b1, b2, b3⟩ := K s₁ rfl X₀
    exact ⟨t, o, a1, b1, b2, b3⟩
theorem lw_pre_spec {args : Array Value} {s : State} (h : (Jvm.Cond.and given_1 narrow_1).before args s = true) (hr : rest_1_c.before args s = true) : ∃ (b : Addr) (xs : List Int32), lw_P b xs args s := by
  have hs := flat_of_before _ h
  have hq := flat_of_before _ hr
  have hc : (Cond.count 1).before args s = true := hs _ (by decide +kernel)
  have harr : (Cond.arrayOf (.arg 0) .int).before args s = true := hs _ (by decide +kernel)
  have hle : (Cond.le (.length (.arg 0)) (.int 4096)).before args s = true := hs _ (by decide +kernel)
  have hlen : (Cond.isInt (.length (.arg 0))).before args s = true := hq _ (by decide +kernel)
  have hall : (Cond.all (.arg 0) (.isInt (.elem (.arg 0) (.index 0)))).before args s = true := hq _ (by decide +kernel)
  obtain ⟨b, xs, hb, hx⟩ := State.ints_of_pre rfl harr hlen hall
  have hsm : xs.length < 2 ^ 31 := hx.choose_spec.2.2.2
  have hev : (Term.length (.arg 0)).eval args s none [] s = some (.int xs.length.toInt32) := hx.length_eval hb
  have hv := Cond.le_ints hev (show (Term.int 4096).eval args s none [] s = some (.int 4096) from rfl)
  have hd : xs.length.toInt32 ≤ 4096 := by
    simpa [Cond.before, Cond.holds, hv] using hle
  have hN : xs.length ≤ 4096 := (Int32.ofNat_le_ofNat hsm (by decide)).mp (show Int32.ofNat xs.length ≤ Int32.ofNat 4096 from hd)
  exact ⟨b, xs, Cond.one_arg hc (show args[0]? = some (.ref b) from hb), hx, hN, h⟩
theorem lw_comes (l : Launch) : Comes l x (Jvm.Cond.code x code maxLocals ret :: tables_1) room_1 (fun tb e args s => Calls_1 tb e args s ∧ rest_1 tb e args s ∧ Pre_1 tb e args s)
    (fun _ _ args s o t => lw_Q args s o t) := by
  intro p e ha hc hk s m args below hf hfit hheap happ hpre
  obtain ⟨b, xs, hP⟩ := lw_pre_spec hpre.2.2 hpre.2.1
  obtain ⟨k, o, h1, h2, h3, hQ⟩ := lw_walk l b xs p e ha hc hk s m args below hf ((Spec.applies_iff_loose hf).mp happ).1 hP trivial
  exact ⟨k, o, h1, h2, h3, hQ⟩
theorem lw_frame {s t : State} {o : Outcome} {args : Array Value} (h : Framed s o t [] 600000 7302250) :
    Framed s o t (fieldLocs frame_1_writes args s ++ arrayLocs frame_1_arrays args s ++ staticLocs frame_1_statics s) 600000 7302250 := h
theorem lw_limb (L : Cond) (hL : ∀ (args : Array Value) (s t : State), L.after args s (.returned (some (.int 1))) t = true) :
    ArmFor flags0 classFile x code maxLocals ret World_1 tables_1 room_1 Calls_1 rest_1 Pre_1
      (fun tb e a s o t => postC L tb e a s o t ∧ Framed s o t (fieldLocs frame_1_writes a s ++ arrayLocs frame_1_arrays a s ++ staticLocs frame_1_statics s) 600000 7302250) := by
  intro l _ _ _ p e ha hc hk s m args below hf hfit hheap happ hpre
  obtain ⟨k, o, h1, h2, h3, rfl, hF⟩ := lw_comes l p e ha hc hk s m args below hf hfit hheap happ hpre
  exact ⟨k, _, h1, h2, h3, hL args s _, lw_frame hF⟩
theorem i_vc : Claimed_1_1 ∧ Claimed_1_2 := ⟨lw_limb limb_1_1 (fun args s t => by simp [limb_1_1, Cond.after, Cond.holds, Cond.value]), lw_limb limb_1_2 (fun args s t => Cond.after_iff.mpr (by
  first | (rw [show limb_1_2 = Cond.eq .result (.int 1) from rfl, Cond.eq_ints (x := 1) (y := 1) rfl rfl]; simp; done) | (simp [limb_1_2, Cond.value, Term.eval]; done)))⟩

