/-! THE CLAIM OUT OF ONE WALK OF THE LAW'S BODY. Your part is whole_start (and what it stands on); all else here is the same for every law, but numbers. -/
def R_law : String := "KeptTablesLaw"
def lw_P (b : Addr) (xs : List Int32) (args : Array Value) (s : State) : Prop := args = #[.ref b] ∧ s.IntsAt b xs ∧ xs.length ≤ 4096 ∧ (Jvm.Cond.and given_1 narrow_1).before args s = true
def lw_Q (_ : Array Value) (s : State) (o : Outcome) (t : State) : Prop := o = .returned (some (.int 1)) ∧ Framed s o t [] 600000 7302250
def lw_Z (below : List Frame) (a : Array Value) (s : State) : State → Prop := fun t => ∃ o, t.status = .running ∧ Ended t below o ∧ lw_Q a s o t
/-- the law's own end, with 1 on the stack, nothing written that was there before, its room as the claim has it -/
theorem lw_ret {p : Program} {l : Launch} {e : Env} {s : State} {m : MethodId} {below : List Frame} {meth : Method} {c : Code} {b : Nat} (hx : p.tables.exec = Jvm.exec) (hb : c.code = code) (hr : meth.sig.returnType = ret) (hlocks : meth.locks = false) {pc : Nat} {H : Heap} {ls : Array Slot} (hdg : decode code pc = .ok (.ireturn, 1)) : W p l e room_1 s m #[Value.ref b] below meth c H [] 600000 7302250 (lw_Z below #[Value.ref b] s) (F0 m pc ls [.int 1]) := by
  intro T hT X
  obtain ⟨fs, hret, hrun, hended, hW, hframe⟩ := X.leave (v := some (.int 1)) (hlocks := hlocks) (fun h => by rw [hr] at h; cases h)
  have hmeth' : T.vm.method? m = some meth := X.method'
  refine ⟨T.setFrames fs, ?_, .returned (some (.int 1)), hrun, hended, rfl, ⟨_, rfl⟩, hW, hframe⟩
  jvm_step X.here [X.here.top, hx, hb, hdg, hmeth', hr, ret, narrow_b1]
  (try refine ⟨rfl, ?_⟩); (try refine ⟨rfl, ?_⟩)
  first | (intro acts; rw [hret _ acts rfl rfl rfl]) | rw [hret _ _ rfl rfl rfl]
  exact Steps.refl _
/-- what holds at the law's entry: the machine, the code, the tables' words (any of lw_tbl by 'hts w (by decide +kernel)'), the script of L ints xs at the cell b, what the Statement gives of the start (any of its parts by flat_of_before) -/
def lw_At (p : Program) (s : State) (m : MethodId) (meth : Method) (c : Code) (b L : Nat) (xs : Nat → Int32) : Prop :=
  p.tables.exec = Jvm.exec ∧ c.code = code ∧ meth.sig.returnType = ret ∧ c.maxLocals = 4 ∧ s.vm.findClass R_law = some m.cls ∧ (∀ w ∈ lw_tbl, w.before #[Value.ref b] s = true) ∧ va_X b L xs s s.heap ∧ b < s.heap.size ∧ meth.locks = false ∧ (Jvm.Cond.and given_1 narrow_1).before #[Value.ref b] s = true
section LAWROWS
variable {p : Program} {l : Launch} {e : Env} {R : Room} {s : State} {m : MethodId} {args : Array Value} {below : List Frame} {meth : Method} {c : Code} {cells slots : Nat} {Q : State → Prop} {D : va_G} {ad : Nat → Nat} {cy : Nat → ClassId} {A : Nat → Prop} {nL : Nat} {h : HP} {lv : List (Nat × Value)} {pc : Nat} {st : List Value} {cc : ByteArray} {Ts : List Cond} {own : String} {b len : Nat} {xs : Nat → Int32}
def rdS (len : Nat) (xs : Nat → Int32) (i : Int32) : Option Int32 := if i < 0 ∨ len ≤ i.toNatClampNeg then none else some (xs i.toNatClampNeg)
theorem j_rdS (E : EE p s m args c cc nL Ts own D cy) (hX : va_X b len xs s s.heap) (hbl : b < s.heap.size) (hbA : ¬ A b) {i x : Int32} (hv : rdS len xs i = some x) (hd : decode cc pc = .ok (.iaload, 1)) (k : JJ p l e R s m args below meth c cells slots Q D ad cy A nL h lv (pc + 1) (.int x :: st)) : JJ p l e R s m args below meth c cells slots Q D ad cy A nL h lv pc (.int i :: .ref b :: st) := by
  intro H locs ls w q
  unfold rdS at hv
  by_cases z : i < 0 ∨ len ≤ i.toNatClampNeg
  · rw [if_pos z] at hv; cases hv
  · rw [if_neg z] at hv
    cases hv
    exact va_sld E.1.1 E.1.2.1 hX hbl hbA w.2.2 z hd (k H locs ls w q)
theorem j_lenS (E : EE p s m args c cc nL Ts own D cy) (hX : va_X b len xs s s.heap) (hbl : b < s.heap.size) (hbA : ¬ A b) (hd : decode cc pc = .ok (.arraylength, 1)) (k : JJ p l e R s m args below meth c cells slots Q D ad cy A nL h lv (pc + 1) (.int (Int32.ofNat len) :: st)) : JJ p l e R s m args below meth c cells slots Q D ad cy A nL h lv pc (.ref b :: st) := fun H locs ls w q => va_slen E.1.1 E.1.2.1 hX hbl hbA w.2.2 hd (k H locs ls w q)
theorem j_lawret (E : EE p s m #[Value.ref b] c code 4 wsU RL D cy) (hr : meth.sig.returnType = ret) (hlk : meth.locks = false) (hd : decode code pc = .ok (.ireturn, 1)) : JJ p l e room_1 s m #[Value.ref b] below meth c 600000 7302250 (lw_Z below #[Value.ref b] s) D ad cy (fun q : Nat => s.heap.size ≤ q) 4 h lv pc [.int 1] := fun H locs ls w q => va_forget (fun q hq => w.2.2.2.2 q hq) (lw_ret E.1.1 E.1.2.1 hr hlk hd)
theorem good_wsL {y2 : MethodName} {cc2 : ByteArray} {n2 : Nat} {ret2 : Option FieldType} (hc : Cond.code y2 cc2 n2 ret2 ∈ wsU) : GoodIn wsU (wsM y2 cc2 n2 ret2) := by
  intro w hw
  rcases List.mem_cons.mp hw with rfl | h
  · exact ⟨hc, wsU_good _ hc⟩
  · exact ⟨h, wsU_good _ h⟩
theorem mcwL {mc ms maxL n index : Nat} {ret2 : Option FieldType} {own2 C : String} {y : MethodName} {bytes : ByteArray} {rm : Room} (E : ∀ w ∈ wsU, w.before args s = true) (hcode : Cond.code y bytes maxL ret2 ∈ wsU) (hl : Cond.methodLink own2 index y ∈ wsU) (hi : Cond.instanceMethod y ∈ wsU) (hs : Cond.selects C y y ∈ wsU) (hin : Cond.initialized C ∈ wsU) (hrc : rm.cells = mc) (hrs : rm.slots = ms)
    (hd : y.cls = C ∧ y.cls ≠ "java/lang/invoke/MethodHandle" ∧ y.cls ≠ "java/lang/invoke/VarHandle" ∧ (parseMethodDescriptor y.desc).map (fun d => d.parameters.length) = some n) (hR : rm.frames + 1 ≤ R.frames ∧ 8 + (maxL + 11) + rm.locals ≤ R.locals) : CallW R s args own2 C index y bytes maxL ret2 (wsM y bytes maxL ret2) rm mc ms n :=
  ⟨callB_of n E (good_wsL hcode) rfl hrc hrs (by rw [hd.1]; exact E _ hin) (E _ hl) hd.2 hR, E _ hi, E _ hs⟩
end LAWROWS
