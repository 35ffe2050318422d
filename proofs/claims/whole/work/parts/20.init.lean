/-! constructors: a world of n cells, cell k at z + k -/
def az (z : Nat) : Nat → Nat := fun k => z + k
def wln (n : Nat) (ad : Nat → Nat) (cy : Nat → ClassId) (h : HP) : va_W := (List.range n).map fun k => (ad k, cnE ad cy (h k))
theorem wln_at {n : Nat} {ad : Nat → Nat} {cy : Nat → ClassId} {h : HP} {a : Nat} {x : AC} (ha : a < n) (hx : h a = x) : (wln n ad cy h)[a]? = some (ad a, cnE ad cy x) := by
  simp [wln, List.getElem?_range ha, hx]
theorem wln_set {n : Nat} {ad : Nat → Nat} {cy : Nat → ClassId} {h : HP} {a : Nat} {e : AC} (ha : a < n) : (wln n ad cy h).set a (ad a, cnE ad cy e) = wln n ad cy (va_up h a e) := by
  apply List.ext_getElem?
  intro j
  by_cases hj : j = a
  · subst hj
    rw [List.getElem?_set_self (by simpa [wln] using ha), wln_at ha (va_up_self h j e)]
  · rw [List.getElem?_set_ne (Ne.symm hj)]
    simp only [wln, List.getElem?_map]
    cases hr : (List.range n)[j]? with
    | none => rfl
    | some b =>
      obtain ⟨hb, e⟩ := List.getElem?_eq_some_iff.mp hr
      rw [List.getElem_range] at e
      subst e
      simp [va_up_ne _ _ hj]
theorem wln_push {n : Nat} {ad : Nat → Nat} {cy : Nat → ClassId} {h : HP} {e : AC} : wln n ad cy h ++ [(ad n, cnE ad cy e)] = wln (n + 1) ad cy (va_up h n e) := by
  unfold wln
  rw [List.range_succ, List.map_append, List.map_cons, List.map_nil, va_up_self]
  congr 1
  apply List.map_congr_left
  intro k hk
  have : k ≠ n := Nat.ne_of_lt (List.mem_range.mp hk)
  rw [va_up_ne _ _ this]
def PN (D : va_G) (z : Nat) (cy : Nat → ClassId) (n : Nat) (h : HP) (U : State) : Prop := va_P D vwCl (wln n (az z) cy h) U.heap ∧ va_K D vwCl (tyl cy) U ∧ va_D (fun q : Nat => z ≤ q) (wln n (az z) cy h) ∧ NW U ∧ va_AO RX2 U ∧ U.heap.size = z + n
def QN (D : va_G) (z : Nat) (cy : Nat → ClassId) (n : Nat) (h : HP) : Array Value → State → Outcome → State → Prop := fun _ st oc t => oc = .returned none ∧ PN D z cy n h t ∧ va_F (fun q : Nat => z ≤ q) st t
def WN (D : va_G) (z : Nat) (cy : Nat → ClassId) (H0 H : Heap) (locs : List Loc) (n : Nat) (h : HP) : Prop := va_P D vwCl (wln n (az z) cy h) H ∧ va_D (fun q : Nat => z ≤ q) (wln n (az z) cy h) ∧ va_S (fun q : Nat => z ≤ q) H0 H locs
def EN (p : Program) (s : State) (m : MethodId) (args : Array Value) (c : Code) (cc : ByteArray) (nL : Nat) (Ts : List Cond) (own : String) (D : va_G) (cy : Nat → ClassId) (z n0 : Nat) : Prop := EE p s m args c cc nL Ts own D cy ∧ va_AO RX2 s ∧ s.heap.size = z + n0
theorem PN.blind {D : va_G} {z : Nat} {cy : Nat → ClassId} {n : Nat} {h : HP} {av : List Value} : FrameBlind (va_Pc av (PN D z cy n h)) := fun a U g mk q => ⟨q.1, q.2.1, va_K.moved (u := U) (U := U.calling g mk a) (Vm.Alike.refl U.vm) q.2.2.1, q.2.2.2.1, NW.same rfl q.2.2.2.2.1, va_AO.moved (u := U) (U := U.calling g mk a) (Vm.Alike.refl U.vm) q.2.2.2.2.2.1, q.2.2.2.2.2.2⟩
def JN (p : Program) (l : Launch) (e : Env) (R : Room) (s : State) (m : MethodId) (args : Array Value) (below : List Frame) (meth : Method) (c : Code) (cells slots : Nat) (Q : State → Prop) (D : va_G) (z : Nat) (cy : Nat → ClassId) (nL : Nat) (n : Nat) (h : HP) (lv : List (Nat × Value)) (pc : Nat) (st : List Value) : Prop :=
  ∀ (H : Heap) (locs : List Loc) (ls : Array Slot), WN D z cy s.heap H locs n h → lv_has ls nL lv → W p l e R s m args below meth c H locs cells slots Q (F0 m pc ls st)
section NROWS
variable {p : Program} {l : Launch} {e : Env} {R : Room} {s : State} {m : MethodId} {args : Array Value} {below : List Frame} {meth : Method} {c : Code} {cells slots : Nat} {Q : State → Prop} {D : va_G} {z n0 : Nat} {cy : Nat → ClassId} {nL n : Nat} {h : HP} {lv : List (Nat × Value)} {pc : Nat} {st : List Value} {cc : ByteArray} {Ts : List Cond} {own : String}
theorem n_iconst (E : EN p s m args c cc nL Ts own D cy z n0) {i : Int} {v : Int32} (hd : decode cc pc = .ok (.iconst i, 1)) (hv : Int32.ofInt i = v) (k : JN p l e R s m args below meth c cells slots Q D z cy nL n h lv (pc + 1) (.int v :: st)) : JN p l e R s m args below meth c cells slots Q D z cy nL n h lv pc st := fun H locs ls w q => lv_iconst E.1.1.1 E.1.1.2.1 hd hv (k H locs ls w q)
theorem n_bipush (E : EN p s m args c cc nL Ts own D cy z n0) {i : Int} {v : Int32} (hd : decode cc pc = .ok (.bipush i, 2)) (hv : (Int8.ofInt i).toInt32 = v) (k : JN p l e R s m args below meth c cells slots Q D z cy nL n h lv (pc + 2) (.int v :: st)) : JN p l e R s m args below meth c cells slots Q D z cy nL n h lv pc st := fun H locs ls w q => lv_bipush E.1.1.1 E.1.1.2.1 hd hv (k H locs ls w q)
theorem n_sipush (E : EN p s m args c cc nL Ts own D cy z n0) {i : Int} {v : Int32} (hd : decode cc pc = .ok (.sipush i, 3)) (hv : (Int16.ofInt i).toInt32 = v) (k : JN p l e R s m args below meth c cells slots Q D z cy nL n h lv (pc + 3) (.int v :: st)) : JN p l e R s m args below meth c cells slots Q D z cy nL n h lv pc st := fun H locs ls w q => lv_sipush E.1.1.1 E.1.1.2.1 hd hv (k H locs ls w q)
theorem n_iload_n (E : EN p s m args c cc nL Ts own D cy z n0) {kk : Fin 4} {i : Nat} {x : Int32} (k0 : Nat) (hk : lv[k0]? = some (i, .int x)) (hd : decode cc pc = .ok (.iload_n kk, 1)) (hi : (kk : Nat) = i) (k : JN p l e R s m args below meth c cells slots Q D z cy nL n h lv (pc + 1) (.int x :: st)) : JN p l e R s m args below meth c cells slots Q D z cy nL n h lv pc st := fun H locs ls w q => lv_iload_n E.1.1.1 E.1.1.2.1 hd hi (lv_at q k0 hk) (k H locs ls w q)
theorem n_aload_n (E : EN p s m args c cc nL Ts own D cy z n0) {kk : Fin 4} {i : Nat} {x : Nat} (k0 : Nat) (hk : lv[k0]? = some (i, .ref x)) (hd : decode cc pc = .ok (.aload_n kk, 1)) (hi : (kk : Nat) = i) (k : JN p l e R s m args below meth c cells slots Q D z cy nL n h lv (pc + 1) (.ref x :: st)) : JN p l e R s m args below meth c cells slots Q D z cy nL n h lv pc st := fun H locs ls w q => lv_aload_n E.1.1.1 E.1.1.2.1 hd hi (lv_at q k0 hk) (k H locs ls w q)
theorem n_dup (E : EN p s m args c cc nL Ts own D cy z n0) {va : Value} (hd : decode cc pc = .ok (.dup, 1)) (hva : va.category = 1) (k : JN p l e R s m args below meth c cells slots Q D z cy nL n h lv (pc + 1) (va :: va :: st)) : JN p l e R s m args below meth c cells slots Q D z cy nL n h lv pc (va :: st) := fun H locs ls w q => lv_dup E.1.1.1 E.1.1.2.1 hd hva (k H locs ls w q)
theorem n_istore_n (E : EN p s m args c cc nL Ts own D cy z n0) {kk : Fin 4} {i : Nat} {x : Int32} {lv' : List (Nat × Value)} (hd : decode cc pc = .ok (.istore_n kk, 1)) (hi : (kk : Nat) = i) (hn : i < nL) (hl : (i, Value.int x) :: lv.filter (fun q => !(q.1 == i) && !(q.1 + 1 == i && q.2.category == 2)) = lv') (k : JN p l e R s m args below meth c cells slots Q D z cy nL n h lv' (pc + 1) st) : JN p l e R s m args below meth c cells slots Q D z cy nL n h lv pc (.int x :: st) := fun H locs ls w q => lv_istore_n E.1.1.1 E.1.1.2.1 hd hi q hn hl (fun ls q => k H locs ls w q)
theorem n_iinc (E : EN p s m args c cc nL Ts own D cy z n0) {i k0 : Nat} {d : Int} {x v : Int32} {lv' : List (Nat × Value)} (hd : decode cc pc = .ok (.iinc i d, 3)) (hk : lv[k0]? = some (i, .int x)) (hv : x + Int32.ofInt d = v) (hn : i < nL) (hl : (i, Value.int v) :: lv.filter (fun q => !(q.1 == i) && !(q.1 + 1 == i && q.2.category == 2)) = lv') (k : JN p l e R s m args below meth c cells slots Q D z cy nL n h lv' (pc + 3) st) : JN p l e R s m args below meth c cells slots Q D z cy nL n h lv pc st := fun H locs ls w q => lv_iinc E.1.1.1 E.1.1.2.1 hd q hk hv hn hl (fun ls q => k H locs ls w q)
theorem n_goto (E : EN p s m args c cc nL Ts own D cy z n0) {off : Int} {tgt : Nat} (hd : decode cc pc = .ok (.goto off, 3)) (ht : (pc : Int) + off = (tgt : Int)) (k : JN p l e R s m args below meth c cells slots Q D z cy nL n h lv tgt st) : JN p l e R s m args below meth c cells slots Q D z cy nL n h lv pc st := fun H locs ls w q => lv_goto E.1.1.1 E.1.1.2.1 hd ht (k H locs ls w q)
theorem n_icmp_ge (E : EN p s m args c cc nL Ts own D cy z n0) {x y : Int32} {off : Int} {tgt : Nat} (hd : decode cc pc = .ok (.if_icmp .ge off, 3)) (ht : (pc : Int) + off = (tgt : Int)) (kt : y ≤ x → JN p l e R s m args below meth c cells slots Q D z cy nL n h lv tgt st) (kf : ¬ y ≤ x → JN p l e R s m args below meth c cells slots Q D z cy nL n h lv (pc + 3) st) : JN p l e R s m args below meth c cells slots Q D z cy nL n h lv pc (.int y :: .int x :: st) := fun H locs ls w q => lv_icmp_ge E.1.1.1 E.1.1.2.1 hd ht (fun z => kt z H locs ls w q) (fun z => kf z H locs ls w q)
theorem n_obj (E : EN p s m args c cc nL Ts own D cy z n0) {idx : Nat} {a : Nat} (hl : Cond.methodLink own idx Lib.objectInit ∈ Ts) (hi : Cond.instanceMethod Lib.objectInit ∈ Ts) (hc : Cond.code Lib.objectInit ⟨#[0xb1]⟩ 1 none ∈ Ts) (hfr : 1 ≤ R.frames) (hlo : (st.map fun v => v.category).sum + 12 ≤ R.locals) (hd : decode cc pc = .ok (.invokespecial idx, 3)) (k : JN p l e R s m args below meth c cells slots Q D z cy nL n h lv (pc + 3) st) : JN p l e R s m args below meth c cells slots Q D z cy nL n h lv pc (.ref a :: st) := fun H locs ls w q => W.objInit E.1.1.1 E.1.1.2.1 E.1.1.2.2.2.1 (E.1.1.2.2.2.2 _ hl) (E.1.1.2.2.2.2 _ hi) (E.1.1.2.2.2.2 _ hc) rfl (q.1.trans E.1.1.2.2.1.symm) rfl hd hfr (by show 2 * 0 + _ + 12 ≤ _; omega) (k H locs ls w q)
theorem n_size {H : Heap} {locs : List Loc} {T : State} (w : WN D z cy s.heap H locs n h) (hs : s.heap.size = z + n0) (hcn : n0 + cells = n) (hT : T.heap = H) (X : Stand p l e R s m args below meth c T locs cells slots) : H.size = z + n := by
  have h1 : T.heap.size ≤ s.heap.size + cells := X.same.2.2.1
  rw [hT] at h1
  have h2 : z + n ≤ H.size := by
    cases n with
    | zero => have := w.2.2.1; omega
    | succ k =>
      have h3 := (w.1 k _ (wln_at (Nat.lt_succ_self k) rfl)).lt
      have h4 : z + k < H.size := h3
      omega
  omega
theorem n_ws (E : EN p s m args c cc nL Ts own D cy z n0) (hcn : n0 + cells = n) (k : ∀ (H : Heap) (locs : List Loc) (ls : Array Slot), WN D z cy s.heap H locs n h → lv_has ls nL lv → H.size = z + n → W p l e R s m args below meth c H locs cells slots Q (F0 m pc ls st)) : JN p l e R s m args below meth c cells slots Q D z cy nL n h lv pc st := fun H locs ls w q T hT X => k H locs ls w q (n_size w E.2.2 hcn hT X) T hT X
theorem n_grow {e : AC} {H H1 : Heap} {locs : List Loc} (w : WN D z cy s.heap H locs n h) (hs : H.size = z + n) (he : va_at D vwCl (az z n, cnE (az z) cy e) H1) (z1 : H1.size = z + n + 1) (o1 : ∀ q, q < z + n → H1[q]? = H[q]?) : WN D z cy s.heap H1 locs (n + 1) (va_up h n e) := by
  obtain ⟨hP, hD, hS⟩ := w
  refine ⟨?_, ?_, ⟨Nat.le_trans hS.1 (by omega), fun x h1 h2 => (o1 x (by have := hS.1; omega)).trans (hS.2.1 x h1 h2), hS.2.2⟩⟩
  · rw [← wln_push]
    refine va_P.app (hP.kept (fun k x hx => o1 x.1 (by rw [← hs]; exact (hP k x hx).lt))) (fun k x hx => ?_)
    have hk : k < 1 := (List.getElem?_eq_some_iff.mp hx).1
    rw [show k = 0 by omega] at hx
    cases hx
    exact he
  · rw [← wln_push]
    exact hD.push hP (by rw [hs]; rfl) (by show z ≤ z + n; omega)
theorem n_new (E : EN p s m args c cc nL Ts own D cy z n0) (hcn : n0 + cells = n) {C : String} {T : u_T} {N ci index : Nat} (hin : ∀ w ∈ u_ws C T N, w ∈ Ts) (ty : Nat → FieldType) (hty : ∀ k, k < N → parseFieldDescriptor (T k).2.2.1 = some (ty k)) (hc : vwCl[ci]? = some (C, T, N)) (hcl : Cond.classLink own index C ∈ Ts) (hinst : Cond.instantiable C N ∈ Ts) (hini : Cond.initialized C ∈ Ts) {fs : List Value} (hfs : ∀ j, j < N → defaultValue (ty j) = vp_V fs j) (hnr : fs.map (cnV (az z)) = fs) (hcells : cells + 1 ≤ R.cells) (hslots : slots + N ≤ R.slots) (hd : decode cc pc = .ok (.new index, 3)) (k : JN p l e R s m args below meth c (cells + 1) (slots + N) Q D z cy nL (n + 1) (va_up h n (.inl (ci, fs))) lv (pc + 3) (.ref (az z n) :: st)) : JN p l e R s m args below meth c cells slots Q D z cy nL n h lv pc st := by
  refine n_ws E hcn (fun H locs ls w q hz => ?_)
  have hKn := E.1.2.1.1 ci _ hc
  have hts := E.1.1.2.2.2.2
  refine W.newcK E.1.1.1 E.1.1.2.1 E.1.1.2.2.2.1 (hts _ hcl) (hts _ hinst) (hts _ hini) rfl hd hcells hslots hKn.2.1 hz (fun H1 kC hkC e1 z1 o1 => ?_)
  refine k H1 locs ls (n_grow w hz ?_ z1 o1) q
  show ∃ r : vw_C, vwCl[ci]? = some r ∧ t_OB (z + n) (D.1 ci) r.2.2 (D.2 ci) H1 (vp_V (fs.map (cnV (az z))))
  rw [hnr]
  exact ⟨_, hc, (u_born ty hts hin hKn hkC e1 hty).to hfs⟩
theorem n_newa_int (E : EN p s m args c cc nL Ts own D cy z n0) (hcn : n0 + cells = n) {x : Int32} {N : Nat} (harr : Cond.arrayClass .int ∈ Ts) (hn : ¬ x < 0) (hN : x.toNatClampNeg = N) (hbytes : N * componentBytes .int ≤ 536870912) (hcells : cells + 1 ≤ R.cells) (hslots : slots + N ≤ R.slots) (hd : decode cc pc = .ok (.newarray .int, 2)) (k : JN p l e R s m args below meth c (cells + 1) (slots + N) Q D z cy nL (n + 1) (va_up h n (.inr (N, .inl (fun _ => 0)))) lv (pc + 2) (.ref (az z n) :: st)) : JN p l e R s m args below meth c cells slots Q D z cy nL n h lv pc (.int x :: st) := by
  refine n_ws E hcn (fun H locs ls w q hz => ?_)
  refine va_newaK (atype := .int) E.1.1.1 E.1.1.2.1 (E.1.1.2.2.2.2 _ harr) rfl hd rfl hn hN hbytes hcells hslots hz (fun H1 cA e1 z1 o1 hAr hNm => ?_)
  have hRA : s.vm.findClass ("[" ++ FieldType.int.toString) = some (cy 0) := (E.1.2.1.2 0 _ rfl).2
  have hcA : cA = cy 0 := Option.some.inj (hNm.symm.trans hRA)
  subst hcA
  refine k H1 locs ls (n_grow w hz ?_ z1 o1) q
  show H1[z + n]? = some (vp_cell _ _)
  rw [vp_cell_i]
  exact e1
theorem n_newa_long (E : EN p s m args c cc nL Ts own D cy z n0) (hcn : n0 + cells = n) {x : Int32} {N : Nat} (harr : Cond.arrayClass .long ∈ Ts) (hn : ¬ x < 0) (hN : x.toNatClampNeg = N) (hbytes : N * componentBytes .long ≤ 536870912) (hcells : cells + 1 ≤ R.cells) (hslots : slots + N ≤ R.slots) (hd : decode cc pc = .ok (.newarray .long, 2)) (k : JN p l e R s m args below meth c (cells + 1) (slots + N) Q D z cy nL (n + 1) (va_up h n (.inr (N, .inr (.inl (fun _ => 0))))) lv (pc + 2) (.ref (az z n) :: st)) : JN p l e R s m args below meth c cells slots Q D z cy nL n h lv pc (.int x :: st) := by
  refine n_ws E hcn (fun H locs ls w q hz => ?_)
  refine va_newaK (atype := .long) E.1.1.1 E.1.1.2.1 (E.1.1.2.2.2.2 _ harr) rfl hd rfl hn hN hbytes hcells hslots hz (fun H1 cA e1 z1 o1 hAr hNm => ?_)
  have hRA : s.vm.findClass ("[" ++ FieldType.long.toString) = some (cy 1) := (E.1.2.1.2 1 _ rfl).2
  have hcA : cA = cy 1 := Option.some.inj (hNm.symm.trans hRA)
  subst hcA
  refine k H1 locs ls (n_grow w hz ?_ z1 o1) q
  show H1[z + n]? = some (vp_cell _ _)
  rw [vp_cell_l]
  exact e1
theorem n_newa_boolean (E : EN p s m args c cc nL Ts own D cy z n0) (hcn : n0 + cells = n) {x : Int32} {N : Nat} (harr : Cond.arrayClass .boolean ∈ Ts) (hn : ¬ x < 0) (hN : x.toNatClampNeg = N) (hbytes : N * componentBytes .boolean ≤ 536870912) (hcells : cells + 1 ≤ R.cells) (hslots : slots + N ≤ R.slots) (hd : decode cc pc = .ok (.newarray .boolean, 2)) (k : JN p l e R s m args below meth c (cells + 1) (slots + N) Q D z cy nL (n + 1) (va_up h n (.inr (N, .inr (.inr (.inl (fun _ => 0)))))) lv (pc + 2) (.ref (az z n) :: st)) : JN p l e R s m args below meth c cells slots Q D z cy nL n h lv pc (.int x :: st) := by
  refine n_ws E hcn (fun H locs ls w q hz => ?_)
  refine va_newaK (atype := .boolean) E.1.1.1 E.1.1.2.1 (E.1.1.2.2.2.2 _ harr) rfl hd rfl hn hN hbytes hcells hslots hz (fun H1 cA e1 z1 o1 hAr hNm => ?_)
  have hRA : s.vm.findClass ("[" ++ FieldType.boolean.toString) = some (cy 2) := (E.1.2.1.2 2 _ rfl).2
  have hcA : cA = cy 2 := Option.some.inj (hNm.symm.trans hRA)
  subst hcA
  refine k H1 locs ls (n_grow w hz ?_ z1 o1) q
  show H1[z + n]? = some (vp_cell _ _)
  rw [vp_cell_i]
  exact e1
theorem n_newq (E : EN p s m args c cc nL Ts own D cy z n0) (hcn : n0 + cells = n) {x : Int32} {N index : Nat} (hcl : Cond.classLink own index RX2 ∈ Ts) (hn : ¬ x < 0) (hN : x.toNatClampNeg = N) (hbytes : N * 4 ≤ 536870912) (hcells : cells + 1 ≤ R.cells) (hslots : slots + N ≤ R.slots) (hd : decode cc pc = .ok (.anewarray index, 3)) (k : JN p l e R s m args below meth c (cells + 1) (slots + N) Q D z cy nL (n + 1) (va_up h n (.inr (N, .inr (.inr (.inr (fun _ => none)))))) lv (pc + 3) (.ref (az z n) :: st)) : JN p l e R s m args below meth c cells slots Q D z cy nL n h lv pc (.int x :: st) := by
  refine n_ws E hcn (fun H locs ls w q hz => ?_)
  subst hN
  refine W.anew E.1.1.1 E.1.1.2.1 E.1.1.2.2.2.1 (E.1.1.2.2.2.2 _ hcl) (va_AO.use E.2.1) rfl hd rfl hn hbytes hcells hslots (fun cA kA comp f1 f2 f3 f4 => ?_)
  obtain ⟨kA', comp', g1, g2, g3, g4⟩ := (E.1.2.1.2 3 _ rfl).2
  have hcA : cA = cy 3 := Option.some.inj (f1.symm.trans g4)
  subst hcA
  generalize hH1 : H.push ({ cls := cy 3, slots := Array.replicate x.toNatClampNeg .null, vm := .none } : Cell) = H1
  have z1 : H1.size = z + n + 1 := by rw [← hH1, Array.size_push, hz]
  have e1 : H1[z + n]? = some (arrV (cy 3) x.toNatClampNeg (fun _ => .null)) := by rw [← hH1, ← hz, Array.getElem?_push_size, ← arrV_new]
  have o1 : ∀ q : Nat, q < z + n → H1[q]? = H[q]? := fun q hq => by rw [← hH1, Array.getElem?_push, if_neg (by rw [hz]; exact Nat.ne_of_lt hq)]
  have kk := k H1 locs ls (n_grow w hz (show H1[z + n]? = some (vp_cell _ _) by rw [vp_cell_q]; exact e1) z1 o1) q
  have ea : (Value.ref (az z n)) = Value.ref H.size := by rw [hz]; rfl
  rw [ea] at kk
  exact kk
theorem n_put (E : EN p s m args c cc nL Ts own D cy z n0) {C : String} {T : u_T} {N ci index a k0 : Nat} (hin : ∀ w ∈ u_ws C T N, w ∈ Ts) (hc : vwCl[ci]? = some (C, T, N)) (hk : k0 < N) (hm : Cond.fieldLink own index (T k0).1 (T k0).2.1 (T k0).2.2.1 ∈ Ts) (ty0 : Nat → FieldType) (hty : ∀ k, k < N → parseFieldDescriptor (T k).2.2.1 = some (ty0 k)) (hnm : ∀ a, a < N → ∀ b, b < N → a ≠ b → (T a).2.1 ≠ (T b).2.1) (hfin : (T k0).2.2.2 = false) {v cv : Value} {fs fs' : List Value} {h' : HP} (hcv : cnV (az z) v = cv) (hdd : parseFieldDescriptor (T k0).2.2.1 = some (ty0 k0)) (hn : narrow (ty0 k0) cv = cv) (hfit : fits (ty0 k0) cv = true) (ha : a < n) (hv : h a = .inl (ci, fs)) (hl : k0 < fs.length) (hs : fs.set k0 v = fs') (hh : va_up h a (.inl (ci, fs')) = h') (hd : decode cc pc = .ok (.putfield index, 3)) (k : JN p l e R s m args below meth c cells slots Q D z cy nL n h' lv (pc + 3) st) : JN p l e R s m args below meth c cells slots Q D z cy nL n h lv pc (cv :: .ref (az z a) :: st) := by
  intro H locs ls w q
  subst hcv
  refine va_put (D := D) (v := cnV (az z) v) E.1.1.1 E.1.1.2.1 E.1.1.2.2.2.2 hin ty0 hty hnm E.1.1.2.2.2.1 E.1.2.1 w.1 w.2.1 w.2.2 a (fs := fs.map (cnV (az z))) (wln_at ha hv) hc k0 hk (E.1.1.2.2.2.2 _ hm) (fun _ h9 => h9) hfin hdd hn hfit (by rw [List.length_map]; exact hl) hd (fun H1 locs1 hP hD hS => ?_)
  have e : (wln n (az z) cy h).set a (az z a, .inr (ci, (fs.map (cnV (az z))).set k0 (cnV (az z) v))) = wln n (az z) cy h' := by
    rw [← hh, ← hs, ← wln_set ha]
    simp only [cnE, List.map_set]
  rw [e] at hP hD
  exact k H1 locs1 ls ⟨hP, hD, hS⟩ q
theorem n_putF (E : EN p s m args c cc nL Ts own D cy z n0) {C : String} {T : u_T} {N ci index a k0 : Nat} (hin : ∀ w ∈ u_ws C T N, w ∈ Ts) (hc : vwCl[ci]? = some (C, T, N)) (hk : k0 < N) (hm : Cond.fieldLink own index (T k0).1 (T k0).2.1 (T k0).2.2.1 ∈ Ts) (ty0 : Nat → FieldType) (hty : ∀ k, k < N → parseFieldDescriptor (T k).2.2.1 = some (ty0 k)) (hnm : ∀ a, a < N → ∀ b, b < N → a ≠ b → (T a).2.1 ≠ (T b).2.1) (hfin : (T k0).2.2.2 = true) (hin2 : meth.name = "<init>") (hdecl : (T k0).1 = own) {v cv : Value} {fs fs' : List Value} {h' : HP} (hcv : cnV (az z) v = cv) (hdd : parseFieldDescriptor (T k0).2.2.1 = some (ty0 k0)) (hn : narrow (ty0 k0) cv = cv) (hfit : fits (ty0 k0) cv = true) (ha : a < n) (hv : h a = .inl (ci, fs)) (hl : k0 < fs.length) (hs : fs.set k0 v = fs') (hh : va_up h a (.inl (ci, fs')) = h') (hd : decode cc pc = .ok (.putfield index, 3)) (k : JN p l e R s m args below meth c cells slots Q D z cy nL n h' lv (pc + 3) st) : JN p l e R s m args below meth c cells slots Q D z cy nL n h lv pc (cv :: .ref (az z a) :: st) := by
  intro H locs ls w q
  subst hcv
  refine va_putF (D := D) (v := cnV (az z) v) E.1.1.1 E.1.1.2.1 E.1.1.2.2.2.2 hin ty0 hty hnm E.1.1.2.2.2.1 E.1.2.1 w.1 w.2.1 w.2.2 a (fs := fs.map (cnV (az z))) (wln_at ha hv) hc k0 hk (E.1.1.2.2.2.2 _ hm) (fun _ h9 => h9) hfin hin2 hdecl hdd hn hfit (by rw [List.length_map]; exact hl) hd (fun H1 locs1 hP hD hS => ?_)
  have e : (wln n (az z) cy h).set a (az z a, .inr (ci, (fs.map (cnV (az z))).set k0 (cnV (az z) v))) = wln n (az z) cy h' := by
    rw [← hh, ← hs, ← wln_set ha]
    simp only [cnE, List.map_set]
  rw [e] at hP hD
  exact k H1 locs1 ls ⟨hP, hD, hS⟩ q
theorem n_getR (E : EN p s m args c cc nL Ts own D cy z n0) {C : String} {T : u_T} {N ci index a k0 b : Nat} {fs : List Value} (hin : ∀ w ∈ u_ws C T N, w ∈ Ts) (hc : vwCl[ci]? = some (C, T, N)) (hk : k0 < N) (hm : Cond.fieldLink own index (T k0).1 (T k0).2.1 (T k0).2.2.1 ∈ Ts) (ha : a < n) (hv : h a = .inl (ci, fs)) (hb : fs[k0]? = some (.ref b)) (hd : decode cc pc = .ok (.getfield index, 3)) (k : JN p l e R s m args below meth c cells slots Q D z cy nL n h lv (pc + 3) (.ref (az z b) :: st)) : JN p l e R s m args below meth c cells slots Q D z cy nL n h lv pc (.ref (az z a) :: st) := by
  intro H locs ls w q
  exact va_get (D := D) (v := .ref (az z b)) E.1.1.1 E.1.1.2.1 E.1.1.2.2.2.2 hin E.1.1.2.2.2.1 E.1.2.1 w.1 a (fs := fs.map (cnV (az z))) (wln_at ha hv) hc k0 hk (E.1.1.2.2.2.2 _ hm) (fun _ h9 => h9) (by rw [List.getElem?_map, hb]; rfl) hd (k H locs ls w q)
theorem n_sG (E : EN p s m args c cc nL Ts own D cy z n0) {a b N : Nat} {i : Int32} {f : Nat → Option Nat} {fs : List Value} {h' : HP} (ha : a < n) (hv : h a = .inr (N, .inr (.inr (.inr f)))) (hb : b < n) (hvb : h b = .inl (1, fs)) (hi : vp_in i N) (hh : va_up h a (.inr (N, .inr (.inr (.inr (va_up f i.toNatClampNeg (some b)))))) = h') (hd : decode cc pc = .ok (.aastore, 1)) (k : JN p l e R s m args below meth c cells slots Q D z cy nL n h' lv (pc + 1) st) : JN p l e R s m args below meth c cells slots Q D z cy nL n h lv pc (.ref (az z b) :: .int i :: .ref (az z a) :: st) := by
  intro H locs ls w q
  refine va_astq (D := D) (r := (RX2, TX2, 4)) E.1.1.1 E.1.1.2.1 E.1.2.1 w.1 w.2.1 w.2.2 a 3 b 1 (wln_at ha hv) rfl (wln_at hb hvb) rfl hi hd (fun H1 locs1 hP hD hS => ?_)
  have e : (wln n (az z) cy h).set a (az z a, .inl (cy 3, N, .inr (.inr (.inr (.inr (va_up (fun j => (f j).map (az z)) i.toNatClampNeg (some (az z b)))))))) = wln n (az z) cy h' := by
    rw [← hh, ← wln_set ha]
    have e2 : (fun j => (va_up f i.toNatClampNeg (some b) j).map (az z)) = va_up (fun j => (f j).map (az z)) i.toNatClampNeg (some (az z b)) := by
      funext j
      by_cases hj : j = i.toNatClampNeg
      · subst hj; simp [va_up]
      · simp [va_up, hj]
    simp only [cnE, e2]
  rw [e] at hP hD
  exact k H1 locs1 ls ⟨hP, hD, hS⟩ q
theorem n_vret (E : EN p s m args c cc nL Ts own D cy z n0) (hcn : n0 + cells = n) (hr : meth.sig.returnType = none) (hlk : meth.locks = false) {h' : HP} (hh : h = h') (hd : decode cc pc = .ok (.return_, 1)) : JN p l e R s m args below meth c cells slots (MQ below (QN D z cy n h') args s cells slots (fun q : Nat => z ≤ q)) D z cy nL n h lv pc [] := by
  intro H locs ls w q T hT X
  have hz := n_size w E.2.2 hcn hT X
  subst hh
  exact W.vret E.1.1.1 E.1.1.2.1 hr (fun t ht hW => ⟨rfl, ⟨by rw [ht]; exact w.1, va_K.moved hW.alike E.1.2.1, w.2.1, E.1.2.2.warm hW, va_AO.moved hW.alike E.2.1, by rw [ht]; exact hz⟩, w.2.2.F ht⟩) w.2.2.2.2 hd hlk T hT X
theorem n_callIN (E : EN p s m args c cc nL Ts own D cy z n0) (hcn : n0 + cells = n) {y : MethodName} {ws : List Cond} {rm : Room} {bytes : ByteArray} {maxL n' index a mc ms : Nat} {host : String} {h' : HP} (hM : Met l y ws rm (va_Pc [.ref (az z a)] (PN D z cy n h)) (QN D z cy n' h') mc ms (fun q : Nat => z ≤ q)) (cw : va_CN R s args own index y host bytes maxL none ws rm mc ms 0 ∧ y.name = "<init>" ∧ (Cond.instanceMethod y).before args s = true) (hW : (st.map fun v => v.category).sum ≤ 8) (hd : decode cc pc = .ok (.invokespecial index, 3)) (hf : cells + mc ≤ R.cells ∧ slots + ms ≤ R.slots) (k : JN p l e R s m args below meth c (cells + mc) (slots + ms) Q D z cy nL n' h' lv (pc + 3) st) : JN p l e R s m args below meth c cells slots Q D z cy nL n h lv pc (.ref (az z a) :: st) := by
  intro H locs ls w q T hT X
  have hz := n_size w E.2.2 hcn hT X
  have hrun := va_runIN (As := []) (rest := st) E.1.1 hM cw (H := H) (locs := locs) (cells := cells) (slots := slots) (below := below) (meth := meth) (e := e) ⟨PN.blind, fun U hU hW => ⟨rfl, by rw [hU]; exact w.1, va_K.moved hW.alike E.1.2.1, w.2.1, E.1.2.2.warm hW, va_AO.moved hW.alike E.2.1, by rw [hU]; exact hz⟩⟩ (g := F0 m pc ls (.ref (az z a) :: st)) rfl rfl q.1 rfl (lv_room hW) hd hf
  obtain ⟨v', st₀, t, T', L, h0, X', hL, e1, e2, ⟨hv, hPN, hF⟩, stp⟩ := hrun T hT X
  cases hv
  obtain ⟨hz1, hk1⟩ := hF
  rw [h0] at hz1 hk1
  have hS := w.2.2
  obtain ⟨t2, a1, b1⟩ := k T'.heap (locs ++ L) ls ⟨by rw [e1]; exact hPN.1, hPN.2.2.1, Nat.le_trans hS.1 (by rw [e1]; exact hz1), fun q h1 h2 => by rw [e1, hk1 q (Nat.lt_of_lt_of_le h1 hS.1) h2]; exact hS.2.1 q h1 h2, fun q hq => by
      rcases List.mem_append.mp hq with h | h
      · exact hS.2.2 q h
      · exact hL q h⟩ q T' rfl X'
  exact ⟨t2, stp t2 a1, b1⟩
theorem mcni {y2 : MethodName} {cc2 : ByteArray} {n2 mc ms maxL index : Nat} {ret2 : Option FieldType} {own2 C host : String} {y : MethodName} {bytes : ByteArray} {rm : Room} (E : ∀ w ∈ wsM y2 cc2 n2 ret2, w.before args s = true) (hN : NW s) (k0 : Nat) (hk : nestl[k0]? = some (own2, index, y, host)) (hcode : Cond.code y bytes maxL none ∈ wsU) (hi : Cond.instanceMethod y ∈ wsU) (hin : Cond.initialized C ∈ wsU) (hrc : rm.cells = mc) (hrs : rm.slots = ms) (hnm : y.name = "<init>")
    (hd : y.cls = C ∧ y.cls ≠ "java/lang/invoke/MethodHandle" ∧ y.cls ≠ "java/lang/invoke/VarHandle" ∧ (parseMethodDescriptor y.desc).map (fun d => d.parameters.length) = some 0) (hR : rm.frames + 1 ≤ R.frames ∧ 8 + (maxL + 11) + rm.locals ≤ R.locals) : va_CN R s args own2 index y host bytes maxL none (wsM y bytes maxL none) rm mc ms 0 ∧ y.name = "<init>" ∧ (Cond.instanceMethod y).before args s = true :=
  have t : ∀ w ∈ wsU, w.before args s = true := fun w h => E w (List.mem_cons_of_mem _ h)
  ⟨va_cnB 0 E (good_wsM hcode) rfl hrc hrs (hN k0 _ hk) (by rw [hd.1]; exact t _ hin) hd.2 hR, hnm, t _ hi⟩
theorem met_ofN {y : MethodName} {maxL mc ms n' a : Nat} {rm : Room} {h' : HP} (hy : plainName y.cls = true) (ho : y.cls = own) (hnm : y.name = "<init>") (hlen : 1 ≤ maxL)
    (body : ∀ (p : Program) (e : Env) (s : State) (m : MethodId) (args : Array Value) (below : List Frame) (meth : Method) (c : Code), EN p s m args c cc maxL (wsM y cc maxL none) own D cy z n → meth.sig.returnType = none → meth.locks = false → meth.name = "<init>" → JN p l e rm s m args below meth c 0 0 (MQ below (QN D z cy n' h') args s mc ms (fun q : Nat => z ≤ q)) D z cy maxL n h [(0, .ref (az z a))] 0 []) :
    Met l y (wsM y cc maxL none) rm (va_Pc [.ref (az z a)] (PN D z cy n h)) (QN D z cy n' h') mc ms (fun q : Nat => z ≤ q) := by
  subst ho
  refine Met.ofW (cc := cc) (maxL := maxL) (ret := none) hy rfl ?_
  intro p e s m args below meth c s₁ B hml hv
  obtain ⟨rfl, hP, hK, hD, hN, hAO, hz⟩ := hv
  have hl := lv_entry [.ref (az z a)] (n := maxL) hlen
  rw [lg_entry_eq]
  exact body p e s m _ below meth c ⟨⟨⟨B.exec, B.bytes, hml, findClass_of_methodNamed B.named, atoms_spec (ws := wsM y cc maxL none) B.pre⟩, hK, hN⟩, hAO, hz⟩ B.returns B.notSynchronized ((name_of_methodNamed B.named B.method).1.trans hnm) s.heap [] _ ⟨hP, hD, va_S.rf⟩ hl
end NROWS
