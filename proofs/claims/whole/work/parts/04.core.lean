/-! the abstract heap: cells by their numbers (not addresses); a cell is an object (class, fields) or an array -/
abbrev AC : Type := (Nat × List Value) ⊕ (Nat × ((Nat → Int32) ⊕ ((Nat → Int64) ⊕ ((Nat → Int32) ⊕ (Nat → Option Nat)))))
abbrev HP : Type := Nat → AC
def NC : Nat := 55
def cnV (ad : Nat → Nat) : Value → Value
  | .ref a => .ref (ad a)
  | v => v
def cnE (ad : Nat → Nat) (cy : Nat → ClassId) : AC → va_E
  | .inl (ci, fs) => .inr (ci, fs.map (cnV ad))
  | .inr (n, .inl f) => .inl (cy 0, n, .inl f)
  | .inr (n, .inr (.inl f)) => .inl (cy 1, n, .inr (.inl f))
  | .inr (n, .inr (.inr (.inl f))) => .inl (cy 2, n, .inl f)
  | .inr (n, .inr (.inr (.inr g))) => .inl (cy 3, n, .inr (.inr (.inr (.inr fun j => (g j).map ad))))
def wl (ad : Nat → Nat) (cy : Nat → ClassId) (h : HP) : va_W := (List.range NC).map fun k => (ad k, cnE ad cy (h k))
theorem wl_get {ad : Nat → Nat} {cy : Nat → ClassId} {h : HP} {a : Nat} (ha : a < NC) : (wl ad cy h)[a]? = some (ad a, cnE ad cy (h a)) := by
  simp [wl, List.getElem?_range ha]
theorem wl_at {ad : Nat → Nat} {cy : Nat → ClassId} {h : HP} {a : Nat} {x : AC} (ha : a < NC) (hx : h a = x) : (wl ad cy h)[a]? = some (ad a, cnE ad cy x) := by
  rw [wl_get ha, hx]
theorem wl_key {ad : Nat → Nat} {cy : Nat → ClassId} {h : HP} {k : Nat} {q : Nat × va_E} (hq : (wl ad cy h)[k]? = some q) : k < NC ∧ q.1 = ad k := by
  simp only [wl, List.getElem?_map] at hq
  cases hr : (List.range NC)[k]? with
  | none => rw [hr] at hq; cases hq
  | some b =>
    obtain ⟨hb, e⟩ := List.getElem?_eq_some_iff.mp hr
    rw [List.getElem_range] at e
    subst e
    rw [hr] at hq
    cases hq
    exact ⟨by simpa using hb, rfl⟩
theorem wl_set {ad : Nat → Nat} {cy : Nat → ClassId} {h : HP} {a : Nat} {e : AC} (ha : a < NC) : (wl ad cy h).set a (ad a, cnE ad cy e) = wl ad cy (va_up h a e) := by
  apply List.ext_getElem?
  intro j
  by_cases hj : j = a
  · subst hj
    rw [List.getElem?_set_self (by simpa [wl] using ha), wl_get ha, va_up_self]
  · rw [List.getElem?_set_ne (Ne.symm hj)]
    simp only [wl, List.getElem?_map]
    cases hr : (List.range NC)[j]? with
    | none => rfl
    | some b =>
      obtain ⟨hb, e⟩ := List.getElem?_eq_some_iff.mp hr
      rw [List.getElem_range] at e
      subst e
      simp [va_up_ne _ _ hj]
def Aw (ad : Nat → Nat) : Nat → Prop := fun q => ∃ k, k < NC ∧ q = ad k
def tyl (cy : Nat → ClassId) : List (ClassId × FieldType) := [(cy 0, .int), (cy 1, .long), (cy 2, .boolean), (cy 3, .object RX2)]
def nestl : List (String × Nat × MethodName × String) := [(RX5, 17, yX4_init, RX5), (RX5, 24, yX1_init, RX5), (RX5, 29, yX2_init, RX5), (RX5, 36, yX3_init, RX5), (RX3, 19, yX5_isLine, RX5), (RX2, 36, yX5_isLine, RX5), (RX2, 39, yX5_hasBit, RX5), (RX1, 52, yX5_isLine, RX5), (RX1, 44, yX5_hasBit, RX5), (RX1, 48, yX5_isSize, RX5)]
def NW (U : State) : Prop := ∀ (k : Nat) (q : String × Nat × MethodName × String), nestl[k]? = some q → va_Nw (.methodLinkNest q.1 q.2.1 q.2.2.1 q.2.2.2) U
theorem NW.warm {s U : State} (hW : s.WarmedH U.vm) (h : NW s) : NW U := fun k q hk => va_Nw.warmM hW (h k q hk)
theorem NW.same {u U : State} (e : u.vm = U.vm) (h : NW u) : NW U := fun k q hk => va_Nw.same rfl e (h k q hk)
def PW (D : va_G) (ad : Nat → Nat) (cy : Nat → ClassId) (h : HP) (U : State) : Prop := va_P D vwCl (wl ad cy h) U.heap ∧ va_K D vwCl (tyl cy) U ∧ va_D (Aw ad) (wl ad cy h) ∧ NW U
def QV (D : va_G) (ad : Nat → Nat) (cy : Nat → ClassId) (v : Option Value) (h : HP) : Array Value → State → Outcome → State → Prop := fun _ st oc t => oc = .returned v ∧ PW D ad cy h t ∧ va_F (Aw ad) st t
def Wd (D : va_G) (ad : Nat → Nat) (cy : Nat → ClassId) (A : Nat → Prop) (H0 H : Heap) (locs : List Loc) (h : HP) : Prop := va_P D vwCl (wl ad cy h) H ∧ va_D A (wl ad cy h) ∧ va_S A H0 H locs
theorem Wd.D {D : va_G} {ad : Nat → Nat} {cy : Nat → ClassId} {A : Nat → Prop} {H0 H : Heap} {locs : List Loc} {h : HP} (w : Wd D ad cy A H0 H locs h) : va_D (Aw ad) (wl ad cy h) := ⟨w.2.1.1, fun k q hk => ⟨k, wl_key hk⟩⟩
theorem Wd.A {D : va_G} {ad : Nat → Nat} {cy : Nat → ClassId} {A : Nat → Prop} {H0 H : Heap} {locs : List Loc} {h : HP} (w : Wd D ad cy A H0 H locs h) : ∀ q, Aw ad q → A q := by
  rintro q ⟨k, hk, rfl⟩
  exact w.2.1.2 k _ (wl_get hk)
theorem PW.blind {D : va_G} {ad : Nat → Nat} {cy : Nat → ClassId} {h : HP} {av : List Value} : FrameBlind (va_Pc av (PW D ad cy h)) := fun a U g mk q => ⟨q.1, q.2.1, va_K.moved (u := U) (U := U.calling g mk a) (Vm.Alike.refl U.vm) q.2.2.1, q.2.2.2.1, NW.same rfl q.2.2.2.2⟩
def EE (p : Program) (s : State) (m : MethodId) (args : Array Value) (c : Code) (cc : ByteArray) (nL : Nat) (Ts : List Cond) (own : String) (D : va_G) (cy : Nat → ClassId) : Prop := CallFix p m c cc nL s args Ts own ∧ va_K D vwCl (tyl cy) s ∧ NW s
theorem Wd.PW {D : va_G} {ad : Nat → Nat} {cy : Nat → ClassId} {A : Nat → Prop} {H0 H : Heap} {locs : List Loc} {h : HP} {s U : State} (w : Wd D ad cy A H0 H locs h) (hK : va_K D vwCl (tyl cy) s) (hN : NW s) (hU : U.heap = H) (hW : s.WarmedH U.vm) : PW D ad cy h U := ⟨by rw [hU]; exact w.1, va_K.moved hW.alike hK, w.D, hN.warm hW⟩
/-- the machine stands in this method at pc, with these locals, this stack, this abstract heap: it comes to Q -/
def JJ (p : Program) (l : Launch) (e : Env) (R : Room) (s : State) (m : MethodId) (args : Array Value) (below : List Frame) (meth : Method) (c : Code) (cells slots : Nat) (Q : State → Prop) (D : va_G) (ad : Nat → Nat) (cy : Nat → ClassId) (A : Nat → Prop) (nL : Nat) (h : HP) (lv : List (Nat × Value)) (pc : Nat) (st : List Value) : Prop :=
  ∀ (H : Heap) (locs : List Loc) (ls : Array Slot), Wd D ad cy A s.heap H locs h → lv_has ls nL lv → W p l e R s m args below meth c H locs cells slots Q (F0 m pc ls st)
/-! partial operations on the abstract heap -/
def gf (ci : Nat) (h : HP) (a k : Nat) : Option Value := if a < NC then (match h a with | .inl (c, fs) => if c = ci then fs[k]? else none | .inr _ => none) else none
def gI (ci : Nat) (h : HP) (a k : Nat) : Option Int32 := match gf ci h a k with | some (.int x) => some x | _ => none
def gR (ci : Nat) (h : HP) (a k : Nat) : Option Nat := match gf ci h a k with | some (.ref b) => some b | _ => none
def pV (ci : Nat) (h : HP) (a k : Nat) (v : Value) : Option HP := if a < NC then (match h a with | .inl (c, fs) => if c = ci ∧ k < fs.length then some (va_up h a (.inl (c, fs.set k v))) else none | .inr _ => none) else none
def pI (ci : Nat) (h : HP) (a k : Nat) (x : Int32) : Option HP := pV ci h a k (.int x)
def pR (ci : Nat) (h : HP) (a k : Nat) (o : Option Nat) : Option HP := pV ci h a k (va_rf o)
def aI (h : HP) (a : Nat) (i : Int32) : Option Int32 := if a < NC then (match h a with | .inr (n, .inl f) => if i < 0 ∨ n ≤ i.toNatClampNeg then none else some (f i.toNatClampNeg) | _ => none) else none
def aJ (h : HP) (a : Nat) (i : Int32) : Option Int64 := if a < NC then (match h a with | .inr (n, .inr (.inl f)) => if i < 0 ∨ n ≤ i.toNatClampNeg then none else some (f i.toNatClampNeg) | _ => none) else none
def aZ (h : HP) (a : Nat) (i : Int32) : Option Int32 := if a < NC then (match h a with | .inr (n, .inr (.inr (.inl f))) => if i < 0 ∨ n ≤ i.toNatClampNeg then none else some (f i.toNatClampNeg) | _ => none) else none
def aG (h : HP) (a : Nat) (i : Int32) : Option (Option Nat) := if a < NC then (match h a with | .inr (n, .inr (.inr (.inr f))) => if i < 0 ∨ n ≤ i.toNatClampNeg then none else some (f i.toNatClampNeg) | _ => none) else none
def sI (h : HP) (a : Nat) (i x : Int32) : Option HP := if a < NC then (match h a with | .inr (n, .inl f) => if i < 0 ∨ n ≤ i.toNatClampNeg then none else some (va_up h a (.inr (n, .inl (upd f i.toNatClampNeg x)))) | _ => none) else none
def sJ (h : HP) (a : Nat) (i : Int32) (x : Int64) : Option HP := if a < NC then (match h a with | .inr (n, .inr (.inl f)) => if i < 0 ∨ n ≤ i.toNatClampNeg then none else some (va_up h a (.inr (n, .inr (.inl (vp_updL f i.toNatClampNeg x))))) | _ => none) else none
def sZ (h : HP) (a : Nat) (i x : Int32) : Option HP := if a < NC then (match h a with | .inr (n, .inr (.inr (.inl f))) => if i < 0 ∨ n ≤ i.toNatClampNeg then none else some (va_up h a (.inr (n, .inr (.inr (.inl (upd f i.toNatClampNeg (vp_nar .boolean x))))))) | _ => none) else none
/-- is this cell an object of that class -/
def iO (ci : Nat) (h : HP) (b : Nat) : Bool := decide (b < NC) && (match h b with | .inl (c, _) => decide (c = ci) | .inr _ => false)
def sG (h : HP) (a : Nat) (i : Int32) (b : Nat) : Option HP := if a < NC ∧ iO 1 h b = true then (match h a with | .inr (n, .inr (.inr (.inr f))) => if i < 0 ∨ n ≤ i.toNatClampNeg then none else some (va_up h a (.inr (n, .inr (.inr (.inr (va_up f i.toNatClampNeg (some b))))))) | _ => none) else none
def ck {α : Type} (ci : Nat) (h : HP) (b : Nat) (k : Option α) : Option α := if iO ci h b = true then k else none
def cz {α : Type} (x : Int32) (k : Option α) : Option α := if narrow .boolean (.int x) = .int x then k else none
def nz {α : Type} (y : Int32) (k : Option α) : Option α := if y = 0 then none else k
def cpI (h : HP) (a : Nat) (sp : Int32) (b : Nat) (dp n : Int32) : Option HP := if a < NC ∧ b < NC then (match h a, h b with | .inr (n0, .inl f), .inr (n1, .inl g) => if sp < 0 ∨ dp < 0 ∨ n < 0 ∨ n0 < sp.toNatClampNeg + n.toNatClampNeg ∨ n1 < dp.toNatClampNeg + n.toNatClampNeg then none else some (va_up h b (.inr (n1, .inl (va_cpy f g sp.toNatClampNeg dp.toNatClampNeg n.toNatClampNeg)))) | _, _ => none) else none
def cpJ (h : HP) (a : Nat) (sp : Int32) (b : Nat) (dp n : Int32) : Option HP := if a < NC ∧ b < NC then (match h a, h b with | .inr (n0, .inr (.inl f)), .inr (n1, .inr (.inl g)) => if sp < 0 ∨ dp < 0 ∨ n < 0 ∨ n0 < sp.toNatClampNeg + n.toNatClampNeg ∨ n1 < dp.toNatClampNeg + n.toNatClampNeg then none else some (va_up h b (.inr (n1, .inr (.inl (va_cpy f g sp.toNatClampNeg dp.toNatClampNeg n.toNatClampNeg))))) | _, _ => none) else none
theorem bs {α β : Type} {o : Option α} {f : α → Option β} {r : β} (h : o.bind f = some r) : ∃ v, o = some v ∧ f v = some r := by
  cases o with
  | none => cases h
  | some v => exact ⟨v, rfl, h⟩
theorem iO_spec {ci : Nat} {h : HP} {b : Nat} (e : iO ci h b = true) : b < NC ∧ ∃ fs, h b = .inl (ci, fs) := by
  unfold iO at e
  rw [Bool.and_eq_true, decide_eq_true_eq] at e
  refine ⟨e.1, ?_⟩
  have e2 := e.2
  cases hb : h b with
  | inl q =>
    obtain ⟨c, fs⟩ := q
    rw [hb] at e2
    have : c = ci := by simpa using e2
    subst this
    exact ⟨fs, rfl⟩
  | inr q => rw [hb] at e2; cases e2
theorem ck_spec {α : Type} {ci : Nat} {h : HP} {b : Nat} {k : Option α} {r : α} (e : ck ci h b k = some r) : iO ci h b = true ∧ k = some r := by
  unfold ck at e
  by_cases q : iO ci h b = true
  · rw [if_pos q] at e; exact ⟨q, e⟩
  · rw [if_neg q] at e; cases e
theorem cz_spec {α : Type} {x : Int32} {k : Option α} {r : α} (e : cz x k = some r) : narrow .boolean (.int x) = .int x ∧ k = some r := by
  unfold cz at e
  by_cases q : narrow .boolean (.int x) = .int x
  · rw [if_pos q] at e; exact ⟨q, e⟩
  · rw [if_neg q] at e; cases e
theorem nz_spec {α : Type} {x : Int32} {k : Option α} {r : α} (e : nz x k = some r) : ¬ x = 0 ∧ k = some r := by
  unfold nz at e
  by_cases q : x = 0
  · rw [if_pos q] at e; cases e
  · rw [if_neg q] at e; exact ⟨q, e⟩
theorem gf_spec {ci : Nat} {h : HP} {a k : Nat} {v : Value} (e : gf ci h a k = some v) : a < NC ∧ ∃ fs, h a = .inl (ci, fs) ∧ fs[k]? = some v := by
  unfold gf at e
  by_cases q : a < NC
  · rw [if_pos q] at e
    refine ⟨q, ?_⟩
    cases hb : h a with
    | inl z =>
      obtain ⟨c, fs⟩ := z
      rw [hb] at e
      by_cases hc : c = ci
      · subst hc
        exact ⟨fs, rfl, by simpa using e⟩
      · simp [hc] at e
    | inr z => rw [hb] at e; cases e
  · rw [if_neg q] at e; cases e
theorem gI_spec {ci : Nat} {h : HP} {a k : Nat} {x : Int32} (e : gI ci h a k = some x) : gf ci h a k = some (.int x) := by
  unfold gI at e
  split at e
  · rename_i q; rw [q]; cases e; rfl
  · cases e
theorem gR_spec {ci : Nat} {h : HP} {a k : Nat} {x : Nat} (e : gR ci h a k = some x) : gf ci h a k = some (.ref x) := by
  unfold gR at e
  split at e
  · rename_i q; rw [q]; cases e; rfl
  · cases e
theorem pV_spec {ci : Nat} {h h' : HP} {a k : Nat} {v : Value} (e : pV ci h a k v = some h') : a < NC ∧ ∃ fs, h a = .inl (ci, fs) ∧ k < fs.length ∧ h' = va_up h a (.inl (ci, fs.set k v)) := by
  unfold pV at e
  by_cases q : a < NC
  · rw [if_pos q] at e
    refine ⟨q, ?_⟩
    cases hb : h a with
    | inl z =>
      obtain ⟨c, fs⟩ := z
      rw [hb] at e
      by_cases hc : c = ci ∧ k < fs.length
      · obtain ⟨rfl, hk⟩ := hc
        simp [hk] at e
        exact ⟨fs, rfl, hk, e.symm⟩
      · simp [hc] at e
    | inr z => rw [hb] at e; cases e
  · rw [if_neg q] at e; cases e
theorem aI_spec {h : HP} {a : Nat} {i : Int32} {x : Int32} (e : aI h a i = some x) : a < NC ∧ ∃ n f, h a = .inr (n, .inl f) ∧ vp_in i n ∧ x = f i.toNatClampNeg := by
  unfold aI at e
  by_cases q : a < NC
  · rw [if_pos q] at e
    refine ⟨q, ?_⟩
    split at e
    · rename_i n f hb
      by_cases z : i < 0 ∨ n ≤ i.toNatClampNeg
      · rw [if_pos z] at e; cases e
      · rw [if_neg z] at e; cases e; exact ⟨n, f, hb, z, rfl⟩
    · cases e
  · rw [if_neg q] at e; cases e
theorem aJ_spec {h : HP} {a : Nat} {i : Int32} {x : Int64} (e : aJ h a i = some x) : a < NC ∧ ∃ n f, h a = .inr (n, .inr (.inl f)) ∧ vp_in i n ∧ x = f i.toNatClampNeg := by
  unfold aJ at e
  by_cases q : a < NC
  · rw [if_pos q] at e
    refine ⟨q, ?_⟩
    split at e
    · rename_i n f hb
      by_cases z : i < 0 ∨ n ≤ i.toNatClampNeg
      · rw [if_pos z] at e; cases e
      · rw [if_neg z] at e; cases e; exact ⟨n, f, hb, z, rfl⟩
    · cases e
  · rw [if_neg q] at e; cases e
theorem aZ_spec {h : HP} {a : Nat} {i : Int32} {x : Int32} (e : aZ h a i = some x) : a < NC ∧ ∃ n f, h a = .inr (n, .inr (.inr (.inl f))) ∧ vp_in i n ∧ x = f i.toNatClampNeg := by
  unfold aZ at e
  by_cases q : a < NC
  · rw [if_pos q] at e
    refine ⟨q, ?_⟩
    split at e
    · rename_i n f hb
      by_cases z : i < 0 ∨ n ≤ i.toNatClampNeg
      · rw [if_pos z] at e; cases e
      · rw [if_neg z] at e; cases e; exact ⟨n, f, hb, z, rfl⟩
    · cases e
  · rw [if_neg q] at e; cases e
theorem aG_spec {h : HP} {a : Nat} {i : Int32} {x : Option Nat} (e : aG h a i = some x) : a < NC ∧ ∃ n f, h a = .inr (n, .inr (.inr (.inr f))) ∧ vp_in i n ∧ x = f i.toNatClampNeg := by
  unfold aG at e
  by_cases q : a < NC
  · rw [if_pos q] at e
    refine ⟨q, ?_⟩
    split at e
    · rename_i n f hb
      by_cases z : i < 0 ∨ n ≤ i.toNatClampNeg
      · rw [if_pos z] at e; cases e
      · rw [if_neg z] at e; cases e; exact ⟨n, f, hb, z, rfl⟩
    · cases e
  · rw [if_neg q] at e; cases e
theorem sI_spec {h h' : HP} {a : Nat} {i : Int32} {x : Int32} (e : sI h a i x = some h') : a < NC ∧ ∃ n f, h a = .inr (n, .inl f) ∧ vp_in i n ∧ h' = va_up h a (.inr (n, .inl (upd f i.toNatClampNeg x))) := by
  unfold sI at e
  by_cases q : a < NC
  · rw [if_pos q] at e
    refine ⟨q, ?_⟩
    split at e
    · rename_i n f hb
      by_cases z : i < 0 ∨ n ≤ i.toNatClampNeg
      · rw [if_pos z] at e; cases e
      · rw [if_neg z] at e; cases e; exact ⟨n, f, hb, z, rfl⟩
    · cases e
  · rw [if_neg q] at e; cases e
theorem sJ_spec {h h' : HP} {a : Nat} {i : Int32} {x : Int64} (e : sJ h a i x = some h') : a < NC ∧ ∃ n f, h a = .inr (n, .inr (.inl f)) ∧ vp_in i n ∧ h' = va_up h a (.inr (n, .inr (.inl (vp_updL f i.toNatClampNeg x)))) := by
  unfold sJ at e
  by_cases q : a < NC
  · rw [if_pos q] at e
    refine ⟨q, ?_⟩
    split at e
    · rename_i n f hb
      by_cases z : i < 0 ∨ n ≤ i.toNatClampNeg
      · rw [if_pos z] at e; cases e
      · rw [if_neg z] at e; cases e; exact ⟨n, f, hb, z, rfl⟩
    · cases e
  · rw [if_neg q] at e; cases e
theorem sZ_spec {h h' : HP} {a : Nat} {i : Int32} {x : Int32} (e : sZ h a i x = some h') : a < NC ∧ ∃ n f, h a = .inr (n, .inr (.inr (.inl f))) ∧ vp_in i n ∧ h' = va_up h a (.inr (n, .inr (.inr (.inl (upd f i.toNatClampNeg (vp_nar .boolean x)))))) := by
  unfold sZ at e
  by_cases q : a < NC
  · rw [if_pos q] at e
    refine ⟨q, ?_⟩
    split at e
    · rename_i n f hb
      by_cases z : i < 0 ∨ n ≤ i.toNatClampNeg
      · rw [if_pos z] at e; cases e
      · rw [if_neg z] at e; cases e; exact ⟨n, f, hb, z, rfl⟩
    · cases e
  · rw [if_neg q] at e; cases e
theorem sG_spec {h h' : HP} {a : Nat} {i : Int32} {x : Nat} (e : sG h a i x = some h') : a < NC ∧ iO 1 h x = true ∧ ∃ n f, h a = .inr (n, .inr (.inr (.inr f))) ∧ vp_in i n ∧ h' = va_up h a (.inr (n, .inr (.inr (.inr (va_up f i.toNatClampNeg (some x)))))) := by
  unfold sG at e
  by_cases q : a < NC ∧ iO 1 h x = true
  · rw [if_pos q] at e
    refine ⟨q.1, q.2, ?_⟩
    split at e
    · rename_i n f hb
      by_cases z : i < 0 ∨ n ≤ i.toNatClampNeg
      · rw [if_pos z] at e; cases e
      · rw [if_neg z] at e; cases e; exact ⟨n, f, hb, z, rfl⟩
    · cases e
  · rw [if_neg q] at e; cases e
theorem cpI_spec {h h' : HP} {a b : Nat} {sp dp n : Int32} (e : cpI h a sp b dp n = some h') : a < NC ∧ b < NC ∧ ∃ n0 f n1 g, h a = .inr (n0, .inl f) ∧ h b = .inr (n1, .inl g) ∧ ¬ sp < 0 ∧ ¬ dp < 0 ∧ ¬ n < 0 ∧ sp.toNatClampNeg + n.toNatClampNeg ≤ n0 ∧ dp.toNatClampNeg + n.toNatClampNeg ≤ n1 ∧ h' = va_up h b (.inr (n1, .inl (va_cpy f g sp.toNatClampNeg dp.toNatClampNeg n.toNatClampNeg))) := by
  unfold cpI at e
  by_cases q : a < NC ∧ b < NC
  · rw [if_pos q] at e
    refine ⟨q.1, q.2, ?_⟩
    split at e
    · rename_i n0 f n1 g hb hc
      by_cases z : sp < 0 ∨ dp < 0 ∨ n < 0 ∨ n0 < sp.toNatClampNeg + n.toNatClampNeg ∨ n1 < dp.toNatClampNeg + n.toNatClampNeg
      · rw [if_pos z] at e; cases e
      · rw [if_neg z] at e
        cases e
        exact ⟨n0, f, n1, g, hb, hc, fun y => z (Or.inl y), fun y => z (Or.inr (Or.inl y)), fun y => z (Or.inr (Or.inr (Or.inl y))), Nat.not_lt.mp fun y => z (Or.inr (Or.inr (Or.inr (Or.inl y)))), Nat.not_lt.mp fun y => z (Or.inr (Or.inr (Or.inr (Or.inr y)))), rfl⟩
    · cases e
  · rw [if_neg q] at e; cases e
theorem cpJ_spec {h h' : HP} {a b : Nat} {sp dp n : Int32} (e : cpJ h a sp b dp n = some h') : a < NC ∧ b < NC ∧ ∃ n0 f n1 g, h a = .inr (n0, .inr (.inl f)) ∧ h b = .inr (n1, .inr (.inl g)) ∧ ¬ sp < 0 ∧ ¬ dp < 0 ∧ ¬ n < 0 ∧ sp.toNatClampNeg + n.toNatClampNeg ≤ n0 ∧ dp.toNatClampNeg + n.toNatClampNeg ≤ n1 ∧ h' = va_up h b (.inr (n1, .inr (.inl (va_cpy f g sp.toNatClampNeg dp.toNatClampNeg n.toNatClampNeg)))) := by
  unfold cpJ at e
  by_cases q : a < NC ∧ b < NC
  · rw [if_pos q] at e
    refine ⟨q.1, q.2, ?_⟩
    split at e
    · rename_i n0 f n1 g hb hc
      by_cases z : sp < 0 ∨ dp < 0 ∨ n < 0 ∨ n0 < sp.toNatClampNeg + n.toNatClampNeg ∨ n1 < dp.toNatClampNeg + n.toNatClampNeg
      · rw [if_pos z] at e; cases e
      · rw [if_neg z] at e
        cases e
        exact ⟨n0, f, n1, g, hb, hc, fun y => z (Or.inl y), fun y => z (Or.inr (Or.inl y)), fun y => z (Or.inr (Or.inr (Or.inl y))), Nat.not_lt.mp fun y => z (Or.inr (Or.inr (Or.inr (Or.inl y)))), Nat.not_lt.mp fun y => z (Or.inr (Or.inr (Or.inr (Or.inr y)))), rfl⟩
    · cases e
  · rw [if_neg q] at e; cases e
section ROWS
variable {p : Program} {l : Launch} {e : Env} {R : Room} {s : State} {m : MethodId} {args : Array Value} {below : List Frame} {meth : Method} {c : Code} {cells slots : Nat} {Q : State → Prop} {D : va_G} {ad : Nat → Nat} {cy : Nat → ClassId} {A : Nat → Prop} {nL : Nat} {h : HP} {lv : List (Nat × Value)} {pc : Nat} {st : List Value} {cc : ByteArray} {Ts : List Cond} {own : String}
theorem j_iconst (E : EE p s m args c cc nL Ts own D cy) {n : Int} {v : Int32} (hd : decode cc pc = .ok (.iconst n, 1)) (hv : Int32.ofInt n = v) (k : JJ p l e R s m args below meth c cells slots Q D ad cy A nL h lv (pc + 1) (.int v :: st)) : JJ p l e R s m args below meth c cells slots Q D ad cy A nL h lv pc st := fun H locs ls w q => lv_iconst E.1.1 E.1.2.1 hd hv (k H locs ls w q)
theorem j_bipush (E : EE p s m args c cc nL Ts own D cy) {n : Int} {v : Int32} (hd : decode cc pc = .ok (.bipush n, 2)) (hv : (Int8.ofInt n).toInt32 = v) (k : JJ p l e R s m args below meth c cells slots Q D ad cy A nL h lv (pc + 2) (.int v :: st)) : JJ p l e R s m args below meth c cells slots Q D ad cy A nL h lv pc st := fun H locs ls w q => lv_bipush E.1.1 E.1.2.1 hd hv (k H locs ls w q)
theorem j_sipush (E : EE p s m args c cc nL Ts own D cy) {n : Int} {v : Int32} (hd : decode cc pc = .ok (.sipush n, 3)) (hv : (Int16.ofInt n).toInt32 = v) (k : JJ p l e R s m args below meth c cells slots Q D ad cy A nL h lv (pc + 3) (.int v :: st)) : JJ p l e R s m args below meth c cells slots Q D ad cy A nL h lv pc st := fun H locs ls w q => lv_sipush E.1.1 E.1.2.1 hd hv (k H locs ls w q)
theorem j_lconst (E : EE p s m args c cc nL Ts own D cy) {n : Fin 2} {v : Int64} (hd : decode cc pc = .ok (.lconst n, 1)) (hv : Int64.ofNat (n : Nat) = v) (k : JJ p l e R s m args below meth c cells slots Q D ad cy A nL h lv (pc + 1) (.long v :: st)) : JJ p l e R s m args below meth c cells slots Q D ad cy A nL h lv pc st := fun H locs ls w q => lv_lconst E.1.1 E.1.2.1 hd hv (k H locs ls w q)
theorem j_null (E : EE p s m args c cc nL Ts own D cy)  (hd : decode cc pc = .ok (.aconst_null, 1))  (k : JJ p l e R s m args below meth c cells slots Q D ad cy A nL h lv (pc + 1) (.null :: st)) : JJ p l e R s m args below meth c cells slots Q D ad cy A nL h lv pc st := fun H locs ls w q => lv_null E.1.1 E.1.2.1 hd (k H locs ls w q)
theorem j_iload_n (E : EE p s m args c cc nL Ts own D cy) {kk : Fin 4} {i : Nat} {x : Int32} (k0 : Nat) (hk : lv[k0]? = some (i, .int x)) (hd : decode cc pc = .ok (.iload_n kk, 1)) (hi : (kk : Nat) = i) (k : JJ p l e R s m args below meth c cells slots Q D ad cy A nL h lv (pc + 1) (.int x :: st)) : JJ p l e R s m args below meth c cells slots Q D ad cy A nL h lv pc st := fun H locs ls w q => lv_iload_n E.1.1 E.1.2.1 hd hi (lv_at q k0 hk) (k H locs ls w q)
theorem j_iload (E : EE p s m args c cc nL Ts own D cy) {i : Nat} {x : Int32} (k0 : Nat) (hk : lv[k0]? = some (i, .int x)) (hd : decode cc pc = .ok (.iload i, 2))  (k : JJ p l e R s m args below meth c cells slots Q D ad cy A nL h lv (pc + 2) (.int x :: st)) : JJ p l e R s m args below meth c cells slots Q D ad cy A nL h lv pc st := fun H locs ls w q => lv_iload E.1.1 E.1.2.1 hd (lv_at q k0 hk) (k H locs ls w q)
theorem j_lload_n (E : EE p s m args c cc nL Ts own D cy) {kk : Fin 4} {i : Nat} {x : Int64} (k0 : Nat) (hk : lv[k0]? = some (i, .long x)) (hd : decode cc pc = .ok (.lload_n kk, 1)) (hi : (kk : Nat) = i) (k : JJ p l e R s m args below meth c cells slots Q D ad cy A nL h lv (pc + 1) (.long x :: st)) : JJ p l e R s m args below meth c cells slots Q D ad cy A nL h lv pc st := fun H locs ls w q => lv_lload_n E.1.1 E.1.2.1 hd hi (lv_at q k0 hk) (k H locs ls w q)
theorem j_lload (E : EE p s m args c cc nL Ts own D cy) {i : Nat} {x : Int64} (k0 : Nat) (hk : lv[k0]? = some (i, .long x)) (hd : decode cc pc = .ok (.lload i, 2))  (k : JJ p l e R s m args below meth c cells slots Q D ad cy A nL h lv (pc + 2) (.long x :: st)) : JJ p l e R s m args below meth c cells slots Q D ad cy A nL h lv pc st := fun H locs ls w q => lv_lload E.1.1 E.1.2.1 hd (lv_at q k0 hk) (k H locs ls w q)
theorem j_aload_n (E : EE p s m args c cc nL Ts own D cy) {kk : Fin 4} {i : Nat} {x : Nat} (k0 : Nat) (hk : lv[k0]? = some (i, .ref x)) (hd : decode cc pc = .ok (.aload_n kk, 1)) (hi : (kk : Nat) = i) (k : JJ p l e R s m args below meth c cells slots Q D ad cy A nL h lv (pc + 1) (.ref x :: st)) : JJ p l e R s m args below meth c cells slots Q D ad cy A nL h lv pc st := fun H locs ls w q => lv_aload_n E.1.1 E.1.2.1 hd hi (lv_at q k0 hk) (k H locs ls w q)
theorem j_aload (E : EE p s m args c cc nL Ts own D cy) {i : Nat} {x : Nat} (k0 : Nat) (hk : lv[k0]? = some (i, .ref x)) (hd : decode cc pc = .ok (.aload i, 2))  (k : JJ p l e R s m args below meth c cells slots Q D ad cy A nL h lv (pc + 2) (.ref x :: st)) : JJ p l e R s m args below meth c cells slots Q D ad cy A nL h lv pc st := fun H locs ls w q => lv_aload E.1.1 E.1.2.1 hd (lv_at q k0 hk) (k H locs ls w q)
theorem j_istore_n (E : EE p s m args c cc nL Ts own D cy) {kk : Fin 4} {i : Nat} {x : Int32} {lv' : List (Nat × Value)} (hd : decode cc pc = .ok (.istore_n kk, 1)) (hi : (kk : Nat) = i) (hn : i < nL) (hl : (i, Value.int x) :: lv.filter (fun q => !(q.1 == i) && !(q.1 + 1 == i && q.2.category == 2)) = lv') (k : JJ p l e R s m args below meth c cells slots Q D ad cy A nL h lv' (pc + 1) st) : JJ p l e R s m args below meth c cells slots Q D ad cy A nL h lv pc (.int x :: st) := fun H locs ls w q => lv_istore_n E.1.1 E.1.2.1 hd hi q hn hl (fun ls q => k H locs ls w q)
theorem j_istore (E : EE p s m args c cc nL Ts own D cy) {i : Nat} {x : Int32} {lv' : List (Nat × Value)} (hd : decode cc pc = .ok (.istore i, 2)) (hn : i < nL) (hl : (i, Value.int x) :: lv.filter (fun q => !(q.1 == i) && !(q.1 + 1 == i && q.2.category == 2)) = lv') (k : JJ p l e R s m args below meth c cells slots Q D ad cy A nL h lv' (pc + 2) st) : JJ p l e R s m args below meth c cells slots Q D ad cy A nL h lv pc (.int x :: st) := fun H locs ls w q => lv_istore E.1.1 E.1.2.1 hd q hn hl (fun ls q => k H locs ls w q)
theorem j_lstore_n (E : EE p s m args c cc nL Ts own D cy) {kk : Fin 4} {i : Nat} {x : Int64} {lv' : List (Nat × Value)} (hd : decode cc pc = .ok (.lstore_n kk, 1)) (hi : (kk : Nat) = i) (hn : i + 1 < nL) (hl : (i, Value.long x) :: lv.filter (fun q => !(q.1 == i) && (!(q.1 == i + 1) && !(q.1 + 1 == i && q.2.category == 2))) = lv') (k : JJ p l e R s m args below meth c cells slots Q D ad cy A nL h lv' (pc + 1) st) : JJ p l e R s m args below meth c cells slots Q D ad cy A nL h lv pc (.long x :: st) := fun H locs ls w q => lv_lstore_n E.1.1 E.1.2.1 hd hi q hn hl (fun ls q => k H locs ls w q)
theorem j_lstore (E : EE p s m args c cc nL Ts own D cy) {i : Nat} {x : Int64} {lv' : List (Nat × Value)} (hd : decode cc pc = .ok (.lstore i, 2)) (hn : i + 1 < nL) (hl : (i, Value.long x) :: lv.filter (fun q => !(q.1 == i) && (!(q.1 == i + 1) && !(q.1 + 1 == i && q.2.category == 2))) = lv') (k : JJ p l e R s m args below meth c cells slots Q D ad cy A nL h lv' (pc + 2) st) : JJ p l e R s m args below meth c cells slots Q D ad cy A nL h lv pc (.long x :: st) := fun H locs ls w q => lv_lstore E.1.1 E.1.2.1 hd q hn hl (fun ls q => k H locs ls w q)
theorem j_astore_n (E : EE p s m args c cc nL Ts own D cy) {kk : Fin 4} {i : Nat} {x : Nat} {lv' : List (Nat × Value)} (hd : decode cc pc = .ok (.astore_n kk, 1)) (hi : (kk : Nat) = i) (hn : i < nL) (hl : (i, Value.ref x) :: lv.filter (fun q => !(q.1 == i) && !(q.1 + 1 == i && q.2.category == 2)) = lv') (k : JJ p l e R s m args below meth c cells slots Q D ad cy A nL h lv' (pc + 1) st) : JJ p l e R s m args below meth c cells slots Q D ad cy A nL h lv pc (.ref x :: st) := fun H locs ls w q => lv_astore_n E.1.1 E.1.2.1 hd hi q hn hl (fun ls q => k H locs ls w q)
theorem j_astore (E : EE p s m args c cc nL Ts own D cy) {i : Nat} {x : Nat} {lv' : List (Nat × Value)} (hd : decode cc pc = .ok (.astore i, 2)) (hn : i < nL) (hl : (i, Value.ref x) :: lv.filter (fun q => !(q.1 == i) && !(q.1 + 1 == i && q.2.category == 2)) = lv') (k : JJ p l e R s m args below meth c cells slots Q D ad cy A nL h lv' (pc + 2) st) : JJ p l e R s m args below meth c cells slots Q D ad cy A nL h lv pc (.ref x :: st) := fun H locs ls w q => lv_astore E.1.1 E.1.2.1 hd q hn hl (fun ls q => k H locs ls w q)
theorem j_iinc (E : EE p s m args c cc nL Ts own D cy) {i k0 : Nat} {n : Int} {x v : Int32} {lv' : List (Nat × Value)} (hd : decode cc pc = .ok (.iinc i n, 3)) (hk : lv[k0]? = some (i, .int x)) (hv : x + Int32.ofInt n = v) (hn : i < nL) (hl : (i, Value.int v) :: lv.filter (fun q => !(q.1 == i) && !(q.1 + 1 == i && q.2.category == 2)) = lv') (k : JJ p l e R s m args below meth c cells slots Q D ad cy A nL h lv' (pc + 3) st) : JJ p l e R s m args below meth c cells slots Q D ad cy A nL h lv pc st := fun H locs ls w q => lv_iinc E.1.1 E.1.2.1 hd q hk hv hn hl (fun ls q => k H locs ls w q)
theorem j_perm {lv' : List (Nat × Value)} (ks : List Nat) (hl : lv_pick lv ks = lv') (k : JJ p l e R s m args below meth c cells slots Q D ad cy A nL h lv' pc st) : JJ p l e R s m args below meth c cells slots Q D ad cy A nL h lv pc st := fun H locs ls w q => k H locs ls w (lv_sub q ks hl)
theorem j_stk {st' : List Value} (hs : st = st') (k : JJ p l e R s m args below meth c cells slots Q D ad cy A nL h lv pc st') : JJ p l e R s m args below meth c cells slots Q D ad cy A nL h lv pc st := hs ▸ k
theorem j_iadd (E : EE p s m args c cc nL Ts own D cy) {x y : Int32} (hd : decode cc pc = .ok (.iadd, 1))  (k : JJ p l e R s m args below meth c cells slots Q D ad cy A nL h lv (pc + 1) (.int (x + y) :: st)) : JJ p l e R s m args below meth c cells slots Q D ad cy A nL h lv pc (.int y :: .int x :: st) := fun H locs ls w q => lv_iadd E.1.1 E.1.2.1 hd (k H locs ls w q)
theorem j_isub (E : EE p s m args c cc nL Ts own D cy) {x y : Int32} (hd : decode cc pc = .ok (.isub, 1))  (k : JJ p l e R s m args below meth c cells slots Q D ad cy A nL h lv (pc + 1) (.int (x - y) :: st)) : JJ p l e R s m args below meth c cells slots Q D ad cy A nL h lv pc (.int y :: .int x :: st) := fun H locs ls w q => lv_isub E.1.1 E.1.2.1 hd (k H locs ls w q)
theorem j_imul (E : EE p s m args c cc nL Ts own D cy) {x y : Int32} (hd : decode cc pc = .ok (.imul, 1))  (k : JJ p l e R s m args below meth c cells slots Q D ad cy A nL h lv (pc + 1) (.int (x * y) :: st)) : JJ p l e R s m args below meth c cells slots Q D ad cy A nL h lv pc (.int y :: .int x :: st) := fun H locs ls w q => lv_imul E.1.1 E.1.2.1 hd (k H locs ls w q)
theorem j_iand (E : EE p s m args c cc nL Ts own D cy) {x y : Int32} (hd : decode cc pc = .ok (.iand, 1))  (k : JJ p l e R s m args below meth c cells slots Q D ad cy A nL h lv (pc + 1) (.int (x &&& y) :: st)) : JJ p l e R s m args below meth c cells slots Q D ad cy A nL h lv pc (.int y :: .int x :: st) := fun H locs ls w q => lv_iand E.1.1 E.1.2.1 hd (k H locs ls w q)
theorem j_ior (E : EE p s m args c cc nL Ts own D cy) {x y : Int32} (hd : decode cc pc = .ok (.ior, 1))  (k : JJ p l e R s m args below meth c cells slots Q D ad cy A nL h lv (pc + 1) (.int (x ||| y) :: st)) : JJ p l e R s m args below meth c cells slots Q D ad cy A nL h lv pc (.int y :: .int x :: st) := fun H locs ls w q => lv_ior E.1.1 E.1.2.1 hd (k H locs ls w q)
theorem j_ixor (E : EE p s m args c cc nL Ts own D cy) {x y : Int32} (hd : decode cc pc = .ok (.ixor, 1))  (k : JJ p l e R s m args below meth c cells slots Q D ad cy A nL h lv (pc + 1) (.int (x ^^^ y) :: st)) : JJ p l e R s m args below meth c cells slots Q D ad cy A nL h lv pc (.int y :: .int x :: st) := fun H locs ls w q => lv_ixor E.1.1 E.1.2.1 hd (k H locs ls w q)
theorem j_ishl (E : EE p s m args c cc nL Ts own D cy) {x y : Int32} (hd : decode cc pc = .ok (.ishl, 1))  (k : JJ p l e R s m args below meth c cells slots Q D ad cy A nL h lv (pc + 1) (.int (x <<< (y &&& 31)) :: st)) : JJ p l e R s m args below meth c cells slots Q D ad cy A nL h lv pc (.int y :: .int x :: st) := fun H locs ls w q => lv_ishl E.1.1 E.1.2.1 hd (k H locs ls w q)
theorem j_ishr (E : EE p s m args c cc nL Ts own D cy) {x y : Int32} (hd : decode cc pc = .ok (.ishr, 1))  (k : JJ p l e R s m args below meth c cells slots Q D ad cy A nL h lv (pc + 1) (.int (x >>> (y &&& 31)) :: st)) : JJ p l e R s m args below meth c cells slots Q D ad cy A nL h lv pc (.int y :: .int x :: st) := fun H locs ls w q => lv_ishr E.1.1 E.1.2.1 hd (k H locs ls w q)
theorem j_ladd (E : EE p s m args c cc nL Ts own D cy) {x y : Int64} (hd : decode cc pc = .ok (.ladd, 1))  (k : JJ p l e R s m args below meth c cells slots Q D ad cy A nL h lv (pc + 1) (.long (x + y) :: st)) : JJ p l e R s m args below meth c cells slots Q D ad cy A nL h lv pc (.long y :: .long x :: st) := fun H locs ls w q => lv_ladd E.1.1 E.1.2.1 hd (k H locs ls w q)
theorem j_lmul (E : EE p s m args c cc nL Ts own D cy) {x y : Int64} (hd : decode cc pc = .ok (.lmul, 1))  (k : JJ p l e R s m args below meth c cells slots Q D ad cy A nL h lv (pc + 1) (.long (x * y) :: st)) : JJ p l e R s m args below meth c cells slots Q D ad cy A nL h lv pc (.long y :: .long x :: st) := fun H locs ls w q => lv_lmul E.1.1 E.1.2.1 hd (k H locs ls w q)
theorem j_land (E : EE p s m args c cc nL Ts own D cy) {x y : Int64} (hd : decode cc pc = .ok (.land, 1))  (k : JJ p l e R s m args below meth c cells slots Q D ad cy A nL h lv (pc + 1) (.long (x &&& y) :: st)) : JJ p l e R s m args below meth c cells slots Q D ad cy A nL h lv pc (.long y :: .long x :: st) := fun H locs ls w q => lv_land E.1.1 E.1.2.1 hd (k H locs ls w q)
theorem j_lor (E : EE p s m args c cc nL Ts own D cy) {x y : Int64} (hd : decode cc pc = .ok (.lor, 1))  (k : JJ p l e R s m args below meth c cells slots Q D ad cy A nL h lv (pc + 1) (.long (x ||| y) :: st)) : JJ p l e R s m args below meth c cells slots Q D ad cy A nL h lv pc (.long y :: .long x :: st) := fun H locs ls w q => lv_lor E.1.1 E.1.2.1 hd (k H locs ls w q)
theorem j_idiv (E : EE p s m args c cc nL Ts own D cy) {x y : Int32} (hne : ¬ y = 0) (hd : decode cc pc = .ok (.idiv, 1))  (k : JJ p l e R s m args below meth c cells slots Q D ad cy A nL h lv (pc + 1) (.int (x / y) :: st)) : JJ p l e R s m args below meth c cells slots Q D ad cy A nL h lv pc (.int y :: .int x :: st) := fun H locs ls w q => lv_idiv E.1.1 E.1.2.1 hd hne (k H locs ls w q)
theorem j_irem (E : EE p s m args c cc nL Ts own D cy) {x y : Int32} (hne : ¬ y = 0) (hd : decode cc pc = .ok (.irem, 1))  (k : JJ p l e R s m args below meth c cells slots Q D ad cy A nL h lv (pc + 1) (.int (x - x / y * y) :: st)) : JJ p l e R s m args below meth c cells slots Q D ad cy A nL h lv pc (.int y :: .int x :: st) := fun H locs ls w q => lv_irem E.1.1 E.1.2.1 hd hne (k H locs ls w q)
theorem j_iushr (E : EE p s m args c cc nL Ts own D cy) {x y : Int32} (hd : decode cc pc = .ok (.iushr, 1))  (k : JJ p l e R s m args below meth c cells slots Q D ad cy A nL h lv (pc + 1) (.int ((x.toUInt32 >>> (y.toUInt32 &&& Int32.toUInt32 31)).toInt32) :: st)) : JJ p l e R s m args below meth c cells slots Q D ad cy A nL h lv pc (.int y :: .int x :: st) := fun H locs ls w q => lv_iushr E.1.1 E.1.2.1 hd rfl (k H locs ls w q)
theorem j_lshl (E : EE p s m args c cc nL Ts own D cy) {x : Int64} {y : Int32} (hd : decode cc pc = .ok (.lshl, 1))  (k : JJ p l e R s m args below meth c cells slots Q D ad cy A nL h lv (pc + 1) (.long (x <<< (y.toInt64 &&& 63)) :: st)) : JJ p l e R s m args below meth c cells slots Q D ad cy A nL h lv pc (.int y :: .long x :: st) := fun H locs ls w q => lv_lshl E.1.1 E.1.2.1 hd rfl (k H locs ls w q)
theorem j_i2l (E : EE p s m args c cc nL Ts own D cy) {x : Int32} (hd : decode cc pc = .ok (.i2l, 1))  (k : JJ p l e R s m args below meth c cells slots Q D ad cy A nL h lv (pc + 1) (.long x.toInt64 :: st)) : JJ p l e R s m args below meth c cells slots Q D ad cy A nL h lv pc (.int x :: st) := fun H locs ls w q => lv_i2l E.1.1 E.1.2.1 hd rfl (k H locs ls w q)
theorem j_lcmp (E : EE p s m args c cc nL Ts own D cy) {x y : Int64} (hd : decode cc pc = .ok (.lcmp, 1))  (k : JJ p l e R s m args below meth c cells slots Q D ad cy A nL h lv (pc + 1) (.int (lg_cmp x y) :: st)) : JJ p l e R s m args below meth c cells slots Q D ad cy A nL h lv pc (.long y :: .long x :: st) := fun H locs ls w q => W.lcmp E.1.1 E.1.2.1 hd (k H locs ls w q)
theorem j_dup (E : EE p s m args c cc nL Ts own D cy) {va : Value} (hd : decode cc pc = .ok (.dup, 1)) (hva : va.category = 1) (k : JJ p l e R s m args below meth c cells slots Q D ad cy A nL h lv (pc + 1) (va :: va :: st)) : JJ p l e R s m args below meth c cells slots Q D ad cy A nL h lv pc (va :: st) := fun H locs ls w q => lv_dup E.1.1 E.1.2.1 hd hva (k H locs ls w q)
theorem j_pop (E : EE p s m args c cc nL Ts own D cy) {va : Value} (hd : decode cc pc = .ok (.pop, 1)) (hva : va.category = 1) (k : JJ p l e R s m args below meth c cells slots Q D ad cy A nL h lv (pc + 1) st) : JJ p l e R s m args below meth c cells slots Q D ad cy A nL h lv pc (va :: st) := fun H locs ls w q => lv_pop E.1.1 E.1.2.1 hd hva (k H locs ls w q)
theorem j_dup2 (E : EE p s m args c cc nL Ts own D cy) {va vb : Value} (hd : decode cc pc = .ok (.dup2, 1)) (hva : va.category = 1) (hvb : vb.category = 1) (k : JJ p l e R s m args below meth c cells slots Q D ad cy A nL h lv (pc + 1) (va :: vb :: va :: vb :: st)) : JJ p l e R s m args below meth c cells slots Q D ad cy A nL h lv pc (va :: vb :: st) := fun H locs ls w q => lv_dup2_11 E.1.1 E.1.2.1 hd hva hvb (k H locs ls w q)
theorem j_ldcw (E : EE p s m args c cc nL Ts own D cy) {index : Nat} {v : Int32} (hm : Cond.constant own index v ∈ Ts) (hd : decode cc pc = .ok (.ldc_w index, 3))  (k : JJ p l e R s m args below meth c cells slots Q D ad cy A nL h lv (pc + 3) (.int v :: st)) : JJ p l e R s m args below meth c cells slots Q D ad cy A nL h lv pc st := fun H locs ls w q => lv_ldcw E.1.1 E.1.2.1 E.1.2.2.2.1 (E.1.2.2.2.2 _ hm) hd (k H locs ls w q)
theorem j_ldc2 (E : EE p s m args c cc nL Ts own D cy) {index : Nat} {v : Int64} (hm : Cond.constantLong own index v ∈ Ts) (hd : decode cc pc = .ok (.ldc2_w index, 3))  (k : JJ p l e R s m args below meth c cells slots Q D ad cy A nL h lv (pc + 3) (.long v :: st)) : JJ p l e R s m args below meth c cells slots Q D ad cy A nL h lv pc st := fun H locs ls w q => lv_ldc2 E.1.1 E.1.2.1 E.1.2.2.2.1 (E.1.2.2.2.2 _ hm) hd (k H locs ls w q)
theorem j_if_eq (E : EE p s m args c cc nL Ts own D cy) {x : Int32} {off : Int} {tgt : Nat} (hd : decode cc pc = .ok (.ifCond .eq off, 3)) (ht : (pc : Int) + off = (tgt : Int)) (kt : x = 0 → JJ p l e R s m args below meth c cells slots Q D ad cy A nL h lv tgt st) (kf : ¬ x = 0 → JJ p l e R s m args below meth c cells slots Q D ad cy A nL h lv (pc + 3) st) : JJ p l e R s m args below meth c cells slots Q D ad cy A nL h lv pc (.int x :: st) := fun H locs ls w q => lv_if_eq E.1.1 E.1.2.1 hd ht (fun z => kt z H locs ls w q) (fun z => kf z H locs ls w q)
theorem j_icmp_eq (E : EE p s m args c cc nL Ts own D cy) {x y : Int32} {off : Int} {tgt : Nat} (hd : decode cc pc = .ok (.if_icmp .eq off, 3)) (ht : (pc : Int) + off = (tgt : Int)) (kt : x = y → JJ p l e R s m args below meth c cells slots Q D ad cy A nL h lv tgt st) (kf : ¬ x = y → JJ p l e R s m args below meth c cells slots Q D ad cy A nL h lv (pc + 3) st) : JJ p l e R s m args below meth c cells slots Q D ad cy A nL h lv pc (.int y :: .int x :: st) := fun H locs ls w q => lv_icmp_eq E.1.1 E.1.2.1 hd ht (fun z => kt z H locs ls w q) (fun z => kf z H locs ls w q)
theorem j_if_lt (E : EE p s m args c cc nL Ts own D cy) {x : Int32} {off : Int} {tgt : Nat} (hd : decode cc pc = .ok (.ifCond .lt off, 3)) (ht : (pc : Int) + off = (tgt : Int)) (kt : x < 0 → JJ p l e R s m args below meth c cells slots Q D ad cy A nL h lv tgt st) (kf : ¬ x < 0 → JJ p l e R s m args below meth c cells slots Q D ad cy A nL h lv (pc + 3) st) : JJ p l e R s m args below meth c cells slots Q D ad cy A nL h lv pc (.int x :: st) := fun H locs ls w q => lv_if_lt E.1.1 E.1.2.1 hd ht (fun z => kt z H locs ls w q) (fun z => kf z H locs ls w q)
theorem j_icmp_lt (E : EE p s m args c cc nL Ts own D cy) {x y : Int32} {off : Int} {tgt : Nat} (hd : decode cc pc = .ok (.if_icmp .lt off, 3)) (ht : (pc : Int) + off = (tgt : Int)) (kt : x < y → JJ p l e R s m args below meth c cells slots Q D ad cy A nL h lv tgt st) (kf : ¬ x < y → JJ p l e R s m args below meth c cells slots Q D ad cy A nL h lv (pc + 3) st) : JJ p l e R s m args below meth c cells slots Q D ad cy A nL h lv pc (.int y :: .int x :: st) := fun H locs ls w q => lv_icmp_lt E.1.1 E.1.2.1 hd ht (fun z => kt z H locs ls w q) (fun z => kf z H locs ls w q)
theorem j_if_ge (E : EE p s m args c cc nL Ts own D cy) {x : Int32} {off : Int} {tgt : Nat} (hd : decode cc pc = .ok (.ifCond .ge off, 3)) (ht : (pc : Int) + off = (tgt : Int)) (kt : 0 ≤ x → JJ p l e R s m args below meth c cells slots Q D ad cy A nL h lv tgt st) (kf : ¬ 0 ≤ x → JJ p l e R s m args below meth c cells slots Q D ad cy A nL h lv (pc + 3) st) : JJ p l e R s m args below meth c cells slots Q D ad cy A nL h lv pc (.int x :: st) := fun H locs ls w q => lv_if_ge E.1.1 E.1.2.1 hd ht (fun z => kt z H locs ls w q) (fun z => kf z H locs ls w q)
theorem j_icmp_ge (E : EE p s m args c cc nL Ts own D cy) {x y : Int32} {off : Int} {tgt : Nat} (hd : decode cc pc = .ok (.if_icmp .ge off, 3)) (ht : (pc : Int) + off = (tgt : Int)) (kt : y ≤ x → JJ p l e R s m args below meth c cells slots Q D ad cy A nL h lv tgt st) (kf : ¬ y ≤ x → JJ p l e R s m args below meth c cells slots Q D ad cy A nL h lv (pc + 3) st) : JJ p l e R s m args below meth c cells slots Q D ad cy A nL h lv pc (.int y :: .int x :: st) := fun H locs ls w q => lv_icmp_ge E.1.1 E.1.2.1 hd ht (fun z => kt z H locs ls w q) (fun z => kf z H locs ls w q)
theorem j_if_gt (E : EE p s m args c cc nL Ts own D cy) {x : Int32} {off : Int} {tgt : Nat} (hd : decode cc pc = .ok (.ifCond .gt off, 3)) (ht : (pc : Int) + off = (tgt : Int)) (kt : 0 < x → JJ p l e R s m args below meth c cells slots Q D ad cy A nL h lv tgt st) (kf : ¬ 0 < x → JJ p l e R s m args below meth c cells slots Q D ad cy A nL h lv (pc + 3) st) : JJ p l e R s m args below meth c cells slots Q D ad cy A nL h lv pc (.int x :: st) := fun H locs ls w q => lv_if_gt E.1.1 E.1.2.1 hd ht (fun z => kt z H locs ls w q) (fun z => kf z H locs ls w q)
theorem j_icmp_gt (E : EE p s m args c cc nL Ts own D cy) {x y : Int32} {off : Int} {tgt : Nat} (hd : decode cc pc = .ok (.if_icmp .gt off, 3)) (ht : (pc : Int) + off = (tgt : Int)) (kt : y < x → JJ p l e R s m args below meth c cells slots Q D ad cy A nL h lv tgt st) (kf : ¬ y < x → JJ p l e R s m args below meth c cells slots Q D ad cy A nL h lv (pc + 3) st) : JJ p l e R s m args below meth c cells slots Q D ad cy A nL h lv pc (.int y :: .int x :: st) := fun H locs ls w q => lv_icmp_gt E.1.1 E.1.2.1 hd ht (fun z => kt z H locs ls w q) (fun z => kf z H locs ls w q)
theorem j_if_le (E : EE p s m args c cc nL Ts own D cy) {x : Int32} {off : Int} {tgt : Nat} (hd : decode cc pc = .ok (.ifCond .le off, 3)) (ht : (pc : Int) + off = (tgt : Int)) (kt : x ≤ 0 → JJ p l e R s m args below meth c cells slots Q D ad cy A nL h lv tgt st) (kf : ¬ x ≤ 0 → JJ p l e R s m args below meth c cells slots Q D ad cy A nL h lv (pc + 3) st) : JJ p l e R s m args below meth c cells slots Q D ad cy A nL h lv pc (.int x :: st) := fun H locs ls w q => lv_if_le E.1.1 E.1.2.1 hd ht (fun z => kt z H locs ls w q) (fun z => kf z H locs ls w q)
theorem j_icmp_le (E : EE p s m args c cc nL Ts own D cy) {x y : Int32} {off : Int} {tgt : Nat} (hd : decode cc pc = .ok (.if_icmp .le off, 3)) (ht : (pc : Int) + off = (tgt : Int)) (kt : x ≤ y → JJ p l e R s m args below meth c cells slots Q D ad cy A nL h lv tgt st) (kf : ¬ x ≤ y → JJ p l e R s m args below meth c cells slots Q D ad cy A nL h lv (pc + 3) st) : JJ p l e R s m args below meth c cells slots Q D ad cy A nL h lv pc (.int y :: .int x :: st) := fun H locs ls w q => lv_icmp_le E.1.1 E.1.2.1 hd ht (fun z => kt z H locs ls w q) (fun z => kf z H locs ls w q)
theorem j_if_ne (E : EE p s m args c cc nL Ts own D cy) {x : Int32} {off : Int} {tgt : Nat} (hd : decode cc pc = .ok (.ifCond .ne off, 3)) (ht : (pc : Int) + off = (tgt : Int)) (kt : ¬ x = 0 → JJ p l e R s m args below meth c cells slots Q D ad cy A nL h lv tgt st) (kf : x = 0 → JJ p l e R s m args below meth c cells slots Q D ad cy A nL h lv (pc + 3) st) : JJ p l e R s m args below meth c cells slots Q D ad cy A nL h lv pc (.int x :: st) := fun H locs ls w q => lv_if_ne E.1.1 E.1.2.1 hd ht (fun z => kt z H locs ls w q) (fun z => kf z H locs ls w q)
theorem j_icmp_ne (E : EE p s m args c cc nL Ts own D cy) {x y : Int32} {off : Int} {tgt : Nat} (hd : decode cc pc = .ok (.if_icmp .ne off, 3)) (ht : (pc : Int) + off = (tgt : Int)) (kt : ¬ x = y → JJ p l e R s m args below meth c cells slots Q D ad cy A nL h lv tgt st) (kf : x = y → JJ p l e R s m args below meth c cells slots Q D ad cy A nL h lv (pc + 3) st) : JJ p l e R s m args below meth c cells slots Q D ad cy A nL h lv pc (.int y :: .int x :: st) := fun H locs ls w q => lv_icmp_ne E.1.1 E.1.2.1 hd ht (fun z => kt z H locs ls w q) (fun z => kf z H locs ls w q)
theorem j_goto (E : EE p s m args c cc nL Ts own D cy) {off : Int} {tgt : Nat} (hd : decode cc pc = .ok (.goto off, 3)) (ht : (pc : Int) + off = (tgt : Int)) (k : JJ p l e R s m args below meth c cells slots Q D ad cy A nL h lv tgt st) : JJ p l e R s m args below meth c cells slots Q D ad cy A nL h lv pc st := fun H locs ls w q => lv_goto E.1.1 E.1.2.1 hd ht (k H locs ls w q)
theorem j_ifnull (E : EE p s m args c cc nL Ts own D cy) {x : Nat} {off : Int} (hd : decode cc pc = .ok (.ifnull off, 3)) (k : JJ p l e R s m args below meth c cells slots Q D ad cy A nL h lv (pc + 3) st) : JJ p l e R s m args below meth c cells slots Q D ad cy A nL h lv pc (.ref x :: st) := fun H locs ls w q => lv_ifnull E.1.1 E.1.2.1 hd (k H locs ls w q)
theorem j_ifnullN (E : EE p s m args c cc nL Ts own D cy) {off : Int} {tgt : Nat} (hd : decode cc pc = .ok (.ifnull off, 3)) (ht : (pc : Int) + off = (tgt : Int)) (k : JJ p l e R s m args below meth c cells slots Q D ad cy A nL h lv tgt st) : JJ p l e R s m args below meth c cells slots Q D ad cy A nL h lv pc (.null :: st) := fun H locs ls w q => lv_ifnullN E.1.1 E.1.2.1 hd ht (k H locs ls w q)
theorem j_ifnonnull (E : EE p s m args c cc nL Ts own D cy) {x : Nat} {off : Int} {tgt : Nat} (hd : decode cc pc = .ok (.ifnonnull off, 3)) (ht : (pc : Int) + off = (tgt : Int)) (k : JJ p l e R s m args below meth c cells slots Q D ad cy A nL h lv tgt st) : JJ p l e R s m args below meth c cells slots Q D ad cy A nL h lv pc (.ref x :: st) := fun H locs ls w q => lv_ifnonnull E.1.1 E.1.2.1 hd ht (k H locs ls w q)
theorem j_ifnonnullN (E : EE p s m args c cc nL Ts own D cy) {off : Int} (hd : decode cc pc = .ok (.ifnonnull off, 3)) (k : JJ p l e R s m args below meth c cells slots Q D ad cy A nL h lv (pc + 3) st) : JJ p l e R s m args below meth c cells slots Q D ad cy A nL h lv pc (.null :: st) := fun H locs ls w q => lv_ifnonnullN E.1.1 E.1.2.1 hd (k H locs ls w q)
theorem j_tabIn (E : EE p s m args c cc nL Ts own D cy) {dflt lo hi : Int} {offs : Array Int} {len : Nat} {x : Int32} {off : Int} {tgt : Nat} (hd : decode cc pc = .ok (.tableswitch dflt lo hi offs, len)) (h1 : ¬ x.toInt < lo) (h2 : ¬ hi < x.toInt) (ho : offs[(x.toInt - lo).toNat]? = some off) (ht : (pc : Int) + off = (tgt : Int)) (k : JJ p l e R s m args below meth c cells slots Q D ad cy A nL h lv tgt st) : JJ p l e R s m args below meth c cells slots Q D ad cy A nL h lv pc (.int x :: st) := fun H locs ls w q => lv_tableIn E.1.1 E.1.2.1 hd h1 h2 ho ht (k H locs ls w q)
theorem j_tabOut (E : EE p s m args c cc nL Ts own D cy) {dflt lo hi : Int} {offs : Array Int} {len : Nat} {x : Int32} {tgt : Nat} (hd : decode cc pc = .ok (.tableswitch dflt lo hi offs, len)) (h1 : x.toInt < lo ∨ hi < x.toInt) (ht : (pc : Int) + dflt = (tgt : Int)) (k : JJ p l e R s m args below meth c cells slots Q D ad cy A nL h lv tgt st) : JJ p l e R s m args below meth c cells slots Q D ad cy A nL h lv pc (.int x :: st) := fun H locs ls w q => lv_tableOut E.1.1 E.1.2.1 hd h1 ht (k H locs ls w q)
theorem j_look (E : EE p s m args c cc nL Ts own D cy) {dflt : Int} {ps : Array (Int × Int)} {len : Nat} {x : Int32} {off : Int} {tgt : Nat} (hd : decode cc pc = .ok (.lookupswitch dflt ps, len)) (hp : (ps.toList.zip (ps.toList.drop 1)).all (fun (a, next) => a.1 < next.1) = true) (ho : Op.lookupswitch.offset ps.toList dflt x.toInt = off) (ht : (pc : Int) + off = (tgt : Int)) (k : JJ p l e R s m args below meth c cells slots Q D ad cy A nL h lv tgt st) : JJ p l e R s m args below meth c cells slots Q D ad cy A nL h lv pc (.int x :: st) := fun H locs ls w q => lv_lookup E.1.1 E.1.2.1 hd hp ho ht (k H locs ls w q)
theorem j_getV (E : EE p s m args c cc nL Ts own D cy) {C : String} {T : u_T} {N ci index a k0 : Nat} (hin : ∀ w ∈ u_ws C T N, w ∈ Ts) (hc : vwCl[ci]? = some (C, T, N)) (hk : k0 < N) (hm : Cond.fieldLink own index (T k0).1 (T k0).2.1 (T k0).2.2.1 ∈ Ts) {v : Value} (hv : gf ci h a k0 = some v) (hd : decode cc pc = .ok (.getfield index, 3)) (k : JJ p l e R s m args below meth c cells slots Q D ad cy A nL h lv (pc + 3) (cnV ad v :: st)) : JJ p l e R s m args below meth c cells slots Q D ad cy A nL h lv pc (.ref (ad a) :: st) := by
  intro H locs ls w q
  obtain ⟨ha, fs, h1, h2⟩ := gf_spec hv
  exact va_get (D := D) (v := cnV ad v) E.1.1 E.1.2.1 E.1.2.2.2.2 hin E.1.2.2.2.1 E.2.1 w.1 a (fs := fs.map (cnV ad)) (wl_at ha h1) hc k0 hk (E.1.2.2.2.2 _ hm) (fun _ h9 => h9) (by rw [List.getElem?_map, h2]; rfl) hd (k H locs ls w q)
theorem j_getI (E : EE p s m args c cc nL Ts own D cy) {C : String} {T : u_T} {N ci index a k0 : Nat} (hin : ∀ w ∈ u_ws C T N, w ∈ Ts) (hc : vwCl[ci]? = some (C, T, N)) (hk : k0 < N) (hm : Cond.fieldLink own index (T k0).1 (T k0).2.1 (T k0).2.2.1 ∈ Ts) {x : Int32} (hv : gI ci h a k0 = some x) (hd : decode cc pc = .ok (.getfield index, 3)) (k : JJ p l e R s m args below meth c cells slots Q D ad cy A nL h lv (pc + 3) (.int x :: st)) : JJ p l e R s m args below meth c cells slots Q D ad cy A nL h lv pc (.ref (ad a) :: st) := j_getV E hin hc hk hm (gI_spec hv) hd k
theorem j_getR (E : EE p s m args c cc nL Ts own D cy) {C : String} {T : u_T} {N ci index a k0 : Nat} (hin : ∀ w ∈ u_ws C T N, w ∈ Ts) (hc : vwCl[ci]? = some (C, T, N)) (hk : k0 < N) (hm : Cond.fieldLink own index (T k0).1 (T k0).2.1 (T k0).2.2.1 ∈ Ts) {b : Nat} (hv : gR ci h a k0 = some b) (hd : decode cc pc = .ok (.getfield index, 3)) (k : JJ p l e R s m args below meth c cells slots Q D ad cy A nL h lv (pc + 3) (.ref (ad b) :: st)) : JJ p l e R s m args below meth c cells slots Q D ad cy A nL h lv pc (.ref (ad a) :: st) := j_getV E hin hc hk hm (gR_spec hv) hd k
theorem j_putV (E : EE p s m args c cc nL Ts own D cy) {C : String} {T : u_T} {N ci index a k0 : Nat} (hin : ∀ w ∈ u_ws C T N, w ∈ Ts) (hc : vwCl[ci]? = some (C, T, N)) (hk : k0 < N) (hm : Cond.fieldLink own index (T k0).1 (T k0).2.1 (T k0).2.2.1 ∈ Ts) (ty0 : Nat → FieldType) (hty : ∀ k, k < N → parseFieldDescriptor (T k).2.2.1 = some (ty0 k)) (hnm : ∀ a, a < N → ∀ b, b < N → a ≠ b → (T a).2.1 ≠ (T b).2.1) (hfin : (T k0).2.2.2 = false) {v : Value} {h' : HP} {ty : FieldType} (hdd : parseFieldDescriptor (T k0).2.2.1 = some ty) (hn : narrow ty (cnV ad v) = cnV ad v) (hfit : fits ty (cnV ad v) = true) (hv : pV ci h a k0 v = some h') (hd : decode cc pc = .ok (.putfield index, 3)) (k : JJ p l e R s m args below meth c cells slots Q D ad cy A nL h' lv (pc + 3) st) : JJ p l e R s m args below meth c cells slots Q D ad cy A nL h lv pc (cnV ad v :: .ref (ad a) :: st) := by
  intro H locs ls w q
  obtain ⟨ha, fs, h1, h2, rfl⟩ := pV_spec hv
  refine va_put (D := D) (v := cnV ad v) E.1.1 E.1.2.1 E.1.2.2.2.2 hin ty0 hty hnm E.1.2.2.2.1 E.2.1 w.1 w.2.1 w.2.2 a (fs := fs.map (cnV ad)) (wl_at ha h1) hc k0 hk (E.1.2.2.2.2 _ hm) (fun _ h9 => h9) hfin hdd hn hfit (by rw [List.length_map]; exact h2) hd (fun H1 locs1 hP hD hS => ?_)
  have e : (wl ad cy h).set a (ad a, .inr (ci, (fs.map (cnV ad)).set k0 (cnV ad v))) = wl ad cy (va_up h a (.inl (ci, fs.set k0 v))) := by
    rw [← wl_set ha]
    simp only [cnE, List.map_set]
  rw [e] at hP hD
  exact k H1 locs1 ls ⟨hP, hD, hS⟩ q
theorem j_putI (E : EE p s m args c cc nL Ts own D cy) {C : String} {T : u_T} {N ci index a k0 : Nat} (hin : ∀ w ∈ u_ws C T N, w ∈ Ts) (hc : vwCl[ci]? = some (C, T, N)) (hk : k0 < N) (hm : Cond.fieldLink own index (T k0).1 (T k0).2.1 (T k0).2.2.1 ∈ Ts) (ty0 : Nat → FieldType) (hty : ∀ k, k < N → parseFieldDescriptor (T k).2.2.1 = some (ty0 k)) (hnm : ∀ a, a < N → ∀ b, b < N → a ≠ b → (T a).2.1 ≠ (T b).2.1) (hfin : (T k0).2.2.2 = false) {x : Int32} {h' : HP} (hdd : parseFieldDescriptor (T k0).2.2.1 = some .int) (hv : pI ci h a k0 x = some h') (hd : decode cc pc = .ok (.putfield index, 3)) (k : JJ p l e R s m args below meth c cells slots Q D ad cy A nL h' lv (pc + 3) st) : JJ p l e R s m args below meth c cells slots Q D ad cy A nL h lv pc (.int x :: .ref (ad a) :: st) := j_putV (v := .int x) E hin hc hk hm ty0 hty hnm hfin hdd rfl rfl hv hd k
theorem j_putR (E : EE p s m args c cc nL Ts own D cy) {C : String} {T : u_T} {N ci index a k0 : Nat} (hin : ∀ w ∈ u_ws C T N, w ∈ Ts) (hc : vwCl[ci]? = some (C, T, N)) (hk : k0 < N) (hm : Cond.fieldLink own index (T k0).1 (T k0).2.1 (T k0).2.2.1 ∈ Ts) (ty0 : Nat → FieldType) (hty : ∀ k, k < N → parseFieldDescriptor (T k).2.2.1 = some (ty0 k)) (hnm : ∀ a, a < N → ∀ b, b < N → a ≠ b → (T a).2.1 ≠ (T b).2.1) (hfin : (T k0).2.2.2 = false) {b : Nat} {h' : HP} {ty : FieldType} (hdd : parseFieldDescriptor (T k0).2.2.1 = some ty) (hrt : (∃ n, ty = .object n) ∨ ∃ t, ty = .array t) (hv : pR ci h a k0 (some b) = some h') (hd : decode cc pc = .ok (.putfield index, 3)) (k : JJ p l e R s m args below meth c cells slots Q D ad cy A nL h' lv (pc + 3) st) : JJ p l e R s m args below meth c cells slots Q D ad cy A nL h lv pc (.ref (ad b) :: .ref (ad a) :: st) := j_putV (v := .ref b) E hin hc hk hm ty0 hty hnm hfin hdd (by rcases hrt with ⟨n, rfl⟩ | ⟨t, rfl⟩ <;> rfl) (by rcases hrt with ⟨n, rfl⟩ | ⟨t, rfl⟩ <;> rfl) hv hd k
theorem j_putN (E : EE p s m args c cc nL Ts own D cy) {C : String} {T : u_T} {N ci index a k0 : Nat} (hin : ∀ w ∈ u_ws C T N, w ∈ Ts) (hc : vwCl[ci]? = some (C, T, N)) (hk : k0 < N) (hm : Cond.fieldLink own index (T k0).1 (T k0).2.1 (T k0).2.2.1 ∈ Ts) (ty0 : Nat → FieldType) (hty : ∀ k, k < N → parseFieldDescriptor (T k).2.2.1 = some (ty0 k)) (hnm : ∀ a, a < N → ∀ b, b < N → a ≠ b → (T a).2.1 ≠ (T b).2.1) (hfin : (T k0).2.2.2 = false) {h' : HP} {ty : FieldType} (hdd : parseFieldDescriptor (T k0).2.2.1 = some ty) (hrt : (∃ n, ty = .object n) ∨ ∃ t, ty = .array t) (hv : pR ci h a k0 none = some h') (hd : decode cc pc = .ok (.putfield index, 3)) (k : JJ p l e R s m args below meth c cells slots Q D ad cy A nL h' lv (pc + 3) st) : JJ p l e R s m args below meth c cells slots Q D ad cy A nL h lv pc (.null :: .ref (ad a) :: st) := j_putV (v := .null) E hin hc hk hm ty0 hty hnm hfin hdd (by rcases hrt with ⟨n, rfl⟩ | ⟨t, rfl⟩ <;> rfl) (by rcases hrt with ⟨n, rfl⟩ | ⟨t, rfl⟩ <;> rfl) hv hd k
theorem j_aI (E : EE p s m args c cc nL Ts own D cy) {a : Nat} {i : Int32} {x : Int32} (hv : aI h a i = some x) (hd : decode cc pc = .ok (.iaload, 1)) (k : JJ p l e R s m args below meth c cells slots Q D ad cy A nL h lv (pc + 1) (.int x :: st)) : JJ p l e R s m args below meth c cells slots Q D ad cy A nL h lv pc (.int i :: .ref (ad a) :: st) := by
  intro H locs ls w q
  obtain ⟨ha, n, f, h1, h2, rfl⟩ := aI_spec hv
  exact va_iald (D := D) E.1.1 E.1.2.1 E.2.1 w.1 a 0 (wl_at ha h1) rfl h2 hd (k H locs ls w q)
theorem j_aJ (E : EE p s m args c cc nL Ts own D cy) {a : Nat} {i : Int32} {x : Int64} (hv : aJ h a i = some x) (hd : decode cc pc = .ok (.laload, 1)) (k : JJ p l e R s m args below meth c cells slots Q D ad cy A nL h lv (pc + 1) (.long x :: st)) : JJ p l e R s m args below meth c cells slots Q D ad cy A nL h lv pc (.int i :: .ref (ad a) :: st) := by
  intro H locs ls w q
  obtain ⟨ha, n, f, h1, h2, rfl⟩ := aJ_spec hv
  exact va_lald (D := D) E.1.1 E.1.2.1 E.2.1 w.1 a 1 (wl_at ha h1) rfl h2 hd (k H locs ls w q)
theorem j_aZ (E : EE p s m args c cc nL Ts own D cy) {a : Nat} {i : Int32} {x : Int32} (hv : aZ h a i = some x) (hd : decode cc pc = .ok (.baload, 1)) (k : JJ p l e R s m args below meth c cells slots Q D ad cy A nL h lv (pc + 1) (.int x :: st)) : JJ p l e R s m args below meth c cells slots Q D ad cy A nL h lv pc (.int i :: .ref (ad a) :: st) := by
  intro H locs ls w q
  obtain ⟨ha, n, f, h1, h2, rfl⟩ := aZ_spec hv
  exact va_zald (D := D) E.1.1 E.1.2.1 E.2.1 w.1 a 2 (wl_at ha h1) rfl h2 hd (k H locs ls w q)
theorem j_aG (E : EE p s m args c cc nL Ts own D cy) {a : Nat} {i : Int32} {x : Option Nat} (hv : aG h a i = some x) (hd : decode cc pc = .ok (.aaload, 1)) (k : JJ p l e R s m args below meth c cells slots Q D ad cy A nL h lv (pc + 1) (va_rf (x.map ad) :: st)) : JJ p l e R s m args below meth c cells slots Q D ad cy A nL h lv pc (.int i :: .ref (ad a) :: st) := by
  intro H locs ls w q
  obtain ⟨ha, n, f, h1, h2, rfl⟩ := aG_spec hv
  exact va_aldq (D := D) E.1.1 E.1.2.1 E.2.1 w.1 a 3 (wl_at ha h1) rfl h2 hd (k H locs ls w q)
theorem j_sI (E : EE p s m args c cc nL Ts own D cy) {a : Nat} {i : Int32} {x : Int32} {h' : HP} (hv : sI h a i x = some h') (hd : decode cc pc = .ok (.iastore, 1)) (k : JJ p l e R s m args below meth c cells slots Q D ad cy A nL h' lv (pc + 1) st) : JJ p l e R s m args below meth c cells slots Q D ad cy A nL h lv pc (.int x :: .int i :: .ref (ad a) :: st) := by
  intro H locs ls w q
  obtain ⟨ha, n, f, h1, h2, rfl⟩ := sI_spec hv
  refine va_iast (D := D) E.1.1 E.1.2.1 E.2.1 w.1 w.2.1 w.2.2 a 0 (wl_at ha h1) rfl h2 hd (fun H1 locs1 hP hD hS => ?_)
  exact k H1 locs1 ls ⟨by rw [← wl_set ha]; exact hP, by rw [← wl_set ha]; exact hD, hS⟩ q
theorem j_sJ (E : EE p s m args c cc nL Ts own D cy) {a : Nat} {i : Int32} {x : Int64} {h' : HP} (hv : sJ h a i x = some h') (hd : decode cc pc = .ok (.lastore, 1)) (k : JJ p l e R s m args below meth c cells slots Q D ad cy A nL h' lv (pc + 1) st) : JJ p l e R s m args below meth c cells slots Q D ad cy A nL h lv pc (.long x :: .int i :: .ref (ad a) :: st) := by
  intro H locs ls w q
  obtain ⟨ha, n, f, h1, h2, rfl⟩ := sJ_spec hv
  refine va_last (D := D) E.1.1 E.1.2.1 E.2.1 w.1 w.2.1 w.2.2 a 1 (wl_at ha h1) rfl h2 hd (fun H1 locs1 hP hD hS => ?_)
  exact k H1 locs1 ls ⟨by rw [← wl_set ha]; exact hP, by rw [← wl_set ha]; exact hD, hS⟩ q
theorem j_sZ (E : EE p s m args c cc nL Ts own D cy) {a : Nat} {i : Int32} {x : Int32} {h' : HP} (hv : sZ h a i x = some h') (hd : decode cc pc = .ok (.bastore, 1)) (k : JJ p l e R s m args below meth c cells slots Q D ad cy A nL h' lv (pc + 1) st) : JJ p l e R s m args below meth c cells slots Q D ad cy A nL h lv pc (.int x :: .int i :: .ref (ad a) :: st) := by
  intro H locs ls w q
  obtain ⟨ha, n, f, h1, h2, rfl⟩ := sZ_spec hv
  refine va_zast (D := D) E.1.1 E.1.2.1 E.2.1 w.1 w.2.1 w.2.2 a 2 (wl_at ha h1) rfl h2 hd (fun H1 locs1 hP hD hS => ?_)
  exact k H1 locs1 ls ⟨by rw [← wl_set ha]; exact hP, by rw [← wl_set ha]; exact hD, hS⟩ q
end ROWS
