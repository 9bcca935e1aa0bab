
/-! VALUES AND HEAPS OF MY OWN: ints and longs as whole numbers, floats by their bits, references by their addresses -/
theorem zin {w : Cond} {i : Nat} (h : lw_tbl[i]? = some w) (g : goodWord w = true) : w ∈ lw_tbl.filter goodWord := List.mem_filter.mpr ⟨List.mem_of_getElem? h, g⟩
def lw_all : List Cond := lw_tbl.filter goodWord
theorem lw_all_tbl {w : Cond} (h : w ∈ lw_all) : w ∈ lw_tbl := (List.mem_filter.mp h).1
theorem lw_all_good {w : Cond} (h : w ∈ lw_all) : goodWord w = true := (List.mem_filter.mp h).2
def zNest : Cond → Bool
  | .fieldLinkNest .. => true
  | .methodLinkNest .. => true
  | _ => false
def lw_nst : List Cond := lw_tbl.filter zNest
theorem znin {w : Cond} {i : Nat} (h : lw_tbl[i]? = some w) (g : zNest w = true) : w ∈ lw_nst := List.mem_filter.mpr ⟨List.mem_of_getElem? h, g⟩
theorem zNest_warm {w : Cond} (g : zNest w = true) {s U : State} (hW : s.WarmedH U.vm) (hZ : va_Nw w s) : va_Nw w U := by
  cases w <;> first | (simp [zNest] at g; done) | exact va_Nw.warmF hW hZ | exact va_Nw.warmM hW hZ
theorem zNest_tab {w : Cond} (g : zNest w = true) : w.onTables = true := by
  cases w <;> first | (simp [zNest] at g; done) | rfl
theorem zNst_warm {s U : State} (hW : s.WarmedH U.vm) (h : ∀ w ∈ lw_nst, va_Nw w s) : ∀ w ∈ lw_nst, va_Nw w U := fun w hw => zNest_warm (List.mem_filter.mp hw).2 hW (h w hw)
theorem zNst_same {s U : State} (hv : s.vm = U.vm) (h : ∀ w ∈ lw_nst, va_Nw w s) : ∀ w ∈ lw_nst, va_Nw w U := fun w hw => va_Nw.same (zNest_tab (List.mem_filter.mp hw).2) hv (h w hw)
abbrev zV : Type := Int ⊕ (Int ⊕ (UInt32 ⊕ (UInt64 ⊕ Option Nat)))
abbrev vI (z : Int) : zV := .inl z
abbrev vL (z : Int) : zV := .inr (.inl z)
abbrev vF (x : UInt32) : zV := .inr (.inr (.inl x))
abbrev vD (x : UInt64) : zV := .inr (.inr (.inr (.inl x)))
abbrev vR (r : Option Nat) : zV := .inr (.inr (.inr (.inr r)))
def rv : zV → Value
  | .inl z => .int (Int32.ofInt z)
  | .inr (.inl z) => .long (Int64.ofInt z)
  | .inr (.inr (.inl x)) => .float x
  | .inr (.inr (.inr (.inl x))) => .double x
  | .inr (.inr (.inr (.inr r))) => va_rf r
def vcat : zV → Nat
  | .inl _ => 1
  | .inr (.inl _) => 2
  | .inr (.inr (.inl _)) => 1
  | .inr (.inr (.inr (.inl _))) => 2
  | .inr (.inr (.inr (.inr _))) => 1
theorem rv_cat (v : zV) : (rv v).category = vcat v := by
  rcases v with z | z | z | z | z
  · rfl
  · rfl
  · rfl
  · rfl
  · cases z <;> rfl
abbrev zT : Type := List Nat × (Nat → Nat) × (Nat → Nat) × (Nat → Int → Int) × (Nat → Int → UInt32) × (Nat → Int → Option Nat)
def tL (t : zT) : List Nat := t.1
def tK (t : zT) : Nat → Nat := t.2.1
def tN (t : zT) : Nat → Nat := t.2.2.1
def tI (t : zT) : Nat → Int → Int := t.2.2.2.1
def tF (t : zT) : Nat → Int → UInt32 := t.2.2.2.2.1
def tP (t : zT) : Nat → Int → Option Nat := t.2.2.2.2.2
def up2 {α : Type} (f : Nat → Int → α) (a : Nat) (k : Int) (v : α) : Nat → Int → α := fun b j => if b = a ∧ j = k then v else f b j
def up1 {α : Type} (f : Nat → α) (a : Nat) (v : α) : Nat → α := fun b => if b = a then v else f b
def sI (t : zT) (a : Nat) (k : Int) (v : Int) : zT := (tL t, tK t, tN t, up2 (tI t) a k v, tF t, tP t)
def sF (t : zT) (a : Nat) (k : Int) (v : UInt32) : zT := (tL t, tK t, tN t, tI t, up2 (tF t) a k v, tP t)
def sP (t : zT) (a : Nat) (k : Int) (v : Option Nat) : zT := (tL t, tK t, tN t, tI t, tF t, up2 (tP t) a k v)
/-- ints of one array, copied from another -/
def sC (t : zT) (b a : Nat) (i k n : Int) : zT := (tL t, tK t, tN t, (fun q j => if q = a ∧ k ≤ j ∧ j < k + n then tI t b (i + (j - k)) else tI t q j), tF t, tP t)
/-- a new cell -/
def sA (t : zT) (q kd n : Nat) : zT := (tL t ++ [q], up1 (tK t) q kd, up1 (tN t) q n, up1 (tI t) q (fun _ => 0), up1 (tF t) q (fun _ => 0), up1 (tP t) q (fun _ => none))
def zNf : Nat → Nat
  | 0 => 6
  | 1 => 14
  | 2 => 4
  | 3 => 9
  | _ => 36
/-- what a field is: 0 an int, 1 a float, 2 a reference -/
def zTg : Nat → Nat → Nat
  | 0, k => if k = 1 then 1 else 0
  | 1, k => if k = 4 then 2 else if k = 5 then 1 else if 11 ≤ k then 2 else 0
  | 2, k => if k = 1 then 0 else 2
  | 3, k => if k = 1 ∨ k = 3 ∨ k = 6 ∨ k = 8 then 0 else 2
  | _, k => if k = 0 ∨ k = 15 ∨ k = 18 ∨ k = 23 ∨ k = 32 then 0 else 2
def zFv (t : zT) (a tg k : Nat) : Value := if tg = 0 then .int (Int32.ofInt (tI t a k)) else if tg = 1 then .float (tF t a k) else va_rf (tP t a k)
def zE (cy : Nat → ClassId) (t : zT) (a : Nat) : va_E :=
  if tK t a < 5 then .inr (tK t a, (List.range (zNf (tK t a))).map (fun k => zFv t a (zTg (tK t a) k) k))
  else if tK t a = 5 then .inl (cy 5, tN t a, .inr (.inr (.inl (fun j => tF t a j))))
  else if tK t a < 8 then .inl (cy (tK t a), tN t a, .inl (fun j => Int32.ofInt (tI t a j)))
  else .inl (cy (tK t a), tN t a, .inr (.inr (.inr (.inr (fun j => tP t a j)))))
abbrev zW (cy : Nat → ClassId) (t : zT) : va_W := va_pl (tL t) (zE cy t)
abbrev zTy (cy : Nat → ClassId) : List (ClassId × FieldType) := [(cy 5, .float), (cy 6, .int), (cy 7, .boolean), (cy 8, .object RX0), (cy 9, .object RX1), (cy 10, .object RX2)]
def zab (j : Nat) : Value := .int (if j = 0 then -1 else if j = 1 then 0 else if j = 2 then 1 else if j = 3 then 2 else if j = 4 then 0 else 2)
def zAB (A : Nat → Prop) (U : State) (H : Heap) : Prop := ∃ ta : Nat, va_Z "RopeWalk" "ABOVE" "[I" (.ref ta) A U H ∧ va_T .int ta 6 zab A U H
def zAO (U : State) : Prop := va_AO RX0 U ∧ va_AO RX1 U ∧ va_AO RX2 U
theorem zAB.moved {A : Nat → Prop} {u U : State} {H : Heap} (hvm : u.vm.Alike U.vm) (h : zAB A u H) : zAB A U H := by
  obtain ⟨ta, h1, h2⟩ := h
  exact ⟨ta, h1.moved hvm, h2.moved hvm⟩
theorem zAO.moved {u U : State} (hvm : u.vm.Alike U.vm) (h : zAO u) : zAO U := ⟨h.1.moved hvm, h.2.1.moved hvm, h.2.2.moved hvm⟩
def zR (d mc ms : Nat) : Room := { frames := d, cells := mc, slots := ms, locals := 40 * d }
/-- what stands for the whole of a method's body -/
def zCV (y : MethodName) (b : ByteArray) (nL : Nat) (ret : Option FieldType) (p : Program) (s : State) (m : MethodId) (args : Array Value) (meth : Method) (c : Code) (D : va_G) (cy : Nat → ClassId) (A : Nat → Prop) : Prop :=
  p.tables.exec = Jvm.exec ∧ c.code = b ∧ meth.sig.returnType = ret ∧ (∀ w ∈ lw_all, w.before args s = true) ∧ (∀ w ∈ lw_nst, va_Nw w s) ∧ s.vm.findClass y.cls = some m.cls ∧ c.maxLocals = nL ∧ meth.locks = false ∧ meth.name = y.name ∧ va_K D vwCl (zTy cy) s ∧ (∀ q, s.heap.size ≤ q → A q) ∧ zAB A s s.heap ∧ zAO s
def zWD (D : va_G) (cy : Nat → ClassId) (A : Nat → Prop) (H0 : Heap) (t : zT) (H : Heap) (locs : List Loc) : Prop := va_P D vwCl (zW cy t) H ∧ va_D A (zW cy t) ∧ va_S A H0 H locs
/-- a method's end -/
def zQ (D : va_G) (cy : Nat → ClassId) (A : Nat → Prop) (Post : Option zV → zT → Prop) : Array Value → State → Outcome → State → Prop := fun _ st oc u => (∃ (r : Option zV) (t1 : zT), oc = .returned (r.map rv) ∧ Post r t1 ∧ va_P D vwCl (zW cy t1) u.heap ∧ va_D A (zW cy t1) ∧ va_K D vwCl (zTy cy) u) ∧ va_F A st u
abbrev zlv (lv : List (Nat × zV)) : List (Nat × Value) := lv.map fun q => (q.1, rv q.2)
/-- THE JUDGEMENT: from this place on the method comes to an end that Post holds of -/
def zOK (y : MethodName) (b : ByteArray) (nL : Nat) (ret : Option FieldType) (d mc ms : Nat) (Post : Option zV → zT → Prop) (cu su pc : Nat) (lv : List (Nat × zV)) (st : List zV) (t : zT) : Prop :=
  ∀ (p : Program) (l : Launch) (e : Env) (s : State) (m : MethodId) (args : Array Value) (below : List Frame) (meth : Method) (c : Code) (D : va_G) (cy : Nat → ClassId) (A : Nat → Prop), zCV y b nL ret p s m args meth c D cy A → ∀ (H : Heap) (locs : List Loc) (ls : Array Slot), zWD D cy A s.heap t H locs → lv_has ls nL (zlv lv) → W p l e (zR d mc ms) s m args below meth c H locs cu su (MQ below (zQ D cy A Post) args s mc ms A) (F0 m pc ls (st.map rv))
def zws (y : MethodName) (b : ByteArray) (nL : Nat) (ret : Option FieldType) : List Cond := Cond.code y b nL ret :: lw_all
def zB (cy : Nat → ClassId) (D : va_G) (t : zT) (sz : Nat) (U : State) : Prop := U.heap.size = sz ∧ va_P D vwCl (zW cy t) U.heap ∧ va_D (fun _ => True) (zW cy t) ∧ va_K D vwCl (zTy cy) U ∧ (∀ w ∈ lw_nst, va_Nw w U) ∧ zAB (va_A (zW cy t) sz) U U.heap ∧ zAO U
/-- A CONTRACT, of one call -/
def zM (y : MethodName) (b : ByteArray) (nL : Nat) (ret : Option FieldType) (d mc ms : Nat) (as : List zV) (t : zT) (Post : Option zV → zT → Prop) : Prop :=
  ∀ (l : Launch) (D : va_G) (cy : Nat → ClassId) (sz : Nat), Met l y (zws y b nL ret) (zR d mc ms) (va_Pc (as.map rv) (zB cy D t sz)) (zQ D cy (va_A (zW cy t) sz) Post) mc ms (va_A (zW cy t) sz)
theorem zB_blind {cy : Nat → ClassId} {D : va_G} {t : zT} {sz : Nat} {av : List Value} : FrameBlind (va_Pc av (zB cy D t sz)) := by
  intro a U g mk q
  obtain ⟨q0, q1, qP, qD, qK, qN, qA, qO⟩ := q
  exact ⟨q0, q1, qP, qD, va_K.moved (u := U) (U := U.calling g mk a) (Vm.Alike.refl U.vm) qK, zNst_same (s := U) (U := U.calling g mk a) rfl qN, zAB.moved (u := U) (U := U.calling g mk a) (Vm.Alike.refl U.vm) qA, zAO.moved (u := U) (U := U.calling g mk a) (Vm.Alike.refl U.vm) qO⟩
/-- a contract by its body -/
theorem zM.of {y : MethodName} {b : ByteArray} {nL : Nat} {ret : Option FieldType} {d mc ms : Nat} {as : List zV} {t : zT} {Post : Option zV → zT → Prop} (lv : List (Nat × zV)) (hy : plainName y.cls = true) (hl : lv_args 0 (as.map rv) = zlv lv) (hn : (lg_sl (as.map rv)).length ≤ nL) (h : zOK y b nL ret d mc ms Post 0 0 0 lv [] t) : zM y b nL ret d mc ms as t Post := by
  intro l D cy sz
  refine Met.ofW (cc := b) (maxL := nL) (ret := ret) hy rfl ?_
  intro p e s m args below meth c s₁ B hml hv
  obtain ⟨rfl, hsz, hP, hD0, hK, hN, hAb, hO⟩ := hv
  subst hsz
  have hts := atoms_spec (ws := zws y b nL ret) B.pre
  have hD := hD0.self (sz := s.heap.size)
  have hls := lv_entry (as.map rv) (n := nL) hn
  rw [lg_entry_eq]
  rw [hl] at hls
  exact h p l e s m _ below meth c D cy _ ⟨B.exec, B.bytes, B.returns, fun w hw => hts w (List.mem_cons_of_mem _ hw), hN, findClass_of_methodNamed B.named, hml, B.notSynchronized, (name_of_methodNamed B.named B.method).1, hK, fun q hq => Or.inr hq, hAb, hO⟩ _ _ _ ⟨hP, hD, va_S.rf⟩ hls
