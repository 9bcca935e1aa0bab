
section ZR
variable {y : MethodName} {b : ByteArray} {nL : Nat} {ret : Option FieldType} {d mc ms : Nat} {Post : Option zV → zT → Prop} {cu su pc : Nat} {lv : List (Nat × zV)} {st : List zV} {t : zT}
theorem zOK.mono {P2 : Option zV → zT → Prop} (h : zOK y b nL ret d mc ms Post cu su pc lv st t) (hp : ∀ r t1, Post r t1 → P2 r t1) : zOK y b nL ret d mc ms P2 cu su pc lv st t := by
  intro p l e s m args below meth c D cy A hC H locs ls hw hl T hT X
  obtain ⟨u, h1, o, h2, h3, ⟨⟨r, t1, e1, e2, e3⟩, h4⟩, h5⟩ := h p l e s m args below meth c D cy A hC H locs ls hw hl T hT X
  exact ⟨u, h1, o, h2, h3, ⟨⟨r, t1, e1, hp r t1 e2, e3⟩, h4⟩, h5⟩
def zget (i : Nat) : List (Nat × zV) → Option zV
  | [] => none
  | q :: l => if i = q.1 then some q.2 else zget i l
theorem zget_mem {i : Nat} {v : zV} : ∀ {l : List (Nat × zV)}, zget i l = some v → (i, v) ∈ l
  | [], h => by simp [zget] at h
  | (j, w) :: l, h => by
    unfold zget at h
    split at h
    · next e => cases h; subst e; exact List.mem_cons_self
    · exact List.mem_cons_of_mem _ (zget_mem h)
def zset (i : Nat) (v : zV) (l : List (Nat × zV)) : List (Nat × zV) := (i, v) :: l.filter (fun q => !(q.1 == i) && !(q.1 + 1 == i && vcat q.2 == 2))
def zset2 (i : Nat) (v : zV) (l : List (Nat × zV)) : List (Nat × zV) := (i, v) :: l.filter (fun q => !(q.1 == i) && (!(q.1 == i + 1) && !(q.1 + 1 == i && vcat q.2 == 2)))
theorem zlv_get {ls : Array Slot} {i : Nat} {v : zV} (h : lv_has ls nL (zlv lv)) (hg : zget i lv = some v) : ls[i]? = some (.val (rv v)) := h.2.2 (i, rv v) (List.mem_map.mpr ⟨(i, v), zget_mem hg, rfl⟩)
theorem zlv_set (i : Nat) (v : zV) (l : List (Nat × zV)) : (i, rv v) :: (zlv l).filter (fun q => !(q.1 == i) && !(q.1 + 1 == i && q.2.category == 2)) = zlv (zset i v l) := by
  unfold zset zlv
  rw [List.map_cons, List.filter_map]
  congr 2
  apply List.filter_congr
  intro q hq
  simp [Function.comp, rv_cat]
theorem zlv_set2 (i : Nat) (v : zV) (l : List (Nat × zV)) : (i, rv v) :: (zlv l).filter (fun q => !(q.1 == i) && (!(q.1 == i + 1) && !(q.1 + 1 == i && q.2.category == 2))) = zlv (zset2 i v l) := by
  unfold zset2 zlv
  rw [List.map_cons, List.filter_map]
  congr 2
  apply List.filter_congr
  intro q hq
  simp [Function.comp, rv_cat]
/-- fewer locals -/
def zsub (lv : List (Nat × zV)) : List (Nat × zV) → Prop
  | [] => True
  | q :: l => zget q.1 lv = some q.2 ∧ zsub lv l
theorem zsub_in {lv l : List (Nat × zV)} (h : zsub lv l) : ∀ q ∈ l, q ∈ lv := by
  induction l with
  | nil => intro q hq; cases hq
  | cons a l ih =>
    intro q hq
    rcases List.mem_cons.mp hq with rfl | hq
    · exact zget_mem h.1
    · exact ih h.2 q hq
theorem z_sub {lv' : List (Nat × zV)} (h : zsub lv lv') (kk : zOK y b nL ret d mc ms Post cu su pc lv' st t) : zOK y b nL ret d mc ms Post cu su pc lv st t := by
  intro p l e s m args below meth c D cy A hC H locs ls hw hl
  refine kk p l e s m args below meth c D cy A hC H locs ls hw ⟨hl.1, hl.2.1, fun q hq => ?_⟩
  obtain ⟨q', hq', rfl⟩ := List.mem_map.mp hq
  exact hl.2.2 _ (List.mem_map.mpr ⟨q', zsub_in h q' hq', rfl⟩)
theorem z_top {v w : zV} (h : v = w) (kk : zOK y b nL ret d mc ms Post cu su pc lv (w :: st) t) : zOK y b nL ret d mc ms Post cu su pc lv (v :: st) t := h ▸ kk
theorem z_heap {t' : zT} (h : t = t') (kk : zOK y b nL ret d mc ms Post cu su pc lv st t') : zOK y b nL ret d mc ms Post cu su pc lv st t := h ▸ kk
/-- a row that changes the stack and the place alone -/
theorem z_pure (pc' : Nat) {st1 : List zV} (h : ∀ (p : Program) (l : Launch) (e : Env) (R : Room) (s : State) (m : MethodId) (args : Array Value) (below : List Frame) (meth : Method) (c : Code) (H : Heap) (locs : List Loc) (cells slots : Nat) (Q : State → Prop) (ls : Array Slot), p.tables.exec = Jvm.exec → c.code = b → W p l e R s m args below meth c H locs cells slots Q (F0 m pc' ls (st1.map rv)) → W p l e R s m args below meth c H locs cells slots Q (F0 m pc ls (st.map rv)))
    (kk : zOK y b nL ret d mc ms Post cu su pc' lv st1 t) : zOK y b nL ret d mc ms Post cu su pc lv st t := fun p l e s m args below meth c D cy A hC H locs ls hw hl =>
  h p l e (zR d mc ms) s m args below meth c H locs cu su _ ls hC.1 hC.2.1 (kk p l e s m args below meth c D cy A hC H locs ls hw hl)
/-- a row that reads a local -/
theorem z_local (pc' : Nat) {st1 : List zV} (i : Nat) {v : zV} (hg : zget i lv = some v) (h : ∀ (p : Program) (l : Launch) (e : Env) (R : Room) (s : State) (m : MethodId) (args : Array Value) (below : List Frame) (meth : Method) (c : Code) (H : Heap) (locs : List Loc) (cells slots : Nat) (Q : State → Prop) (ls : Array Slot), p.tables.exec = Jvm.exec → c.code = b → ls[i]? = some (.val (rv v)) → W p l e R s m args below meth c H locs cells slots Q (F0 m pc' ls (st1.map rv)) → W p l e R s m args below meth c H locs cells slots Q (F0 m pc ls (st.map rv)))
    (kk : zOK y b nL ret d mc ms Post cu su pc' lv st1 t) : zOK y b nL ret d mc ms Post cu su pc lv st t := fun p l e s m args below meth c D cy A hC H locs ls hw hl =>
  h p l e (zR d mc ms) s m args below meth c H locs cu su _ ls hC.1 hC.2.1 (zlv_get hl hg) (kk p l e s m args below meth c D cy A hC H locs ls hw hl)
/-- a row that writes a local -/
theorem z_store (pc' : Nat) {st1 : List zV} {lv' : List (Nat × zV)} (h : ∀ (p : Program) (l : Launch) (e : Env) (R : Room) (s : State) (m : MethodId) (args : Array Value) (below : List Frame) (meth : Method) (c : Code) (H : Heap) (locs : List Loc) (cells slots : Nat) (Q : State → Prop) (ls : Array Slot), p.tables.exec = Jvm.exec → c.code = b → lv_has ls nL (zlv lv) → (∀ ls' : Array Slot, lv_has ls' nL (zlv lv') → W p l e R s m args below meth c H locs cells slots Q (F0 m pc' ls' (st1.map rv))) → W p l e R s m args below meth c H locs cells slots Q (F0 m pc ls (st.map rv)))
    (kk : zOK y b nL ret d mc ms Post cu su pc' lv' st1 t) : zOK y b nL ret d mc ms Post cu su pc lv st t := fun p l e s m args below meth c D cy A hC H locs ls hw hl =>
  h p l e (zR d mc ms) s m args below meth c H locs cu su _ ls hC.1 hC.2.1 hl (fun ls' hl' => kk p l e s m args below meth c D cy A hC H locs ls' hw hl')
/-- a row with two ways on -/
theorem z_fork (tgt pc' : Nat) {c0 : Prop} {st1 : List zV} (h : ∀ (p : Program) (l : Launch) (e : Env) (R : Room) (s : State) (m : MethodId) (args : Array Value) (below : List Frame) (meth : Method) (c : Code) (H : Heap) (locs : List Loc) (cells slots : Nat) (Q : State → Prop) (ls : Array Slot), p.tables.exec = Jvm.exec → c.code = b → (c0 → W p l e R s m args below meth c H locs cells slots Q (F0 m tgt ls (st1.map rv))) → (¬ c0 → W p l e R s m args below meth c H locs cells slots Q (F0 m pc' ls (st1.map rv))) → W p l e R s m args below meth c H locs cells slots Q (F0 m pc ls (st.map rv)))
    (k1 : c0 → zOK y b nL ret d mc ms Post cu su tgt lv st1 t) (k2 : ¬ c0 → zOK y b nL ret d mc ms Post cu su pc' lv st1 t) : zOK y b nL ret d mc ms Post cu su pc lv st t := fun p l e s m args below meth c D cy A hC H locs ls hw hl =>
  h p l e (zR d mc ms) s m args below meth c H locs cu su _ ls hC.1 hC.2.1 (fun q => k1 q p l e s m args below meth c D cy A hC H locs ls hw hl) (fun q => k2 q p l e s m args below meth c D cy A hC H locs ls hw hl)
abbrev zi (z : Int) : Prop := -2147483648 ≤ z ∧ z ≤ 2147483647
abbrev zj (z : Int) : Prop := -9223372036854775808 ≤ z ∧ z ≤ 9223372036854775807
theorem zi_toInt {z : Int} (h : zi z) : (Int32.ofInt z).toInt = z := Int32.toInt_ofInt_of_le (by have := h.1; omega) (by have := h.2; omega)
theorem zj_toInt {z : Int} (h : zj z) : (Int64.ofInt z).toInt = z := Int64.toInt_ofInt_of_le (by have := h.1; omega) (by have := h.2; omega)
theorem zi_lt {a c : Int} (h1 : zi a) (h2 : zi c) : Int32.ofInt a < Int32.ofInt c ↔ a < c := by rw [Int32.lt_iff_toInt_lt, zi_toInt h1, zi_toInt h2]
theorem zi_le {a c : Int} (h1 : zi a) (h2 : zi c) : Int32.ofInt a ≤ Int32.ofInt c ↔ a ≤ c := by rw [Int32.le_iff_toInt_le, zi_toInt h1, zi_toInt h2]
theorem zi_eq {a c : Int} (h1 : zi a) (h2 : zi c) : Int32.ofInt a = Int32.ofInt c ↔ a = c := by rw [← Int32.toInt_inj, zi_toInt h1, zi_toInt h2]
theorem zi_0 : zi 0 := ⟨by omega, by omega⟩
theorem zj_lt {a c : Int} (h1 : zj a) (h2 : zj c) : Int64.ofInt a < Int64.ofInt c ↔ a < c := by rw [Int64.lt_iff_toInt_lt, zj_toInt h1, zj_toInt h2]
theorem zj_eq {a c : Int} (h1 : zj a) (h2 : zj c) : Int64.ofInt a = Int64.ofInt c ↔ a = c := by rw [← Int64.toInt_inj, zj_toInt h1, zj_toInt h2]
theorem zj_0 : zj 0 := ⟨by omega, by omega⟩
theorem lrem_mod (x z : Int64) : x - (x / z) * z = x % z := by
  apply Int64.toInt_inj.mp
  have h1 := Int64.le_toInt (x % z)
  have h2 := Int64.toInt_lt (x % z)
  rw [Int64.toInt_sub, Int64.toInt_mul, Int64.toInt_div, Int.bmod_mul_bmod, Int.sub_bmod_bmod, Int.mul_comm (x.toInt.tdiv z.toInt), ← Int.tmod_def, ← Int64.toInt_mod]
  exact Int.bmod_eq_of_le_mul_two (by omega) (by omega)
theorem zi_ofInt0 : (0 : Int32) = Int32.ofInt 0 := rfl

theorem z_iconst (pc' : Nat) {n : Int} (hd : decode b pc = .ok (.iconst n, 1)) (hp : pc + 1 = pc')  (kk : zOK y b nL ret d mc ms Post cu su pc' lv (vI n :: st) t) : zOK y b nL ret d mc ms Post cu su pc lv (st) t := by
  subst hp
  refine z_pure (pc + 1) (st1 := vI n :: st) (fun p l e R s m args below meth c H locs cells slots Q ls hx hb k => ?_) kk
  exact lv_iconst hx hb hd rfl k
theorem z_bipush (pc' : Nat) {n : Int} (hd : decode b pc = .ok (.bipush n, 2)) (hp : pc + 2 = pc') (h1 : -128 ≤ n ∧ n ≤ 127) (kk : zOK y b nL ret d mc ms Post cu su pc' lv (vI n :: st) t) : zOK y b nL ret d mc ms Post cu su pc lv (st) t := by
  subst hp
  refine z_pure (pc + 2) (st1 := vI n :: st) (fun p l e R s m args below meth c H locs cells slots Q ls hx hb k => ?_) kk
  exact lv_bipush hx hb hd (Int32.toInt_inj.mp (by rw [zi_toInt (by omega)]; rw [Int8.toInt_toInt32, Int8.toInt_ofInt_of_le (by omega) (by omega)])) k
theorem z_sipush (pc' : Nat) {n : Int} (hd : decode b pc = .ok (.sipush n, 3)) (hp : pc + 3 = pc') (h1 : -32768 ≤ n ∧ n ≤ 32767) (kk : zOK y b nL ret d mc ms Post cu su pc' lv (vI n :: st) t) : zOK y b nL ret d mc ms Post cu su pc lv (st) t := by
  subst hp
  refine z_pure (pc + 3) (st1 := vI n :: st) (fun p l e R s m args below meth c H locs cells slots Q ls hx hb k => ?_) kk
  exact lv_sipush hx hb hd (Int32.toInt_inj.mp (by rw [zi_toInt (by omega)]; rw [Int16.toInt_toInt32, Int16.toInt_ofInt_of_le (by omega) (by omega)])) k
theorem z_lconst (pc' : Nat) {n : Fin 2} {z : Int} (hd : decode b pc = .ok (.lconst n, 1)) (hp : pc + 1 = pc') (hz : Int64.ofNat (n : Nat) = Int64.ofInt z) (kk : zOK y b nL ret d mc ms Post cu su pc' lv (vL z :: st) t) : zOK y b nL ret d mc ms Post cu su pc lv (st) t := by
  subst hp
  refine z_pure (pc + 1) (st1 := vL z :: st) (fun p l e R s m args below meth c H locs cells slots Q ls hx hb k => ?_) kk
  exact lv_lconst hx hb hd hz k
theorem z_fconst0 (pc' : Nat)  (hd : decode b pc = .ok (.fconst 0, 1)) (hp : pc + 1 = pc')  (kk : zOK y b nL ret d mc ms Post cu su pc' lv (vF 0 :: st) t) : zOK y b nL ret d mc ms Post cu su pc lv (st) t := by
  subst hp
  refine z_pure (pc + 1) (st1 := vF 0 :: st) (fun p l e R s m args below meth c H locs cells slots Q ls hx hb k => ?_) kk
  exact lv_fconst0 hx hb hd k
theorem z_dconst0 (pc' : Nat)  (hd : decode b pc = .ok (.dconst 0, 1)) (hp : pc + 1 = pc')  (kk : zOK y b nL ret d mc ms Post cu su pc' lv (vD 0 :: st) t) : zOK y b nL ret d mc ms Post cu su pc lv (st) t := by
  subst hp
  refine z_pure (pc + 1) (st1 := vD 0 :: st) (fun p l e R s m args below meth c H locs cells slots Q ls hx hb k => ?_) kk
  exact lv_dconst0 hx hb hd k
theorem z_null (pc' : Nat)  (hd : decode b pc = .ok (.aconst_null, 1)) (hp : pc + 1 = pc')  (kk : zOK y b nL ret d mc ms Post cu su pc' lv (vR none :: st) t) : zOK y b nL ret d mc ms Post cu su pc lv (st) t := by
  subst hp
  refine z_pure (pc + 1) (st1 := vR none :: st) (fun p l e R s m args below meth c H locs cells slots Q ls hx hb k => ?_) kk
  exact lv_null hx hb hd k
theorem z_iadd (pc' : Nat) {x z : Int} (hd : decode b pc = .ok (.iadd, 1)) (hp : pc + 1 = pc')  (kk : zOK y b nL ret d mc ms Post cu su pc' lv (vI (x + z) :: st) t) : zOK y b nL ret d mc ms Post cu su pc lv (vI z :: vI x :: st) t := by
  subst hp
  refine z_pure (pc + 1) (st1 := vI (x + z) :: st) (fun p l e R s m args below meth c H locs cells slots Q ls hx hb k => ?_) kk
  rw [List.map_cons, show rv (vI (x + z)) = .int (Int32.ofInt x + Int32.ofInt z) from congrArg Value.int (Int32.ofInt_add x z)] at k
  exact lv_iadd hx hb hd k
theorem z_isub (pc' : Nat) {x z : Int} (hd : decode b pc = .ok (.isub, 1)) (hp : pc + 1 = pc')  (kk : zOK y b nL ret d mc ms Post cu su pc' lv (vI (x - z) :: st) t) : zOK y b nL ret d mc ms Post cu su pc lv (vI z :: vI x :: st) t := by
  subst hp
  refine z_pure (pc + 1) (st1 := vI (x - z) :: st) (fun p l e R s m args below meth c H locs cells slots Q ls hx hb k => ?_) kk
  rw [List.map_cons, show rv (vI (x - z)) = .int (Int32.ofInt x - Int32.ofInt z) from congrArg Value.int (Int32.ofInt_sub x z)] at k
  exact lv_isub hx hb hd k
theorem z_imul (pc' : Nat) {x z : Int} (hd : decode b pc = .ok (.imul, 1)) (hp : pc + 1 = pc')  (kk : zOK y b nL ret d mc ms Post cu su pc' lv (vI (x * z) :: st) t) : zOK y b nL ret d mc ms Post cu su pc lv (vI z :: vI x :: st) t := by
  subst hp
  refine z_pure (pc + 1) (st1 := vI (x * z) :: st) (fun p l e R s m args below meth c H locs cells slots Q ls hx hb k => ?_) kk
  rw [List.map_cons, show rv (vI (x * z)) = .int (Int32.ofInt x * Int32.ofInt z) from congrArg Value.int (Int32.ofInt_mul x z)] at k
  exact lv_imul hx hb hd k
theorem z_ladd (pc' : Nat) {x z : Int} (hd : decode b pc = .ok (.ladd, 1)) (hp : pc + 1 = pc')  (kk : zOK y b nL ret d mc ms Post cu su pc' lv (vL (x + z) :: st) t) : zOK y b nL ret d mc ms Post cu su pc lv (vL z :: vL x :: st) t := by
  subst hp
  refine z_pure (pc + 1) (st1 := vL (x + z) :: st) (fun p l e R s m args below meth c H locs cells slots Q ls hx hb k => ?_) kk
  rw [List.map_cons, show rv (vL (x + z)) = .long (Int64.ofInt x + Int64.ofInt z) from congrArg Value.long (Int64.ofInt_add x z)] at k
  exact lv_ladd hx hb hd k
theorem z_lsub (pc' : Nat) {x z : Int} (hd : decode b pc = .ok (.lsub, 1)) (hp : pc + 1 = pc')  (kk : zOK y b nL ret d mc ms Post cu su pc' lv (vL (x - z) :: st) t) : zOK y b nL ret d mc ms Post cu su pc lv (vL z :: vL x :: st) t := by
  subst hp
  refine z_pure (pc + 1) (st1 := vL (x - z) :: st) (fun p l e R s m args below meth c H locs cells slots Q ls hx hb k => ?_) kk
  rw [List.map_cons, show rv (vL (x - z)) = .long (Int64.ofInt x - Int64.ofInt z) from congrArg Value.long (Int64.ofInt_sub x z)] at k
  exact lv_lsub hx hb hd k
theorem z_lmul (pc' : Nat) {x z : Int} (hd : decode b pc = .ok (.lmul, 1)) (hp : pc + 1 = pc')  (kk : zOK y b nL ret d mc ms Post cu su pc' lv (vL (x * z) :: st) t) : zOK y b nL ret d mc ms Post cu su pc lv (vL z :: vL x :: st) t := by
  subst hp
  refine z_pure (pc + 1) (st1 := vL (x * z) :: st) (fun p l e R s m args below meth c H locs cells slots Q ls hx hb k => ?_) kk
  rw [List.map_cons, show rv (vL (x * z)) = .long (Int64.ofInt x * Int64.ofInt z) from congrArg Value.long (Int64.ofInt_mul x z)] at k
  exact lv_lmul hx hb hd k
theorem z_lneg (pc' : Nat) {x : Int} (hd : decode b pc = .ok (.lneg, 1)) (hp : pc + 1 = pc')  (kk : zOK y b nL ret d mc ms Post cu su pc' lv (vL (-x) :: st) t) : zOK y b nL ret d mc ms Post cu su pc lv (vL x :: st) t := by
  subst hp
  refine z_pure (pc + 1) (st1 := vL (-x) :: st) (fun p l e R s m args below meth c H locs cells slots Q ls hx hb k => ?_) kk
  rw [List.map_cons, show rv (vL (-x)) = .long (-Int64.ofInt x) from congrArg Value.long (Int64.ofInt_neg x)] at k
  exact lv_lneg hx hb hd k
theorem z_idiv (pc' : Nat) {x z : Int} (hd : decode b pc = .ok (.idiv, 1)) (hp : pc + 1 = pc') (hx1 : zi x) (hz1 : zi z) (hne : z ≠ 0) (kk : zOK y b nL ret d mc ms Post cu su pc' lv (vI (x.tdiv z) :: st) t) : zOK y b nL ret d mc ms Post cu su pc lv (vI z :: vI x :: st) t := by
  subst hp
  refine z_pure (pc + 1) (st1 := vI (x.tdiv z) :: st) (fun p l e R s m args below meth c H locs cells slots Q ls hx hb k => ?_) kk
  rw [List.map_cons, show rv (vI (x.tdiv z)) = .int (Int32.ofInt x / Int32.ofInt z) from congrArg Value.int (Int32.ofInt_tdiv hx1.1 hx1.2 hz1.1 hz1.2)] at k
  exact lv_idiv hx hb hd (fun q => hne ((zi_eq hz1 zi_0).mp q)) k
theorem z_irem (pc' : Nat) {x z : Int} (hd : decode b pc = .ok (.irem, 1)) (hp : pc + 1 = pc') (hx1 : zi x) (hz1 : zi z) (hne : z ≠ 0) (kk : zOK y b nL ret d mc ms Post cu su pc' lv (vI (x.tmod z) :: st) t) : zOK y b nL ret d mc ms Post cu su pc lv (vI z :: vI x :: st) t := by
  subst hp
  refine z_pure (pc + 1) (st1 := vI (x.tmod z) :: st) (fun p l e R s m args below meth c H locs cells slots Q ls hx hb k => ?_) kk
  have e1 : Int32.ofInt (x.tmod z) = Int32.ofInt x % Int32.ofInt z := Int32.ofInt_tmod hx1.1 hx1.2 hz1.1 hz1.2
  rw [List.map_cons, show rv (vI (x.tmod z)) = .int (Int32.ofInt x - (Int32.ofInt x / Int32.ofInt z) * Int32.ofInt z) from congrArg Value.int (e1.trans (irem_eq_mod _ _).symm)] at k
  exact lv_irem hx hb hd (fun q => hne ((zi_eq hz1 zi_0).mp q)) k
theorem z_iload (pc' : Nat) {i : Nat} {x : Int} (hd : decode b pc = .ok (.iload i, 2)) (hp : pc + 2 = pc') (hg : zget i lv = some (vI x)) (kk : zOK y b nL ret d mc ms Post cu su pc' lv (vI x :: st) t) : zOK y b nL ret d mc ms Post cu su pc lv st t := by
  subst hp
  refine z_local (pc + 2) i hg (fun p l e R s m args below meth c H locs cells slots Q ls hx hb hl k => ?_) kk
  exact lv_iload hx hb hd hl k
theorem z_iload_n (pc' : Nat) {i : Fin 4} {x : Int} (hd : decode b pc = .ok (.iload_n i, 1)) (hp : pc + 1 = pc') (hg : zget (i : Nat) lv = some (vI x)) (kk : zOK y b nL ret d mc ms Post cu su pc' lv (vI x :: st) t) : zOK y b nL ret d mc ms Post cu su pc lv st t := by
  subst hp
  refine z_local (pc + 1) (i : Nat) hg (fun p l e R s m args below meth c H locs cells slots Q ls hx hb hl k => ?_) kk
  exact lv_iload_n hx hb hd rfl hl k
theorem z_lload (pc' : Nat) {i : Nat} {x : Int} (hd : decode b pc = .ok (.lload i, 2)) (hp : pc + 2 = pc') (hg : zget i lv = some (vL x)) (kk : zOK y b nL ret d mc ms Post cu su pc' lv (vL x :: st) t) : zOK y b nL ret d mc ms Post cu su pc lv st t := by
  subst hp
  refine z_local (pc + 2) i hg (fun p l e R s m args below meth c H locs cells slots Q ls hx hb hl k => ?_) kk
  exact lv_lload hx hb hd hl k
theorem z_lload_n (pc' : Nat) {i : Fin 4} {x : Int} (hd : decode b pc = .ok (.lload_n i, 1)) (hp : pc + 1 = pc') (hg : zget (i : Nat) lv = some (vL x)) (kk : zOK y b nL ret d mc ms Post cu su pc' lv (vL x :: st) t) : zOK y b nL ret d mc ms Post cu su pc lv st t := by
  subst hp
  refine z_local (pc + 1) (i : Nat) hg (fun p l e R s m args below meth c H locs cells slots Q ls hx hb hl k => ?_) kk
  exact lv_lload_n hx hb hd rfl hl k
theorem z_fload (pc' : Nat) {i : Nat} {x : UInt32} (hd : decode b pc = .ok (.fload i, 2)) (hp : pc + 2 = pc') (hg : zget i lv = some (vF x)) (kk : zOK y b nL ret d mc ms Post cu su pc' lv (vF x :: st) t) : zOK y b nL ret d mc ms Post cu su pc lv st t := by
  subst hp
  refine z_local (pc + 2) i hg (fun p l e R s m args below meth c H locs cells slots Q ls hx hb hl k => ?_) kk
  exact lv_fload hx hb hd hl k
theorem z_fload_n (pc' : Nat) {i : Fin 4} {x : UInt32} (hd : decode b pc = .ok (.fload_n i, 1)) (hp : pc + 1 = pc') (hg : zget (i : Nat) lv = some (vF x)) (kk : zOK y b nL ret d mc ms Post cu su pc' lv (vF x :: st) t) : zOK y b nL ret d mc ms Post cu su pc lv st t := by
  subst hp
  refine z_local (pc + 1) (i : Nat) hg (fun p l e R s m args below meth c H locs cells slots Q ls hx hb hl k => ?_) kk
  exact lv_fload_n hx hb hd rfl hl k
theorem z_dload (pc' : Nat) {i : Nat} {x : UInt64} (hd : decode b pc = .ok (.dload i, 2)) (hp : pc + 2 = pc') (hg : zget i lv = some (vD x)) (kk : zOK y b nL ret d mc ms Post cu su pc' lv (vD x :: st) t) : zOK y b nL ret d mc ms Post cu su pc lv st t := by
  subst hp
  refine z_local (pc + 2) i hg (fun p l e R s m args below meth c H locs cells slots Q ls hx hb hl k => ?_) kk
  exact lv_dload hx hb hd hl k
theorem z_dload_n (pc' : Nat) {i : Fin 4} {x : UInt64} (hd : decode b pc = .ok (.dload_n i, 1)) (hp : pc + 1 = pc') (hg : zget (i : Nat) lv = some (vD x)) (kk : zOK y b nL ret d mc ms Post cu su pc' lv (vD x :: st) t) : zOK y b nL ret d mc ms Post cu su pc lv st t := by
  subst hp
  refine z_local (pc + 1) (i : Nat) hg (fun p l e R s m args below meth c H locs cells slots Q ls hx hb hl k => ?_) kk
  exact lv_dload_n hx hb hd rfl hl k
theorem z_aload (pc' : Nat) {i : Nat} {x : Option Nat} (hd : decode b pc = .ok (.aload i, 2)) (hp : pc + 2 = pc') (hg : zget i lv = some (vR x)) (kk : zOK y b nL ret d mc ms Post cu su pc' lv (vR x :: st) t) : zOK y b nL ret d mc ms Post cu su pc lv st t := by
  subst hp
  refine z_local (pc + 2) i hg (fun p l e R s m args below meth c H locs cells slots Q ls hx hb hl k => ?_) kk
  cases x with
  | none => exact lv_aloadN hx hb hd hl k
  | some x => exact lv_aload hx hb hd hl k
theorem z_aload_n (pc' : Nat) {i : Fin 4} {x : Option Nat} (hd : decode b pc = .ok (.aload_n i, 1)) (hp : pc + 1 = pc') (hg : zget (i : Nat) lv = some (vR x)) (kk : zOK y b nL ret d mc ms Post cu su pc' lv (vR x :: st) t) : zOK y b nL ret d mc ms Post cu su pc lv st t := by
  subst hp
  refine z_local (pc + 1) (i : Nat) hg (fun p l e R s m args below meth c H locs cells slots Q ls hx hb hl k => ?_) kk
  cases x with
  | none => exact lv_aload_nN hx hb hd rfl hl k
  | some x => exact lv_aload_n hx hb hd rfl hl k
theorem z_istore (pc' : Nat) {i : Nat} {x : Int} {lv' : List (Nat × zV)} (hd : decode b pc = .ok (.istore i, 2)) (hp : pc + 2 = pc') (hn : Nat.blt (i) nL = true) (hs : zset i (vI x) lv = lv') (kk : zOK y b nL ret d mc ms Post cu su pc' lv' st t) : zOK y b nL ret d mc ms Post cu su pc lv (vI x :: st) t := by
  subst hp
  subst hs
  refine z_store (pc + 2) (fun p l e R s m args below meth c H locs cells slots Q ls hx hb hl k => ?_) kk
  exact lv_istore hx hb hd hl (Nat.le_of_ble_eq_true hn) (zlv_set i (vI x) lv) k
theorem z_istore_n (pc' : Nat) {i : Fin 4} {x : Int} {lv' : List (Nat × zV)} (hd : decode b pc = .ok (.istore_n i, 1)) (hp : pc + 1 = pc') (hn : Nat.blt ((i : Nat)) nL = true) (hs : zset (i : Nat) (vI x) lv = lv') (kk : zOK y b nL ret d mc ms Post cu su pc' lv' st t) : zOK y b nL ret d mc ms Post cu su pc lv (vI x :: st) t := by
  subst hp
  subst hs
  refine z_store (pc + 1) (fun p l e R s m args below meth c H locs cells slots Q ls hx hb hl k => ?_) kk
  exact lv_istore_n hx hb hd rfl hl (Nat.le_of_ble_eq_true hn) (zlv_set i (vI x) lv) k
theorem z_fstore (pc' : Nat) {i : Nat} {x : UInt32} {lv' : List (Nat × zV)} (hd : decode b pc = .ok (.fstore i, 2)) (hp : pc + 2 = pc') (hn : Nat.blt (i) nL = true) (hs : zset i (vF x) lv = lv') (kk : zOK y b nL ret d mc ms Post cu su pc' lv' st t) : zOK y b nL ret d mc ms Post cu su pc lv (vF x :: st) t := by
  subst hp
  subst hs
  refine z_store (pc + 2) (fun p l e R s m args below meth c H locs cells slots Q ls hx hb hl k => ?_) kk
  exact lv_fstore hx hb hd hl (Nat.le_of_ble_eq_true hn) (zlv_set i (vF x) lv) k
theorem z_fstore_n (pc' : Nat) {i : Fin 4} {x : UInt32} {lv' : List (Nat × zV)} (hd : decode b pc = .ok (.fstore_n i, 1)) (hp : pc + 1 = pc') (hn : Nat.blt ((i : Nat)) nL = true) (hs : zset (i : Nat) (vF x) lv = lv') (kk : zOK y b nL ret d mc ms Post cu su pc' lv' st t) : zOK y b nL ret d mc ms Post cu su pc lv (vF x :: st) t := by
  subst hp
  subst hs
  refine z_store (pc + 1) (fun p l e R s m args below meth c H locs cells slots Q ls hx hb hl k => ?_) kk
  exact lv_fstore_n hx hb hd rfl hl (Nat.le_of_ble_eq_true hn) (zlv_set i (vF x) lv) k
theorem z_lstore (pc' : Nat) {i : Nat} {x : Int} {lv' : List (Nat × zV)} (hd : decode b pc = .ok (.lstore i, 2)) (hp : pc + 2 = pc') (hn : Nat.blt (i + 1) nL = true) (hs : zset2 i (vL x) lv = lv') (kk : zOK y b nL ret d mc ms Post cu su pc' lv' st t) : zOK y b nL ret d mc ms Post cu su pc lv (vL x :: st) t := by
  subst hp
  subst hs
  refine z_store (pc + 2) (fun p l e R s m args below meth c H locs cells slots Q ls hx hb hl k => ?_) kk
  exact lv_lstore hx hb hd hl (Nat.le_of_ble_eq_true hn) (zlv_set2 i (vL x) lv) k
theorem z_lstore_n (pc' : Nat) {i : Fin 4} {x : Int} {lv' : List (Nat × zV)} (hd : decode b pc = .ok (.lstore_n i, 1)) (hp : pc + 1 = pc') (hn : Nat.blt ((i : Nat) + 1) nL = true) (hs : zset2 (i : Nat) (vL x) lv = lv') (kk : zOK y b nL ret d mc ms Post cu su pc' lv' st t) : zOK y b nL ret d mc ms Post cu su pc lv (vL x :: st) t := by
  subst hp
  subst hs
  refine z_store (pc + 1) (fun p l e R s m args below meth c H locs cells slots Q ls hx hb hl k => ?_) kk
  exact lv_lstore_n hx hb hd rfl hl (Nat.le_of_ble_eq_true hn) (zlv_set2 i (vL x) lv) k
theorem z_dstore (pc' : Nat) {i : Nat} {x : UInt64} {lv' : List (Nat × zV)} (hd : decode b pc = .ok (.dstore i, 2)) (hp : pc + 2 = pc') (hn : Nat.blt (i + 1) nL = true) (hs : zset2 i (vD x) lv = lv') (kk : zOK y b nL ret d mc ms Post cu su pc' lv' st t) : zOK y b nL ret d mc ms Post cu su pc lv (vD x :: st) t := by
  subst hp
  subst hs
  refine z_store (pc + 2) (fun p l e R s m args below meth c H locs cells slots Q ls hx hb hl k => ?_) kk
  exact lv_dstore hx hb hd hl (Nat.le_of_ble_eq_true hn) (zlv_set2 i (vD x) lv) k
theorem z_dstore_n (pc' : Nat) {i : Fin 4} {x : UInt64} {lv' : List (Nat × zV)} (hd : decode b pc = .ok (.dstore_n i, 1)) (hp : pc + 1 = pc') (hn : Nat.blt ((i : Nat) + 1) nL = true) (hs : zset2 (i : Nat) (vD x) lv = lv') (kk : zOK y b nL ret d mc ms Post cu su pc' lv' st t) : zOK y b nL ret d mc ms Post cu su pc lv (vD x :: st) t := by
  subst hp
  subst hs
  refine z_store (pc + 1) (fun p l e R s m args below meth c H locs cells slots Q ls hx hb hl k => ?_) kk
  exact lv_dstore_n hx hb hd rfl hl (Nat.le_of_ble_eq_true hn) (zlv_set2 i (vD x) lv) k
theorem z_astore (pc' : Nat) {i : Nat} {x : Option Nat} {lv' : List (Nat × zV)} (hd : decode b pc = .ok (.astore i, 2)) (hp : pc + 2 = pc') (hn : Nat.blt (i) nL = true) (hs : zset i (vR x) lv = lv') (kk : zOK y b nL ret d mc ms Post cu su pc' lv' st t) : zOK y b nL ret d mc ms Post cu su pc lv (vR x :: st) t := by
  subst hp
  subst hs
  refine z_store (pc + 2) (fun p l e R s m args below meth c H locs cells slots Q ls hx hb hl k => ?_) kk
  cases x with
  | none => exact lv_astoreN hx hb hd hl (Nat.le_of_ble_eq_true hn) (zlv_set i (vR none) lv) k
  | some x => exact lv_astore hx hb hd hl (Nat.le_of_ble_eq_true hn) (zlv_set i (vR (some x)) lv) k
theorem z_astore_n (pc' : Nat) {i : Fin 4} {x : Option Nat} {lv' : List (Nat × zV)} (hd : decode b pc = .ok (.astore_n i, 1)) (hp : pc + 1 = pc') (hn : Nat.blt ((i : Nat)) nL = true) (hs : zset (i : Nat) (vR x) lv = lv') (kk : zOK y b nL ret d mc ms Post cu su pc' lv' st t) : zOK y b nL ret d mc ms Post cu su pc lv (vR x :: st) t := by
  subst hp
  subst hs
  refine z_store (pc + 1) (fun p l e R s m args below meth c H locs cells slots Q ls hx hb hl k => ?_) kk
  cases x with
  | none => exact lv_astore_nN hx hb hd rfl hl (Nat.le_of_ble_eq_true hn) (zlv_set i (vR none) lv) k
  | some x => exact lv_astore_n hx hb hd rfl hl (Nat.le_of_ble_eq_true hn) (zlv_set i (vR (some x)) lv) k
theorem z_iinc (pc' : Nat) {i : Nat} {n : Int} {x : Int} {lv' : List (Nat × zV)} (hd : decode b pc = .ok (.iinc i n, 3)) (hp : pc + 3 = pc') (hn : Nat.blt i nL = true) (hg : zget i lv = some (vI x)) (hs : zset i (vI (x + n)) lv = lv') (kk : zOK y b nL ret d mc ms Post cu su pc' lv' st t) : zOK y b nL ret d mc ms Post cu su pc lv st t := by
  subst hp
  subst hs
  refine z_store (pc + 3) (fun p l e R s m args below meth c H locs cells slots Q ls hx hb hl k => ?_) kk
  obtain ⟨j, hj⟩ := List.getElem?_of_mem (show (i, Value.int (Int32.ofInt x)) ∈ zlv lv from List.mem_map.mpr ⟨(i, vI x), zget_mem hg, rfl⟩)
  exact lv_iinc (v := Int32.ofInt (x + n)) hx hb hd hl hj (Int32.ofInt_add x n).symm (Nat.le_of_ble_eq_true hn) (zlv_set i (vI (x + n)) lv) k
theorem z_dup (pc' : Nat) {v : zV} (hd : decode b pc = .ok (.dup, 1)) (hp : pc + 1 = pc') (hc : vcat v = 1) (kk : zOK y b nL ret d mc ms Post cu su pc' lv (v :: v :: st) t) : zOK y b nL ret d mc ms Post cu su pc lv (v :: st) t := by
  subst hp
  refine z_pure (pc + 1) (st1 := v :: v :: st) (fun p l e R s m args below meth c H locs cells slots Q ls hx hb k => ?_) kk
  exact lv_dup hx hb hd ((rv_cat v).trans hc) k
theorem z_dup2 (pc' : Nat) {v w : zV} (hd : decode b pc = .ok (.dup2, 1)) (hp : pc + 1 = pc') (hc : vcat v = 1) (hc2 : vcat w = 1) (kk : zOK y b nL ret d mc ms Post cu su pc' lv (v :: w :: v :: w :: st) t) : zOK y b nL ret d mc ms Post cu su pc lv (v :: w :: st) t := by
  subst hp
  refine z_pure (pc + 1) (st1 := v :: w :: v :: w :: st) (fun p l e R s m args below meth c H locs cells slots Q ls hx hb k => ?_) kk
  exact lv_dup2_11 hx hb hd ((rv_cat v).trans hc) ((rv_cat w).trans hc2) k
theorem z_iand (pc' : Nat) {x z w : Int} (hd : decode b pc = .ok (.iand, 1)) (hp : pc + 1 = pc') (hw : Int32.ofInt x &&& Int32.ofInt z = Int32.ofInt w) (kk : zOK y b nL ret d mc ms Post cu su pc' lv (vI w :: st) t) : zOK y b nL ret d mc ms Post cu su pc lv (vI z :: vI x :: st) t := by
  subst hp
  refine z_pure (pc + 1) (st1 := vI w :: st) (fun p l e R s m args below meth c H locs cells slots Q ls hx hb k => ?_) kk
  rw [List.map_cons, show rv (vI w) = .int (Int32.ofInt x &&& Int32.ofInt z) from congrArg Value.int hw.symm] at k
  exact lv_iand hx hb hd k
theorem z_ior (pc' : Nat) {x z w : Int} (hd : decode b pc = .ok (.ior, 1)) (hp : pc + 1 = pc') (hw : Int32.ofInt x ||| Int32.ofInt z = Int32.ofInt w) (kk : zOK y b nL ret d mc ms Post cu su pc' lv (vI w :: st) t) : zOK y b nL ret d mc ms Post cu su pc lv (vI z :: vI x :: st) t := by
  subst hp
  refine z_pure (pc + 1) (st1 := vI w :: st) (fun p l e R s m args below meth c H locs cells slots Q ls hx hb k => ?_) kk
  rw [List.map_cons, show rv (vI w) = .int (Int32.ofInt x ||| Int32.ofInt z) from congrArg Value.int hw.symm] at k
  exact lv_ior hx hb hd k
theorem z_ixor (pc' : Nat) {x z w : Int} (hd : decode b pc = .ok (.ixor, 1)) (hp : pc + 1 = pc') (hw : Int32.ofInt x ^^^ Int32.ofInt z = Int32.ofInt w) (kk : zOK y b nL ret d mc ms Post cu su pc' lv (vI w :: st) t) : zOK y b nL ret d mc ms Post cu su pc lv (vI z :: vI x :: st) t := by
  subst hp
  refine z_pure (pc + 1) (st1 := vI w :: st) (fun p l e R s m args below meth c H locs cells slots Q ls hx hb k => ?_) kk
  rw [List.map_cons, show rv (vI w) = .int (Int32.ofInt x ^^^ Int32.ofInt z) from congrArg Value.int hw.symm] at k
  exact lv_ixor hx hb hd k
theorem z_ishl (pc' : Nat) {x z w : Int} (hd : decode b pc = .ok (.ishl, 1)) (hp : pc + 1 = pc') (hw : Int32.ofInt x <<< (Int32.ofInt z &&& 31) = Int32.ofInt w) (kk : zOK y b nL ret d mc ms Post cu su pc' lv (vI w :: st) t) : zOK y b nL ret d mc ms Post cu su pc lv (vI z :: vI x :: st) t := by
  subst hp
  refine z_pure (pc + 1) (st1 := vI w :: st) (fun p l e R s m args below meth c H locs cells slots Q ls hx hb k => ?_) kk
  rw [List.map_cons, show rv (vI w) = .int (Int32.ofInt x <<< (Int32.ofInt z &&& 31)) from congrArg Value.int hw.symm] at k
  exact lv_ishl hx hb hd k
theorem z_ishr (pc' : Nat) {x z w : Int} (hd : decode b pc = .ok (.ishr, 1)) (hp : pc + 1 = pc') (hw : Int32.ofInt x >>> (Int32.ofInt z &&& 31) = Int32.ofInt w) (kk : zOK y b nL ret d mc ms Post cu su pc' lv (vI w :: st) t) : zOK y b nL ret d mc ms Post cu su pc lv (vI z :: vI x :: st) t := by
  subst hp
  refine z_pure (pc + 1) (st1 := vI w :: st) (fun p l e R s m args below meth c H locs cells slots Q ls hx hb k => ?_) kk
  rw [List.map_cons, show rv (vI w) = .int (Int32.ofInt x >>> (Int32.ofInt z &&& 31)) from congrArg Value.int hw.symm] at k
  exact lv_ishr hx hb hd k
theorem z_land (pc' : Nat) {x z w : Int} (hd : decode b pc = .ok (.land, 1)) (hp : pc + 1 = pc') (hw : Int64.ofInt x &&& Int64.ofInt z = Int64.ofInt w) (kk : zOK y b nL ret d mc ms Post cu su pc' lv (vL w :: st) t) : zOK y b nL ret d mc ms Post cu su pc lv (vL z :: vL x :: st) t := by
  subst hp
  refine z_pure (pc + 1) (st1 := vL w :: st) (fun p l e R s m args below meth c H locs cells slots Q ls hx hb k => ?_) kk
  rw [List.map_cons, show rv (vL w) = .long (Int64.ofInt x &&& Int64.ofInt z) from congrArg Value.long hw.symm] at k
  exact lv_land hx hb hd k
theorem z_i2l (pc' : Nat) {x : Int} (hd : decode b pc = .ok (.i2l, 1)) (hp : pc + 1 = pc') (hz : zi x) (kk : zOK y b nL ret d mc ms Post cu su pc' lv (vL x :: st) t) : zOK y b nL ret d mc ms Post cu su pc lv (vI x :: st) t := by
  subst hp
  refine z_pure (pc + 1) (st1 := vL x :: st) (fun p l e R s m args below meth c H locs cells slots Q ls hx hb k => ?_) kk
  exact lv_i2l hx hb hd (Int32.toInt64_ofInt hz.1 hz.2) k
theorem z_ldiv (pc' : Nat) {x z : Int} (hd : decode b pc = .ok (.ldiv, 1)) (hp : pc + 1 = pc') (hx1 : zj x) (hz1 : zj z) (hne : z ≠ 0) (kk : zOK y b nL ret d mc ms Post cu su pc' lv (vL (x.tdiv z) :: st) t) : zOK y b nL ret d mc ms Post cu su pc lv (vL z :: vL x :: st) t := by
  subst hp
  refine z_pure (pc + 1) (st1 := vL (x.tdiv z) :: st) (fun p l e R s m args below meth c H locs cells slots Q ls hx hb k => ?_) kk
  rw [List.map_cons, show rv (vL (x.tdiv z)) = .long (Int64.ofInt x / Int64.ofInt z) from congrArg Value.long (Int64.ofInt_tdiv hx1.1 hx1.2 hz1.1 hz1.2)] at k
  exact lv_ldiv hx hb hd (fun q => hne ((zj_eq hz1 zj_0).mp q)) k
theorem z_lrem (pc' : Nat) {x z : Int} (hd : decode b pc = .ok (.lrem, 1)) (hp : pc + 1 = pc') (hx1 : zj x) (hz1 : zj z) (hne : z ≠ 0) (kk : zOK y b nL ret d mc ms Post cu su pc' lv (vL (x.tmod z) :: st) t) : zOK y b nL ret d mc ms Post cu su pc lv (vL z :: vL x :: st) t := by
  subst hp
  refine z_pure (pc + 1) (st1 := vL (x.tmod z) :: st) (fun p l e R s m args below meth c H locs cells slots Q ls hx hb k => ?_) kk
  have e1 : Int64.ofInt (x.tmod z) = Int64.ofInt x % Int64.ofInt z := Int64.ofInt_tmod hx1.1 hx1.2 hz1.1 hz1.2
  rw [List.map_cons, show rv (vL (x.tmod z)) = .long (Int64.ofInt x - (Int64.ofInt x / Int64.ofInt z) * Int64.ofInt z) from congrArg Value.long (e1.trans (lrem_mod _ _).symm)] at k
  exact lv_lrem hx hb hd (fun q => hne ((zj_eq hz1 zj_0).mp q)) k
def zlc (x z : Int) : Int := if z < x then 1 else if x = z then 0 else -1
theorem zlc_eq {x z : Int} (h1 : zj x) (h2 : zj z) : lg_cmp (Int64.ofInt x) (Int64.ofInt z) = Int32.ofInt (zlc x z) := by
  unfold lg_cmp zlc
  simp only [gt_iff_lt, zj_lt h2 h1, zj_eq h1 h2]
  split
  · rfl
  · split <;> rfl
theorem z_lcmp (pc' : Nat) {x z : Int} (hd : decode b pc = .ok (.lcmp, 1)) (hp : pc + 1 = pc') (h1 : zj x) (h2 : zj z) (kk : zOK y b nL ret d mc ms Post cu su pc' lv (vI (zlc x z) :: st) t) : zOK y b nL ret d mc ms Post cu su pc lv (vL z :: vL x :: st) t := by
  subst hp
  refine z_pure (pc + 1) (st1 := vI (zlc x z) :: st) (fun p l e R s m args below meth c H locs cells slots Q ls hx hb k => ?_) kk
  rw [List.map_cons, show rv (vI (zlc x z)) = .int (lg_cmp (Int64.ofInt x) (Int64.ofInt z)) from congrArg Value.int (zlc_eq h1 h2).symm] at k
  exact W.lcmp hx hb hd k
theorem z_fadd (pc' : Nat) {x z : UInt32} (hd : decode b pc = .ok (.fadd, 1)) (hp : pc + 1 = pc') (hn : vf_n32 (FP.fadd x z)) (kk : zOK y b nL ret d mc ms Post cu su pc' lv (vF (FP.fadd x z) :: st) t) : zOK y b nL ret d mc ms Post cu su pc lv (vF z :: vF x :: st) t := by
  subst hp
  refine z_pure (pc + 1) (st1 := vF (FP.fadd x z) :: st) (fun p l e R s m args below meth c H locs cells slots Q ls hx hb k => ?_) kk
  exact lv_fadd hx hb hd hn k
theorem z_fsub (pc' : Nat) {x z : UInt32} (hd : decode b pc = .ok (.fsub, 1)) (hp : pc + 1 = pc') (hn : vf_n32 (FP.fsub x z)) (kk : zOK y b nL ret d mc ms Post cu su pc' lv (vF (FP.fsub x z) :: st) t) : zOK y b nL ret d mc ms Post cu su pc lv (vF z :: vF x :: st) t := by
  subst hp
  refine z_pure (pc + 1) (st1 := vF (FP.fsub x z) :: st) (fun p l e R s m args below meth c H locs cells slots Q ls hx hb k => ?_) kk
  exact lv_fsub hx hb hd hn k
theorem z_fmul (pc' : Nat) {x z : UInt32} (hd : decode b pc = .ok (.fmul, 1)) (hp : pc + 1 = pc') (hn : vf_n32 (FP.fmul x z)) (kk : zOK y b nL ret d mc ms Post cu su pc' lv (vF (FP.fmul x z) :: st) t) : zOK y b nL ret d mc ms Post cu su pc lv (vF z :: vF x :: st) t := by
  subst hp
  refine z_pure (pc + 1) (st1 := vF (FP.fmul x z) :: st) (fun p l e R s m args below meth c H locs cells slots Q ls hx hb k => ?_) kk
  exact lv_fmul hx hb hd hn k
theorem z_fdiv (pc' : Nat) {x z : UInt32} (hd : decode b pc = .ok (.fdiv, 1)) (hp : pc + 1 = pc') (hn : vf_n32 (FP.fdiv x z)) (kk : zOK y b nL ret d mc ms Post cu su pc' lv (vF (FP.fdiv x z) :: st) t) : zOK y b nL ret d mc ms Post cu su pc lv (vF z :: vF x :: st) t := by
  subst hp
  refine z_pure (pc + 1) (st1 := vF (FP.fdiv x z) :: st) (fun p l e R s m args below meth c H locs cells slots Q ls hx hb k => ?_) kk
  exact lv_fdiv hx hb hd hn k
theorem z_frem (pc' : Nat) {x z : UInt32} (hd : decode b pc = .ok (.frem, 1)) (hp : pc + 1 = pc') (hn : vf_n32 (FP.frem x z)) (kk : zOK y b nL ret d mc ms Post cu su pc' lv (vF (FP.frem x z) :: st) t) : zOK y b nL ret d mc ms Post cu su pc lv (vF z :: vF x :: st) t := by
  subst hp
  refine z_pure (pc + 1) (st1 := vF (FP.frem x z) :: st) (fun p l e R s m args below meth c H locs cells slots Q ls hx hb k => ?_) kk
  exact lv_frem hx hb hd hn k
theorem z_dadd (pc' : Nat) {x z : UInt64} (hd : decode b pc = .ok (.dadd, 1)) (hp : pc + 1 = pc') (hn : vf_n64 (FP.dadd x z)) (kk : zOK y b nL ret d mc ms Post cu su pc' lv (vD (FP.dadd x z) :: st) t) : zOK y b nL ret d mc ms Post cu su pc lv (vD z :: vD x :: st) t := by
  subst hp
  refine z_pure (pc + 1) (st1 := vD (FP.dadd x z) :: st) (fun p l e R s m args below meth c H locs cells slots Q ls hx hb k => ?_) kk
  exact lv_dadd hx hb hd hn k
theorem z_dsub (pc' : Nat) {x z : UInt64} (hd : decode b pc = .ok (.dsub, 1)) (hp : pc + 1 = pc') (hn : vf_n64 (FP.dsub x z)) (kk : zOK y b nL ret d mc ms Post cu su pc' lv (vD (FP.dsub x z) :: st) t) : zOK y b nL ret d mc ms Post cu su pc lv (vD z :: vD x :: st) t := by
  subst hp
  refine z_pure (pc + 1) (st1 := vD (FP.dsub x z) :: st) (fun p l e R s m args below meth c H locs cells slots Q ls hx hb k => ?_) kk
  exact lv_dsub hx hb hd hn k
theorem z_dmul (pc' : Nat) {x z : UInt64} (hd : decode b pc = .ok (.dmul, 1)) (hp : pc + 1 = pc') (hn : vf_n64 (FP.dmul x z)) (kk : zOK y b nL ret d mc ms Post cu su pc' lv (vD (FP.dmul x z) :: st) t) : zOK y b nL ret d mc ms Post cu su pc lv (vD z :: vD x :: st) t := by
  subst hp
  refine z_pure (pc + 1) (st1 := vD (FP.dmul x z) :: st) (fun p l e R s m args below meth c H locs cells slots Q ls hx hb k => ?_) kk
  exact lv_dmul hx hb hd hn k
theorem z_ddiv (pc' : Nat) {x z : UInt64} (hd : decode b pc = .ok (.ddiv, 1)) (hp : pc + 1 = pc') (hn : vf_n64 (FP.ddiv x z)) (kk : zOK y b nL ret d mc ms Post cu su pc' lv (vD (FP.ddiv x z) :: st) t) : zOK y b nL ret d mc ms Post cu su pc lv (vD z :: vD x :: st) t := by
  subst hp
  refine z_pure (pc + 1) (st1 := vD (FP.ddiv x z) :: st) (fun p l e R s m args below meth c H locs cells slots Q ls hx hb k => ?_) kk
  exact lv_ddiv hx hb hd hn k
theorem z_drem (pc' : Nat) {x z : UInt64} (hd : decode b pc = .ok (.drem, 1)) (hp : pc + 1 = pc') (hn : vf_n64 (FP.drem x z)) (kk : zOK y b nL ret d mc ms Post cu su pc' lv (vD (FP.drem x z) :: st) t) : zOK y b nL ret d mc ms Post cu su pc lv (vD z :: vD x :: st) t := by
  subst hp
  refine z_pure (pc + 1) (st1 := vD (FP.drem x z) :: st) (fun p l e R s m args below meth c H locs cells slots Q ls hx hb k => ?_) kk
  exact lv_drem hx hb hd hn k
theorem z_fneg (pc' : Nat) {x : UInt32} (hd : decode b pc = .ok (.fneg, 1)) (hp : pc + 1 = pc')  (kk : zOK y b nL ret d mc ms Post cu su pc' lv (vF (FP.fneg x) :: st) t) : zOK y b nL ret d mc ms Post cu su pc lv (vF x :: st) t := by
  subst hp
  refine z_pure (pc + 1) (st1 := vF (FP.fneg x) :: st) (fun p l e R s m args below meth c H locs cells slots Q ls hx hb k => ?_) kk
  exact lv_fneg hx hb hd k
theorem z_dneg (pc' : Nat) {x : UInt64} (hd : decode b pc = .ok (.dneg, 1)) (hp : pc + 1 = pc')  (kk : zOK y b nL ret d mc ms Post cu su pc' lv (vD (FP.dneg x) :: st) t) : zOK y b nL ret d mc ms Post cu su pc lv (vD x :: st) t := by
  subst hp
  refine z_pure (pc + 1) (st1 := vD (FP.dneg x) :: st) (fun p l e R s m args below meth c H locs cells slots Q ls hx hb k => ?_) kk
  exact lv_dneg hx hb hd k
def zfc (o : Option Ordering) (op : CmpOp) : Int := (Op.cmpValue o op).toInt
theorem zfc_eq (o : Option Ordering) (op : CmpOp) : Int32.ofInt (zfc o op) = Op.cmpValue o op := Int32.ofInt_toInt _
theorem z_fcmp (pc' : Nat) {x z : UInt32} {op : CmpOp} (hd : decode b pc = .ok (.fcmp op, 1)) (hp : pc + 1 = pc')  (kk : zOK y b nL ret d mc ms Post cu su pc' lv (vI (zfc (FP.fcmp x z) op) :: st) t) : zOK y b nL ret d mc ms Post cu su pc lv (vF z :: vF x :: st) t := by
  subst hp
  refine z_pure (pc + 1) (st1 := vI (zfc (FP.fcmp x z) op) :: st) (fun p l e R s m args below meth c H locs cells slots Q ls hx hb k => ?_) kk
  rw [List.map_cons, show rv (vI (zfc (FP.fcmp x z) op)) = .int (Op.cmpValue (FP.fcmp x z) op) from congrArg Value.int (zfc_eq _ _)] at k
  exact lv_fcmp hx hb hd k
theorem z_dcmp (pc' : Nat) {x z : UInt64} {op : CmpOp} (hd : decode b pc = .ok (.dcmp op, 1)) (hp : pc + 1 = pc')  (kk : zOK y b nL ret d mc ms Post cu su pc' lv (vI (zfc (FP.dcmp x z) op) :: st) t) : zOK y b nL ret d mc ms Post cu su pc lv (vD z :: vD x :: st) t := by
  subst hp
  refine z_pure (pc + 1) (st1 := vI (zfc (FP.dcmp x z) op) :: st) (fun p l e R s m args below meth c H locs cells slots Q ls hx hb k => ?_) kk
  rw [List.map_cons, show rv (vI (zfc (FP.dcmp x z) op)) = .int (Op.cmpValue (FP.dcmp x z) op) from congrArg Value.int (zfc_eq _ _)] at k
  exact lv_dcmp hx hb hd k
theorem z_i2f (pc' : Nat) {x : Int} (hd : decode b pc = .ok (.i2f, 1)) (hp : pc + 1 = pc')  (kk : zOK y b nL ret d mc ms Post cu su pc' lv (vF (FP.i2f (Int32.ofInt x)) :: st) t) : zOK y b nL ret d mc ms Post cu su pc lv (vI x :: st) t := by
  subst hp
  refine z_pure (pc + 1) (st1 := vF (FP.i2f (Int32.ofInt x)) :: st) (fun p l e R s m args below meth c H locs cells slots Q ls hx hb k => ?_) kk
  exact lv_i2f hx hb hd k
theorem z_i2d (pc' : Nat) {x : Int} (hd : decode b pc = .ok (.i2d, 1)) (hp : pc + 1 = pc')  (kk : zOK y b nL ret d mc ms Post cu su pc' lv (vD (FP.i2d (Int32.ofInt x)) :: st) t) : zOK y b nL ret d mc ms Post cu su pc lv (vI x :: st) t := by
  subst hp
  refine z_pure (pc + 1) (st1 := vD (FP.i2d (Int32.ofInt x)) :: st) (fun p l e R s m args below meth c H locs cells slots Q ls hx hb k => ?_) kk
  exact lv_i2d hx hb hd k
theorem z_l2d (pc' : Nat) {x : Int} (hd : decode b pc = .ok (.l2d, 1)) (hp : pc + 1 = pc')  (kk : zOK y b nL ret d mc ms Post cu su pc' lv (vD (FP.l2d (Int64.ofInt x)) :: st) t) : zOK y b nL ret d mc ms Post cu su pc lv (vL x :: st) t := by
  subst hp
  refine z_pure (pc + 1) (st1 := vD (FP.l2d (Int64.ofInt x)) :: st) (fun p l e R s m args below meth c H locs cells slots Q ls hx hb k => ?_) kk
  exact lv_l2d hx hb hd k
theorem z_f2l (pc' : Nat) {x : UInt32} {z : Int} (hd : decode b pc = .ok (.f2l, 1)) (hp : pc + 1 = pc') (hz : FP.f2l x = Int64.ofInt z) (kk : zOK y b nL ret d mc ms Post cu su pc' lv (vL z :: st) t) : zOK y b nL ret d mc ms Post cu su pc lv (vF x :: st) t := by
  subst hp
  refine z_pure (pc + 1) (st1 := vL z :: st) (fun p l e R s m args below meth c H locs cells slots Q ls hx hb k => ?_) kk
  rw [List.map_cons, show rv (vL z) = .long (FP.f2l x) from congrArg Value.long hz.symm] at k
  exact lv_f2l hx hb hd k
theorem z_d2l (pc' : Nat) {x : UInt64} {z : Int} (hd : decode b pc = .ok (.d2l, 1)) (hp : pc + 1 = pc') (hz : FP.d2l x = Int64.ofInt z) (kk : zOK y b nL ret d mc ms Post cu su pc' lv (vL z :: st) t) : zOK y b nL ret d mc ms Post cu su pc lv (vD x :: st) t := by
  subst hp
  refine z_pure (pc + 1) (st1 := vL z :: st) (fun p l e R s m args below meth c H locs cells slots Q ls hx hb k => ?_) kk
  rw [List.map_cons, show rv (vL z) = .long (FP.d2l x) from congrArg Value.long hz.symm] at k
  exact lv_d2l hx hb hd k
theorem z_f2d (pc' : Nat) {x : UInt32} (hd : decode b pc = .ok (.f2d, 1)) (hp : pc + 1 = pc') (hn : vf_n64 (FP.f2d x)) (kk : zOK y b nL ret d mc ms Post cu su pc' lv (vD (FP.f2d x) :: st) t) : zOK y b nL ret d mc ms Post cu su pc lv (vF x :: st) t := by
  subst hp
  refine z_pure (pc + 1) (st1 := vD (FP.f2d x) :: st) (fun p l e R s m args below meth c H locs cells slots Q ls hx hb k => ?_) kk
  exact lv_f2d hx hb hd hn k
theorem z_goto (tgt : Nat) {off : Int} (hd : decode b pc = .ok (.goto off, 3)) (ht : (pc : Int) + off = (tgt : Int)) (kk : zOK y b nL ret d mc ms Post cu su tgt lv st t) : zOK y b nL ret d mc ms Post cu su pc lv st t :=
  z_pure tgt (fun p l e R s m args below meth c H locs cells slots Q ls hx hb k => lv_goto hx hb hd ht k) kk
theorem z_if_eq (tgt pc' : Nat) {x : Int} {off : Int} (hd : decode b pc = .ok (.ifCond .eq off, 3)) (ht : (pc : Int) + off = (tgt : Int)) (hp : pc + 3 = pc') (h1 : zi x) (k1 : (x = 0) → zOK y b nL ret d mc ms Post cu su tgt lv st t) (k2 : ¬ (x = 0) → zOK y b nL ret d mc ms Post cu su pc' lv st t) : zOK y b nL ret d mc ms Post cu su pc lv (vI x :: st) t := by
  subst hp
  refine z_fork tgt (pc + 3) (fun p l e R s m args below meth c H locs cells slots Q ls hx hb k1 k2 => ?_) k1 k2
  exact lv_if_eq hx hb hd ht (fun q => k1 ((zi_eq h1 zi_0).mp q)) (fun q => k2 (fun w => q ((zi_eq h1 zi_0).mpr w)))
theorem z_icmp_eq (tgt pc' : Nat) {x z : Int} {off : Int} (hd : decode b pc = .ok (.if_icmp .eq off, 3)) (ht : (pc : Int) + off = (tgt : Int)) (hp : pc + 3 = pc') (h1 : zi x) (h2 : zi z) (k1 : (x = z) → zOK y b nL ret d mc ms Post cu su tgt lv st t) (k2 : ¬ (x = z) → zOK y b nL ret d mc ms Post cu su pc' lv st t) : zOK y b nL ret d mc ms Post cu su pc lv (vI z :: vI x :: st) t := by
  subst hp
  refine z_fork tgt (pc + 3) (fun p l e R s m args below meth c H locs cells slots Q ls hx hb k1 k2 => ?_) k1 k2
  exact lv_icmp_eq hx hb hd ht (fun q => k1 ((zi_eq h1 h2).mp q)) (fun q => k2 (fun w => q ((zi_eq h1 h2).mpr w)))
theorem z_if_ne (tgt pc' : Nat) {x : Int} {off : Int} (hd : decode b pc = .ok (.ifCond .ne off, 3)) (ht : (pc : Int) + off = (tgt : Int)) (hp : pc + 3 = pc') (h1 : zi x) (k1 : (x ≠ 0) → zOK y b nL ret d mc ms Post cu su tgt lv st t) (k2 : ¬ (x ≠ 0) → zOK y b nL ret d mc ms Post cu su pc' lv st t) : zOK y b nL ret d mc ms Post cu su pc lv (vI x :: st) t := by
  subst hp
  refine z_fork tgt (pc + 3) (fun p l e R s m args below meth c H locs cells slots Q ls hx hb k1 k2 => ?_) k1 k2
  exact lv_if_ne hx hb hd ht (fun q => k1 (fun w => q ((zi_eq h1 zi_0).mpr w))) (fun q => k2 (fun w => w ((zi_eq h1 zi_0).mp q)))
theorem z_icmp_ne (tgt pc' : Nat) {x z : Int} {off : Int} (hd : decode b pc = .ok (.if_icmp .ne off, 3)) (ht : (pc : Int) + off = (tgt : Int)) (hp : pc + 3 = pc') (h1 : zi x) (h2 : zi z) (k1 : (x ≠ z) → zOK y b nL ret d mc ms Post cu su tgt lv st t) (k2 : ¬ (x ≠ z) → zOK y b nL ret d mc ms Post cu su pc' lv st t) : zOK y b nL ret d mc ms Post cu su pc lv (vI z :: vI x :: st) t := by
  subst hp
  refine z_fork tgt (pc + 3) (fun p l e R s m args below meth c H locs cells slots Q ls hx hb k1 k2 => ?_) k1 k2
  exact lv_icmp_ne hx hb hd ht (fun q => k1 (fun w => q ((zi_eq h1 h2).mpr w))) (fun q => k2 (fun w => w ((zi_eq h1 h2).mp q)))
theorem z_if_lt (tgt pc' : Nat) {x : Int} {off : Int} (hd : decode b pc = .ok (.ifCond .lt off, 3)) (ht : (pc : Int) + off = (tgt : Int)) (hp : pc + 3 = pc') (h1 : zi x) (k1 : (x < 0) → zOK y b nL ret d mc ms Post cu su tgt lv st t) (k2 : ¬ (x < 0) → zOK y b nL ret d mc ms Post cu su pc' lv st t) : zOK y b nL ret d mc ms Post cu su pc lv (vI x :: st) t := by
  subst hp
  refine z_fork tgt (pc + 3) (fun p l e R s m args below meth c H locs cells slots Q ls hx hb k1 k2 => ?_) k1 k2
  exact lv_if_lt hx hb hd ht (fun q => k1 ((zi_lt h1 zi_0).mp q)) (fun q => k2 (fun w => q ((zi_lt h1 zi_0).mpr w)))
theorem z_icmp_lt (tgt pc' : Nat) {x z : Int} {off : Int} (hd : decode b pc = .ok (.if_icmp .lt off, 3)) (ht : (pc : Int) + off = (tgt : Int)) (hp : pc + 3 = pc') (h1 : zi x) (h2 : zi z) (k1 : (x < z) → zOK y b nL ret d mc ms Post cu su tgt lv st t) (k2 : ¬ (x < z) → zOK y b nL ret d mc ms Post cu su pc' lv st t) : zOK y b nL ret d mc ms Post cu su pc lv (vI z :: vI x :: st) t := by
  subst hp
  refine z_fork tgt (pc + 3) (fun p l e R s m args below meth c H locs cells slots Q ls hx hb k1 k2 => ?_) k1 k2
  exact lv_icmp_lt hx hb hd ht (fun q => k1 ((zi_lt h1 h2).mp q)) (fun q => k2 (fun w => q ((zi_lt h1 h2).mpr w)))
theorem z_if_ge (tgt pc' : Nat) {x : Int} {off : Int} (hd : decode b pc = .ok (.ifCond .ge off, 3)) (ht : (pc : Int) + off = (tgt : Int)) (hp : pc + 3 = pc') (h1 : zi x) (k1 : (0 ≤ x) → zOK y b nL ret d mc ms Post cu su tgt lv st t) (k2 : ¬ (0 ≤ x) → zOK y b nL ret d mc ms Post cu su pc' lv st t) : zOK y b nL ret d mc ms Post cu su pc lv (vI x :: st) t := by
  subst hp
  refine z_fork tgt (pc + 3) (fun p l e R s m args below meth c H locs cells slots Q ls hx hb k1 k2 => ?_) k1 k2
  exact lv_if_ge hx hb hd ht (fun q => k1 ((zi_le zi_0 h1).mp q)) (fun q => k2 (fun w => q ((zi_le zi_0 h1).mpr w)))
theorem z_icmp_ge (tgt pc' : Nat) {x z : Int} {off : Int} (hd : decode b pc = .ok (.if_icmp .ge off, 3)) (ht : (pc : Int) + off = (tgt : Int)) (hp : pc + 3 = pc') (h1 : zi x) (h2 : zi z) (k1 : (z ≤ x) → zOK y b nL ret d mc ms Post cu su tgt lv st t) (k2 : ¬ (z ≤ x) → zOK y b nL ret d mc ms Post cu su pc' lv st t) : zOK y b nL ret d mc ms Post cu su pc lv (vI z :: vI x :: st) t := by
  subst hp
  refine z_fork tgt (pc + 3) (fun p l e R s m args below meth c H locs cells slots Q ls hx hb k1 k2 => ?_) k1 k2
  exact lv_icmp_ge hx hb hd ht (fun q => k1 ((zi_le h2 h1).mp q)) (fun q => k2 (fun w => q ((zi_le h2 h1).mpr w)))
theorem z_if_gt (tgt pc' : Nat) {x : Int} {off : Int} (hd : decode b pc = .ok (.ifCond .gt off, 3)) (ht : (pc : Int) + off = (tgt : Int)) (hp : pc + 3 = pc') (h1 : zi x) (k1 : (0 < x) → zOK y b nL ret d mc ms Post cu su tgt lv st t) (k2 : ¬ (0 < x) → zOK y b nL ret d mc ms Post cu su pc' lv st t) : zOK y b nL ret d mc ms Post cu su pc lv (vI x :: st) t := by
  subst hp
  refine z_fork tgt (pc + 3) (fun p l e R s m args below meth c H locs cells slots Q ls hx hb k1 k2 => ?_) k1 k2
  exact lv_if_gt hx hb hd ht (fun q => k1 ((zi_lt zi_0 h1).mp q)) (fun q => k2 (fun w => q ((zi_lt zi_0 h1).mpr w)))
theorem z_icmp_gt (tgt pc' : Nat) {x z : Int} {off : Int} (hd : decode b pc = .ok (.if_icmp .gt off, 3)) (ht : (pc : Int) + off = (tgt : Int)) (hp : pc + 3 = pc') (h1 : zi x) (h2 : zi z) (k1 : (z < x) → zOK y b nL ret d mc ms Post cu su tgt lv st t) (k2 : ¬ (z < x) → zOK y b nL ret d mc ms Post cu su pc' lv st t) : zOK y b nL ret d mc ms Post cu su pc lv (vI z :: vI x :: st) t := by
  subst hp
  refine z_fork tgt (pc + 3) (fun p l e R s m args below meth c H locs cells slots Q ls hx hb k1 k2 => ?_) k1 k2
  exact lv_icmp_gt hx hb hd ht (fun q => k1 ((zi_lt h2 h1).mp q)) (fun q => k2 (fun w => q ((zi_lt h2 h1).mpr w)))
theorem z_if_le (tgt pc' : Nat) {x : Int} {off : Int} (hd : decode b pc = .ok (.ifCond .le off, 3)) (ht : (pc : Int) + off = (tgt : Int)) (hp : pc + 3 = pc') (h1 : zi x) (k1 : (x ≤ 0) → zOK y b nL ret d mc ms Post cu su tgt lv st t) (k2 : ¬ (x ≤ 0) → zOK y b nL ret d mc ms Post cu su pc' lv st t) : zOK y b nL ret d mc ms Post cu su pc lv (vI x :: st) t := by
  subst hp
  refine z_fork tgt (pc + 3) (fun p l e R s m args below meth c H locs cells slots Q ls hx hb k1 k2 => ?_) k1 k2
  exact lv_if_le hx hb hd ht (fun q => k1 ((zi_le h1 zi_0).mp q)) (fun q => k2 (fun w => q ((zi_le h1 zi_0).mpr w)))
theorem z_icmp_le (tgt pc' : Nat) {x z : Int} {off : Int} (hd : decode b pc = .ok (.if_icmp .le off, 3)) (ht : (pc : Int) + off = (tgt : Int)) (hp : pc + 3 = pc') (h1 : zi x) (h2 : zi z) (k1 : (x ≤ z) → zOK y b nL ret d mc ms Post cu su tgt lv st t) (k2 : ¬ (x ≤ z) → zOK y b nL ret d mc ms Post cu su pc' lv st t) : zOK y b nL ret d mc ms Post cu su pc lv (vI z :: vI x :: st) t := by
  subst hp
  refine z_fork tgt (pc + 3) (fun p l e R s m args below meth c H locs cells slots Q ls hx hb k1 k2 => ?_) k1 k2
  exact lv_icmp_le hx hb hd ht (fun q => k1 ((zi_le h1 h2).mp q)) (fun q => k2 (fun w => q ((zi_le h1 h2).mpr w)))
theorem z_acmp_eq (tgt pc' : Nat) {rx ry : Option Nat} {off : Int} (hd : decode b pc = .ok (.if_acmp .eq off, 3)) (ht : (pc : Int) + off = (tgt : Int)) (hp : pc + 3 = pc')  (k1 : (rx = ry) → zOK y b nL ret d mc ms Post cu su tgt lv st t) (k2 : ¬ (rx = ry) → zOK y b nL ret d mc ms Post cu su pc' lv st t) : zOK y b nL ret d mc ms Post cu su pc lv (vR ry :: vR rx :: st) t := by
  subst hp
  refine z_fork tgt (pc + 3) (fun p l e R s m args below meth c H locs cells slots Q ls hx hb k1 k2 => ?_) k1 k2
  exact lv_acmp_eq hx hb hd ht k1 k2
theorem z_acmp_ne (tgt pc' : Nat) {rx ry : Option Nat} {off : Int} (hd : decode b pc = .ok (.if_acmp .ne off, 3)) (ht : (pc : Int) + off = (tgt : Int)) (hp : pc + 3 = pc')  (k1 : (¬ rx = ry) → zOK y b nL ret d mc ms Post cu su tgt lv st t) (k2 : ¬ (¬ rx = ry) → zOK y b nL ret d mc ms Post cu su pc' lv st t) : zOK y b nL ret d mc ms Post cu su pc lv (vR ry :: vR rx :: st) t := by
  subst hp
  refine z_fork tgt (pc + 3) (fun p l e R s m args below meth c H locs cells slots Q ls hx hb k1 k2 => ?_) k1 k2
  exact lv_acmp_ne hx hb hd ht k1 (fun q => k2 (fun w => w q))
theorem z_ifnull (tgt pc' : Nat) {r : Option Nat} {off : Int} (hd : decode b pc = .ok (.ifnull off, 3)) (ht : (pc : Int) + off = (tgt : Int)) (hp : pc + 3 = pc')  (k1 : (r = none) → zOK y b nL ret d mc ms Post cu su tgt lv st t) (k2 : ¬ (r = none) → zOK y b nL ret d mc ms Post cu su pc' lv st t) : zOK y b nL ret d mc ms Post cu su pc lv (vR r :: st) t := by
  subst hp
  refine z_fork tgt (pc + 3) (fun p l e R s m args below meth c H locs cells slots Q ls hx hb k1 k2 => ?_) k1 k2
  cases r with
  | none => exact lv_ifnullN hx hb hd ht (k1 rfl)
  | some x => exact lv_ifnull hx hb hd (k2 (fun q => by cases q))
theorem z_ifnonnull (tgt pc' : Nat) {r : Option Nat} {off : Int} (hd : decode b pc = .ok (.ifnonnull off, 3)) (ht : (pc : Int) + off = (tgt : Int)) (hp : pc + 3 = pc')  (k1 : (¬ r = none) → zOK y b nL ret d mc ms Post cu su tgt lv st t) (k2 : ¬ (¬ r = none) → zOK y b nL ret d mc ms Post cu su pc' lv st t) : zOK y b nL ret d mc ms Post cu su pc lv (vR r :: st) t := by
  subst hp
  refine z_fork tgt (pc + 3) (fun p l e R s m args below meth c H locs cells slots Q ls hx hb k1 k2 => ?_) k1 k2
  cases r with
  | none => exact lv_ifnonnullN hx hb hd (k2 (fun q => q rfl))
  | some x => exact lv_ifnonnull hx hb hd ht (k1 (fun q => by cases q))
theorem z_swOut (tgt : Nat) {dflt lo hi : Int} {offs : Array Int} {len : Nat} {x : Int} (hd : decode b pc = .ok (.tableswitch dflt lo hi offs, len)) (h1 : zi x) (h : x < lo ∨ hi < x) (ht : (pc : Int) + dflt = (tgt : Int)) (kk : zOK y b nL ret d mc ms Post cu su tgt lv st t) : zOK y b nL ret d mc ms Post cu su pc lv (vI x :: st) t :=
  z_pure tgt (fun p l e R s m args below meth c H locs cells slots Q ls hx hb k => lv_tableOut hx hb hd (by rw [zi_toInt h1]; exact h) ht k) kk
theorem z_swIn (tgt : Nat) {dflt lo hi : Int} {offs : Array Int} {len : Nat} {x off : Int} (hd : decode b pc = .ok (.tableswitch dflt lo hi offs, len)) (h1 : zi x) (h2 : ¬ x < lo) (h3 : ¬ hi < x) (ho : offs[(x - lo).toNat]? = some off) (ht : (pc : Int) + off = (tgt : Int)) (kk : zOK y b nL ret d mc ms Post cu su tgt lv st t) : zOK y b nL ret d mc ms Post cu su pc lv (vI x :: st) t :=
  z_pure tgt (fun p l e R s m args below meth c H locs cells slots Q ls hx hb k => lv_tableIn hx hb hd (by rw [zi_toInt h1]; exact h2) (by rw [zi_toInt h1]; exact h3) (by rw [zi_toInt h1]; exact ho) ht k) kk
theorem z_ldc (pc' : Nat) {index : Nat} {v : Int} (hl : Cond.constant y.cls index (Int32.ofInt v) ∈ lw_all) (hd : decode b pc = .ok (.ldc index, 2)) (hp : pc + 2 = pc') (kk : zOK y b nL ret d mc ms Post cu su pc' lv (vI v :: st) t) : zOK y b nL ret d mc ms Post cu su pc lv st t := by
  subst hp
  intro p l e s m args below meth c D cy A hC H locs ls hw hlv
  have k := kk p l e s m args below meth c D cy A hC H locs ls hw hlv
  obtain ⟨hx, hb, -, hts, -, hown, -⟩ := hC
  exact lv_ldc hx hb hown (hts _ hl) hd k
theorem z_ldcw (pc' : Nat) {index : Nat} {v : Int} (hl : Cond.constant y.cls index (Int32.ofInt v) ∈ lw_all) (hd : decode b pc = .ok (.ldc_w index, 3)) (hp : pc + 3 = pc') (kk : zOK y b nL ret d mc ms Post cu su pc' lv (vI v :: st) t) : zOK y b nL ret d mc ms Post cu su pc lv st t := by
  subst hp
  intro p l e s m args below meth c D cy A hC H locs ls hw hlv
  have k := kk p l e s m args below meth c D cy A hC H locs ls hw hlv
  obtain ⟨hx, hb, -, hts, -, hown, -⟩ := hC
  exact lv_ldcw hx hb hown (hts _ hl) hd k
theorem z_ldcf (pc' : Nat) {index : Nat} {v : UInt32} (hl : Cond.constantFloat y.cls index v ∈ lw_all) (hd : decode b pc = .ok (.ldc index, 2)) (hp : pc + 2 = pc') (kk : zOK y b nL ret d mc ms Post cu su pc' lv (vF v :: st) t) : zOK y b nL ret d mc ms Post cu su pc lv st t := by
  subst hp
  intro p l e s m args below meth c D cy A hC H locs ls hw hlv
  have k := kk p l e s m args below meth c D cy A hC H locs ls hw hlv
  obtain ⟨hx, hb, -, hts, -, hown, -⟩ := hC
  exact lv_ldcf hx hb hown (hts _ hl) hd k
theorem z_ldc2l (pc' : Nat) {index : Nat} {v : Int} (hl : Cond.constantLong y.cls index (Int64.ofInt v) ∈ lw_all) (hd : decode b pc = .ok (.ldc2_w index, 3)) (hp : pc + 3 = pc') (kk : zOK y b nL ret d mc ms Post cu su pc' lv (vL v :: st) t) : zOK y b nL ret d mc ms Post cu su pc lv st t := by
  subst hp
  intro p l e s m args below meth c D cy A hC H locs ls hw hlv
  have k := kk p l e s m args below meth c D cy A hC H locs ls hw hlv
  obtain ⟨hx, hb, -, hts, -, hown, -⟩ := hC
  exact lv_ldc2 hx hb hown (hts _ hl) hd k
theorem z_ldc2d (pc' : Nat) {index : Nat} {v : UInt64} (hl : Cond.constantDouble y.cls index v ∈ lw_all) (hd : decode b pc = .ok (.ldc2_w index, 3)) (hp : pc + 3 = pc') (kk : zOK y b nL ret d mc ms Post cu su pc' lv (vD v :: st) t) : zOK y b nL ret d mc ms Post cu su pc lv st t := by
  subst hp
  intro p l e s m args below meth c D cy A hC H locs ls hw hlv
  have k := kk p l e s m args below meth c D cy A hC H locs ls hw hlv
  obtain ⟨hx, hb, -, hts, -, hown, -⟩ := hC
  exact lv_ldc2d hx hb hown (hts _ hl) hd k
theorem z_ldcwf (pc' : Nat) {index : Nat} {v : UInt32} (hl : Cond.constantFloat y.cls index v ∈ lw_all) (hd : decode b pc = .ok (.ldc_w index, 3)) (hp : pc + 3 = pc') (kk : zOK y b nL ret d mc ms Post cu su pc' lv (vF v :: st) t) : zOK y b nL ret d mc ms Post cu su pc lv st t := by
  subst hp
  intro p l e s m args below meth c D cy A hC H locs ls hw hlv
  have k := kk p l e s m args below meth c D cy A hC H locs ls hw hlv
  obtain ⟨hx, hb, -, hts, -, hown, -⟩ := hC
  intro T hT X
  obtain ⟨u, a, b1⟩ := k T hT X
  refine ⟨u, ?_, b1⟩
  obtain ⟨k9, cf, hk, hcf, hcp⟩ := Cond.constantFloat_spec hown (hts _ hl)
  obtain ⟨k', hk', he⟩ := X.warmed.alike.2.2 _ _ hk
  jvm_step X.here [hx, hb, hd, ldc_w.wp_float (s := T) (f := F0 m pc ls (st.map rv)) X.here.top hk' (by rw [he]; exact hcf) hcp]
  exact a
end ZR
