/-! THE LAW'S JUDGEMENT: as zOK, with the script at hand -/
def zX (bx : Nat × Nat × (Nat → Int32)) (args : Array Value) (s : State) (A : Nat → Prop) : Prop := args = #[Value.ref bx.1] ∧ va_X bx.1 bx.2.1 bx.2.2 s s.heap ∧ bx.1 < s.heap.size ∧ ¬ A bx.1 ∧ ∀ q, A q → s.heap.size ≤ q
def zL (bx : Nat × Nat × (Nat → Int32)) (cu su pc : Nat) (lv : List (Nat × zV)) (st : List zV) (t : zT) : Prop :=
  ∀ (p : Program) (l : Launch) (e : Env) (s : State) (m : MethodId) (args : Array Value) (below : List Frame) (meth : Method) (c : Code) (D : va_G) (cy : Nat → ClassId) (A : Nat → Prop), zCV ⟨RL, meth.name, yL_law.desc⟩ cL_law 8 (some .boolean) p s m args meth c D cy A → zX bx args s A → ∀ (H : Heap) (locs : List Loc) (ls : Array Slot), zWD D cy A s.heap t H locs → lv_has ls 8 (zlv lv) → W p l e room_1 s m args below meth c H locs cu su (lw_Z below args s) (F0 m pc ls (st.map rv))
section XR
variable {bx : Nat × Nat × (Nat → Int32)} {cu su pc : Nat} {lv : List (Nat × zV)} {st : List zV} {t : zT}
theorem x_pure (pc' : Nat) {st1 : List zV} (h : ∀ (p : Program) (l : Launch) (e : Env) (R : Room) (s : State) (m : MethodId) (args : Array Value) (below : List Frame) (meth : Method) (c : Code) (H : Heap) (locs : List Loc) (cells slots : Nat) (Q : State → Prop) (ls : Array Slot), p.tables.exec = Jvm.exec → c.code = cL_law → W p l e R s m args below meth c H locs cells slots Q (F0 m pc' ls (st1.map rv)) → W p l e R s m args below meth c H locs cells slots Q (F0 m pc ls (st.map rv)))
    (kk : zL bx cu su pc' lv st1 t) : zL bx cu su pc lv st t := fun p l e s m args below meth c D cy A hC hE H locs ls hw hl =>
  h p l e room_1 s m args below meth c H locs cu su _ ls hC.1 hC.2.1 (kk p l e s m args below meth c D cy A hC hE H locs ls hw hl)
theorem x_local (pc' : Nat) {st1 : List zV} (i : Nat) {v : zV} (hg : zget i lv = some v) (h : ∀ (p : Program) (l : Launch) (e : Env) (R : Room) (s : State) (m : MethodId) (args : Array Value) (below : List Frame) (meth : Method) (c : Code) (H : Heap) (locs : List Loc) (cells slots : Nat) (Q : State → Prop) (ls : Array Slot), p.tables.exec = Jvm.exec → c.code = cL_law → ls[i]? = some (.val (rv v)) → W p l e R s m args below meth c H locs cells slots Q (F0 m pc' ls (st1.map rv)) → W p l e R s m args below meth c H locs cells slots Q (F0 m pc ls (st.map rv)))
    (kk : zL bx cu su pc' lv st1 t) : zL bx cu su pc lv st t := fun p l e s m args below meth c D cy A hC hE H locs ls hw hl =>
  h p l e room_1 s m args below meth c H locs cu su _ ls hC.1 hC.2.1 (zlv_get hl hg) (kk p l e s m args below meth c D cy A hC hE H locs ls hw hl)
theorem x_store (pc' : Nat) {st1 : List zV} {lv' : List (Nat × zV)} (h : ∀ (p : Program) (l : Launch) (e : Env) (R : Room) (s : State) (m : MethodId) (args : Array Value) (below : List Frame) (meth : Method) (c : Code) (H : Heap) (locs : List Loc) (cells slots : Nat) (Q : State → Prop) (ls : Array Slot), p.tables.exec = Jvm.exec → c.code = cL_law → lv_has ls 8 (zlv lv) → (∀ ls' : Array Slot, lv_has ls' 8 (zlv lv') → W p l e R s m args below meth c H locs cells slots Q (F0 m pc' ls' (st1.map rv))) → W p l e R s m args below meth c H locs cells slots Q (F0 m pc ls (st.map rv)))
    (kk : zL bx cu su pc' lv' st1 t) : zL bx cu su pc lv st t := fun p l e s m args below meth c D cy A hC hE H locs ls hw hl =>
  h p l e room_1 s m args below meth c H locs cu su _ ls hC.1 hC.2.1 hl (fun ls' hl' => kk p l e s m args below meth c D cy A hC hE H locs ls' hw hl')
theorem x_fork (tgt pc' : Nat) {c0 : Prop} {st1 : List zV} (h : ∀ (p : Program) (l : Launch) (e : Env) (R : Room) (s : State) (m : MethodId) (args : Array Value) (below : List Frame) (meth : Method) (c : Code) (H : Heap) (locs : List Loc) (cells slots : Nat) (Q : State → Prop) (ls : Array Slot), p.tables.exec = Jvm.exec → c.code = cL_law → (c0 → W p l e R s m args below meth c H locs cells slots Q (F0 m tgt ls (st1.map rv))) → (¬ c0 → W p l e R s m args below meth c H locs cells slots Q (F0 m pc' ls (st1.map rv))) → W p l e R s m args below meth c H locs cells slots Q (F0 m pc ls (st.map rv)))
    (k1 : c0 → zL bx cu su tgt lv st1 t) (k2 : ¬ c0 → zL bx cu su pc' lv st1 t) : zL bx cu su pc lv st t := fun p l e s m args below meth c D cy A hC hE H locs ls hw hl =>
  h p l e room_1 s m args below meth c H locs cu su _ ls hC.1 hC.2.1 (fun q => k1 q p l e s m args below meth c D cy A hC hE H locs ls hw hl) (fun q => k2 q p l e s m args below meth c D cy A hC hE H locs ls hw hl)
theorem x_sub {lv' : List (Nat × zV)} (h : zsub lv lv') (kk : zL bx cu su pc lv' st t) : zL bx cu su pc lv st t := by
  intro p l e s m args below meth c D cy A hC hE H locs ls hw hl
  refine kk p l e s m args below meth c D cy A hC hE H locs ls hw ⟨hl.1, hl.2.1, fun q hq => ?_⟩
  obtain ⟨q', hq', rfl⟩ := List.mem_map.mp hq
  exact hl.2.2 _ (List.mem_map.mpr ⟨q', zsub_in h q' hq', rfl⟩)
theorem x_iload_n (pc' : Nat) {i : Fin 4} {x : Int} (hd : decode cL_law pc = .ok (.iload_n i, 1)) (hp : pc + 1 = pc') (hg : zget (i : Nat) lv = some (vI x)) (kk : zL bx cu su pc' lv (vI x :: st) t) : zL bx cu su pc lv st t := by
  subst hp
  refine x_local (pc + 1) (i : Nat) hg (fun p l e R s m args below meth c H locs cells slots Q ls hx hb hl k => ?_) kk
  exact lv_iload_n hx hb hd rfl hl k
theorem x_aload_n (pc' : Nat) {i : Fin 4} {x : Option Nat} (hd : decode cL_law pc = .ok (.aload_n i, 1)) (hp : pc + 1 = pc') (hg : zget (i : Nat) lv = some (vR x)) (kk : zL bx cu su pc' lv (vR x :: st) t) : zL bx cu su pc lv st t := by
  subst hp
  refine x_local (pc + 1) (i : Nat) hg (fun p l e R s m args below meth c H locs cells slots Q ls hx hb hl k => ?_) kk
  cases x with
  | none => exact lv_aload_nN hx hb hd rfl hl k
  | some x => exact lv_aload_n hx hb hd rfl hl k
theorem x_iconst (pc' : Nat) {n : Int} (hd : decode cL_law pc = .ok (.iconst n, 1)) (hp : pc + 1 = pc')  (kk : zL bx cu su pc' lv (vI n :: st) t) : zL bx cu su pc lv (st) t := by
  subst hp
  refine x_pure (pc + 1) (st1 := vI n :: st) (fun p l e R s m args below meth c H locs cells slots Q ls hx hb k => ?_) kk
  exact lv_iconst hx hb hd rfl k
theorem x_bipush (pc' : Nat) {n : Int} (hd : decode cL_law pc = .ok (.bipush n, 2)) (hp : pc + 2 = pc') (h1 : -128 ≤ n ∧ n ≤ 127) (kk : zL bx cu su pc' lv (vI n :: st) t) : zL bx cu su pc lv (st) t := by
  subst hp
  refine x_pure (pc + 2) (st1 := vI n :: st) (fun p l e R s m args below meth c H locs cells slots Q ls hx hb k => ?_) kk
  exact lv_bipush hx hb hd (Int32.toInt_inj.mp (by rw [zi_toInt (by omega)]; rw [Int8.toInt_toInt32, Int8.toInt_ofInt_of_le (by omega) (by omega)])) k
theorem x_iadd (pc' : Nat) {x z : Int} (hd : decode cL_law pc = .ok (.iadd, 1)) (hp : pc + 1 = pc')  (kk : zL bx cu su pc' lv (vI (x + z) :: st) t) : zL bx cu su pc lv (vI z :: vI x :: st) t := by
  subst hp
  refine x_pure (pc + 1) (st1 := vI (x + z) :: st) (fun p l e R s m args below meth c H locs cells slots Q ls hx hb k => ?_) kk
  rw [List.map_cons, show rv (vI (x + z)) = .int (Int32.ofInt x + Int32.ofInt z) from congrArg Value.int (Int32.ofInt_add x z)] at k
  exact lv_iadd hx hb hd k
theorem x_isub (pc' : Nat) {x z : Int} (hd : decode cL_law pc = .ok (.isub, 1)) (hp : pc + 1 = pc')  (kk : zL bx cu su pc' lv (vI (x - z) :: st) t) : zL bx cu su pc lv (vI z :: vI x :: st) t := by
  subst hp
  refine x_pure (pc + 1) (st1 := vI (x - z) :: st) (fun p l e R s m args below meth c H locs cells slots Q ls hx hb k => ?_) kk
  rw [List.map_cons, show rv (vI (x - z)) = .int (Int32.ofInt x - Int32.ofInt z) from congrArg Value.int (Int32.ofInt_sub x z)] at k
  exact lv_isub hx hb hd k
theorem x_iand (pc' : Nat) {x z w : Int} (hd : decode cL_law pc = .ok (.iand, 1)) (hp : pc + 1 = pc') (hw : Int32.ofInt x &&& Int32.ofInt z = Int32.ofInt w) (kk : zL bx cu su pc' lv (vI w :: st) t) : zL bx cu su pc lv (vI z :: vI x :: st) t := by
  subst hp
  refine x_pure (pc + 1) (st1 := vI w :: st) (fun p l e R s m args below meth c H locs cells slots Q ls hx hb k => ?_) kk
  rw [List.map_cons, show rv (vI w) = .int (Int32.ofInt x &&& Int32.ofInt z) from congrArg Value.int hw.symm] at k
  exact lv_iand hx hb hd k
theorem x_icmp_gt (tgt pc' : Nat) {x z : Int} {off : Int} (hd : decode cL_law pc = .ok (.if_icmp .gt off, 3)) (ht : (pc : Int) + off = (tgt : Int)) (hp : pc + 3 = pc') (h1 : zi x) (h2 : zi z) (k1 : (z < x) → zL bx cu su tgt lv st t) (k2 : ¬ (z < x) → zL bx cu su pc' lv st t) : zL bx cu su pc lv (vI z :: vI x :: st) t := by
  subst hp
  refine x_fork tgt (pc + 3) (fun p l e R s m args below meth c H locs cells slots Q ls hx hb k1 k2 => ?_) k1 k2
  exact lv_icmp_gt hx hb hd ht (fun q => k1 ((zi_lt h2 h1).mp q)) (fun q => k2 (fun w => q ((zi_lt h2 h1).mpr w)))
theorem x_icmp_eq (tgt pc' : Nat) {x z : Int} {off : Int} (hd : decode cL_law pc = .ok (.if_icmp .eq off, 3)) (ht : (pc : Int) + off = (tgt : Int)) (hp : pc + 3 = pc') (h1 : zi x) (h2 : zi z) (k1 : (x = z) → zL bx cu su tgt lv st t) (k2 : ¬ (x = z) → zL bx cu su pc' lv st t) : zL bx cu su pc lv (vI z :: vI x :: st) t := by
  subst hp
  refine x_fork tgt (pc + 3) (fun p l e R s m args below meth c H locs cells slots Q ls hx hb k1 k2 => ?_) k1 k2
  exact lv_icmp_eq hx hb hd ht (fun q => k1 ((zi_eq h1 h2).mp q)) (fun q => k2 (fun w => q ((zi_eq h1 h2).mpr w)))
theorem x_dload (pc' : Nat) {i : Nat} {x : UInt64} (hd : decode cL_law pc = .ok (.dload i, 2)) (hp : pc + 2 = pc') (hg : zget i lv = some (vD x)) (kk : zL bx cu su pc' lv (vD x :: st) t) : zL bx cu su pc lv st t := by
  subst hp
  refine x_local (pc + 2) i hg (fun p l e R s m args below meth c H locs cells slots Q ls hx hb hl k => ?_) kk
  exact lv_dload hx hb hd hl k
theorem x_dstore (pc' : Nat) {i : Nat} {x : UInt64} {lv' : List (Nat × zV)} (hd : decode cL_law pc = .ok (.dstore i, 2)) (hp : pc + 2 = pc') (hn : Nat.blt (i + 1) 8 = true) (hs : zset2 i (vD x) lv = lv') (kk : zL bx cu su pc' lv' st t) : zL bx cu su pc lv (vD x :: st) t := by
  subst hp
  subst hs
  refine x_store (pc + 2) (fun p l e R s m args below meth c H locs cells slots Q ls hx hb hl k => ?_) kk
  exact lv_dstore hx hb hd hl (Nat.le_of_ble_eq_true hn) (zlv_set2 i (vD x) lv) k
theorem x_dcmp (pc' : Nat) {x z : UInt64} {op : CmpOp} (hd : decode cL_law pc = .ok (.dcmp op, 1)) (hp : pc + 1 = pc')  (kk : zL bx cu su pc' lv (vI (zfc (FP.dcmp x z) op) :: st) t) : zL bx cu su pc lv (vD z :: vD x :: st) t := by
  subst hp
  refine x_pure (pc + 1) (st1 := vI (zfc (FP.dcmp x z) op) :: st) (fun p l e R s m args below meth c H locs cells slots Q ls hx hb k => ?_) kk
  rw [List.map_cons, show rv (vI (zfc (FP.dcmp x z) op)) = .int (Op.cmpValue (FP.dcmp x z) op) from congrArg Value.int (zfc_eq _ _)] at k
  exact lv_dcmp hx hb hd k
theorem x_if_eq (tgt pc' : Nat) {x : Int} {off : Int} (hd : decode cL_law pc = .ok (.ifCond .eq off, 3)) (ht : (pc : Int) + off = (tgt : Int)) (hp : pc + 3 = pc') (h1 : zi x) (k1 : (x = 0) → zL bx cu su tgt lv st t) (k2 : ¬ (x = 0) → zL bx cu su pc' lv st t) : zL bx cu su pc lv (vI x :: st) t := by
  subst hp
  refine x_fork tgt (pc + 3) (fun p l e R s m args below meth c H locs cells slots Q ls hx hb k1 k2 => ?_) k1 k2
  exact lv_if_eq hx hb hd ht (fun q => k1 ((zi_eq h1 zi_0).mp q)) (fun q => k2 (fun w => q ((zi_eq h1 zi_0).mpr w)))
theorem x_if_ne (tgt pc' : Nat) {x : Int} {off : Int} (hd : decode cL_law pc = .ok (.ifCond .ne off, 3)) (ht : (pc : Int) + off = (tgt : Int)) (hp : pc + 3 = pc') (h1 : zi x) (k1 : (x ≠ 0) → zL bx cu su tgt lv st t) (k2 : ¬ (x ≠ 0) → zL bx cu su pc' lv st t) : zL bx cu su pc lv (vI x :: st) t := by
  subst hp
  refine x_fork tgt (pc + 3) (fun p l e R s m args below meth c H locs cells slots Q ls hx hb k1 k2 => ?_) k1 k2
  exact lv_if_ne hx hb hd ht (fun q => k1 (fun w => q ((zi_eq h1 zi_0).mpr w))) (fun q => k2 (fun w => w ((zi_eq h1 zi_0).mp q)))
theorem x_goto (tgt : Nat) {off : Int} (hd : decode cL_law pc = .ok (.goto off, 3)) (ht : (pc : Int) + off = (tgt : Int)) (kk : zL bx cu su tgt lv st t) : zL bx cu su pc lv st t :=
  x_pure tgt (fun p l e R s m args below meth c H locs cells slots Q ls hx hb k => lv_goto hx hb hd ht k) kk
theorem x_iinc (pc' : Nat) {i : Nat} {n : Int} {x : Int} {lv' : List (Nat × zV)} (hd : decode cL_law pc = .ok (.iinc i n, 3)) (hp : pc + 3 = pc') (hn : Nat.blt i 8 = true) (hg : zget i lv = some (vI x)) (hs : zset i (vI (x + n)) lv = lv') (kk : zL bx cu su pc' lv' st t) : zL bx cu su pc lv st t := by
  subst hp
  subst hs
  refine x_store (pc + 3) (fun p l e R s m args below meth c H locs cells slots Q ls hx hb hl k => ?_) kk
  obtain ⟨j, hj⟩ := List.getElem?_of_mem (show (i, Value.int (Int32.ofInt x)) ∈ zlv lv from List.mem_map.mpr ⟨(i, vI x), zget_mem hg, rfl⟩)
  exact lv_iinc (v := Int32.ofInt (x + n)) hx hb hd hl hj (Int32.ofInt_add x n).symm (Nat.le_of_ble_eq_true hn) (zlv_set i (vI (x + n)) lv) k
theorem x_lcmp (pc' : Nat) {x z : Int} (hd : decode cL_law pc = .ok (.lcmp, 1)) (hp : pc + 1 = pc') (h1 : zj x) (h2 : zj z) (kk : zL bx cu su pc' lv (vI (zlc x z) :: st) t) : zL bx cu su pc lv (vL z :: vL x :: st) t := by
  subst hp
  refine x_pure (pc + 1) (st1 := vI (zlc x z) :: st) (fun p l e R s m args below meth c H locs cells slots Q ls hx hb k => ?_) kk
  rw [List.map_cons, show rv (vI (zlc x z)) = .int (lg_cmp (Int64.ofInt x) (Int64.ofInt z)) from congrArg Value.int (zlc_eq h1 h2).symm] at k
  exact W.lcmp hx hb hd k
theorem x_dup (pc' : Nat) {v : zV} (hd : decode cL_law pc = .ok (.dup, 1)) (hp : pc + 1 = pc') (hc : vcat v = 1) (kk : zL bx cu su pc' lv (v :: v :: st) t) : zL bx cu su pc lv (v :: st) t := by
  subst hp
  refine x_pure (pc + 1) (st1 := v :: v :: st) (fun p l e R s m args below meth c H locs cells slots Q ls hx hb k => ?_) kk
  exact lv_dup hx hb hd ((rv_cat v).trans hc) k
theorem x_astore_n (pc' : Nat) {i : Fin 4} {x : Option Nat} {lv' : List (Nat × zV)} (hd : decode cL_law pc = .ok (.astore_n i, 1)) (hp : pc + 1 = pc') (hn : Nat.blt ((i : Nat)) 8 = true) (hs : zset (i : Nat) (vR x) lv = lv') (kk : zL bx cu su pc' lv' st t) : zL bx cu su pc lv (vR x :: st) t := by
  subst hp
  subst hs
  refine x_store (pc + 1) (fun p l e R s m args below meth c H locs cells slots Q ls hx hb hl k => ?_) kk
  cases x with
  | none => exact lv_astore_nN hx hb hd rfl hl (Nat.le_of_ble_eq_true hn) (zlv_set i (vR none) lv) k
  | some x => exact lv_astore_n hx hb hd rfl hl (Nat.le_of_ble_eq_true hn) (zlv_set i (vR (some x)) lv) k
theorem x_istore_n (pc' : Nat) {i : Fin 4} {x : Int} {lv' : List (Nat × zV)} (hd : decode cL_law pc = .ok (.istore_n i, 1)) (hp : pc + 1 = pc') (hn : Nat.blt ((i : Nat)) 8 = true) (hs : zset (i : Nat) (vI x) lv = lv') (kk : zL bx cu su pc' lv' st t) : zL bx cu su pc lv (vI x :: st) t := by
  subst hp
  subst hs
  refine x_store (pc + 1) (fun p l e R s m args below meth c H locs cells slots Q ls hx hb hl k => ?_) kk
  exact lv_istore_n hx hb hd rfl hl (Nat.le_of_ble_eq_true hn) (zlv_set i (vI x) lv) k
theorem x_swIn (tgt : Nat) {dflt lo hi : Int} {offs : Array Int} {len : Nat} {x off : Int} (hd : decode cL_law pc = .ok (.tableswitch dflt lo hi offs, len)) (h1 : zi x) (h2 : ¬ x < lo) (h3 : ¬ hi < x) (ho : offs[(x - lo).toNat]? = some off) (ht : (pc : Int) + off = (tgt : Int)) (kk : zL bx cu su tgt lv st t) : zL bx cu su pc lv (vI x :: st) t :=
  x_pure tgt (fun p l e R s m args below meth c H locs cells slots Q ls hx hb k => lv_tableIn hx hb hd (by rw [zi_toInt h1]; exact h2) (by rw [zi_toInt h1]; exact h3) (by rw [zi_toInt h1]; exact ho) ht k) kk
theorem x_swOut (tgt : Nat) {dflt lo hi : Int} {offs : Array Int} {len : Nat} {x : Int} (hd : decode cL_law pc = .ok (.tableswitch dflt lo hi offs, len)) (h1 : zi x) (h : x < lo ∨ hi < x) (ht : (pc : Int) + dflt = (tgt : Int)) (kk : zL bx cu su tgt lv st t) : zL bx cu su pc lv (vI x :: st) t :=
  x_pure tgt (fun p l e R s m args below meth c H locs cells slots Q ls hx hb k => lv_tableOut hx hb hd (by rw [zi_toInt h1]; exact h) ht k) kk
theorem x_new (pc' : Nat) {idx ci n : Nat} (hL : zNW yL_law.cls idx ci n) (hc : cu + 1 ≤ 600000) (hs : su + n ≤ 7302250) (hd : decode cL_law pc = .ok (.new idx, 3)) (hp : pc + 3 = pc') (kk : ∀ q, q ∉ tL t → zL bx (cu + 1) (su + n) pc' lv (vR (some q) :: st) (sA t q ci 0)) : zL bx cu su pc lv st t := by
  subst hp
  intro p l e s m args below meth c D cy A hC hE H locs ls hw hl
  have k := fun q hq H1 locs1 hw1 => kk q hq p l e s m args below meth c D cy A hC hE H1 locs1 ls hw1 hl
  obtain ⟨hx, hb, hr, hts, hns, hown, -, -, -, hK, hA, -⟩ := hC
  obtain ⟨C, F, ty, hcl, h5, rfl, hin, hty, hdf, g1, g2, g3⟩ := hL
  have hfs : ∀ j, j < zNf ci → defaultValue (ty j) = vp_V ((List.range (zNf ci)).map (fun k => if zTg ci k = 0 then Value.int 0 else if zTg ci k = 1 then Value.float 0 else Value.null)) j := by
    intro j hj
    rw [hdf j hj]
    simp [vp_V, hj]
  refine va_new hx hb hts hin ty hty hown (hts _ g1) (hts _ g2) (hts _ g3) hK hw.1 hw.2.1 hw.2.2 hA hcl hfs hc hs hd (fun q H1 a1 a2 a3 => ?_)
  have hq := zfresh a2
  have he : (Sum.inr (ci, (List.range (zNf ci)).map (fun k => if zTg ci k = 0 then Value.int 0 else if zTg ci k = 1 then Value.float 0 else Value.null)) : va_E) = zE cy (sA t q ci 0) q := by
    rw [zE_obj (t := sA t q ci 0) (show up1 (tK t) q ci q = ci from if_pos rfl) h5]
    refine congrArg (fun f => (Sum.inr (ci, f) : va_E)) (List.map_congr_left fun k _ => ?_)
    simp [zFv, sA, tI, tF, tP, up1, va_rf]
  have e1 := zW_new (kd := ci) (n := 0) hq he
  exact k q hq H1 locs ⟨by rw [← e1]; exact a1, by rw [← e1]; exact a2, a3⟩
theorem x_callV (pc' : Nat) {idx n d' mc' ms' a ci : Nat} {r0 : vw_C} {y' : MethodName} {b' : ByteArray} {nL' : Nat} {ret' : Option FieldType} {P1 : Option zV → zT → Prop} {st0 : List zV} (as : List zV) (hT : zCal y' b' nL' ret' n) (h1 : Cond.methodLink yL_law.cls idx y' ∈ lw_all) (h2 : Cond.instanceMethod y' ∈ lw_all) (h3 : Cond.selects y'.cls y' y' ∈ lw_all) (ha : a ∈ tL t) (hk : tK t a = ci) (h5 : ci < 5) (hr0 : vwCl[ci]? = some r0) (hr1 : r0.1 = y'.cls) (hM : zM y' b' nL' ret' d' mc' ms' (vR (some a) :: as) t P1) (hst : st0 = as.reverse ++ vR (some a) :: st) (hn : as.length = n) (hdd : d' < 2048) (hcs : zcs st ≤ 8) (hmc : cu + mc' ≤ 600000) (hms : su + ms' ≤ 7302250) (hd : decode cL_law pc = .ok (.invokevirtual idx, 3)) (hp : pc + 3 = pc')
    (kk : ∀ r t1, P1 r t1 → zL bx (cu + mc') (su + ms') pc' lv (r.toList ++ st) t1) : zL bx cu su pc lv st0 t := by
  subst hp
  subst hst
  intro p l e s m args below meth c D cy A hC hE H locs ls hw hl
  obtain ⟨hF, hpre⟩ := zpre (as := vR (some a) :: as) hC hw
  have k := fun r t1 hP1 H1 locs1 hw1 => kk r t1 hP1 p l e s m args below meth c D cy A hC hE H1 locs1 ls hw1 hl
  obtain ⟨hx, hb, hr, hts, hns, hown, hml, -, -, hK, hA, hAb, hO⟩ := hC
  obtain ⟨c1, c2, c3, c4, c5, c6⟩ := hT
  have hG : GoodIn lw_all (wsV yL_law.cls idx y'.cls y' (zws y' b' nL' ret')) := goodIn_app (fun w hw => by
    rcases List.mem_cons.mp hw with rfl | hw
    · exact ⟨h1, good_of_word (lw_all_good h1)⟩
    rcases List.mem_cons.mp hw with rfl | hw
    · exact ⟨h2, good_of_word (lw_all_good h2)⟩
    rcases List.mem_cons.mp hw with rfl | hw
    · exact ⟨h3, good_of_word (lw_all_good h3)⟩
    rcases List.mem_cons.mp hw with rfl | hw
    · exact ⟨c2, good_of_word (lw_all_good c2)⟩
    · cases hw) (zws_good c1)
  obtain ⟨k0, hk0⟩ := zW_get (cy := cy) ha
  rw [zE_obj hk h5] at hk0
  have hrec := va_recv hK hw.1 hr0 hk0
  rw [hr1] at hrec
  refine zafter (rest := st.map rv) (va_runV (As := as.map rv) ⟨hx, hb, hml, hown, hts⟩ (hM l D cy H.size) (cwV n hts hG rfl rfl rfl ⟨rfl, c3, c4, c5⟩ ⟨hdd, by show 8 + (nL' + 11) + 40 * d' ≤ 84000; omega⟩) ⟨zB_blind, hrec, hpre⟩ rfl (by simpa using hn) hl.1 (by simp; rfl) (lv_room (by rw [zcs_eq]; exact hcs)) hd ⟨hmc, hms⟩) hw.2.2 hF hF (fun r t1 H1 locs1 hP1 a1 a2 a3 => ?_)
  have := k r t1 hP1 H1 locs1 ⟨a1, a2, a3⟩
  rw [List.map_append] at this
  simpa using this
theorem x_widen {cu' su' : Nat} (hc : cu ≤ cu') (hs : su ≤ su') (kk : zL bx cu' su' pc lv st t) : zL bx cu su pc lv st t := fun p l e s m args below meth c D cy A hC hE H locs ls hw hl =>
  W.widen hc hs (kk p l e s m args below meth c D cy A hC hE H locs ls hw hl)
theorem x_slen (pc' : Nat) {z : Int} (hz : ((bx.2.1 : Nat) : Int) = z) (hd : decode cL_law pc = .ok (.arraylength, 1)) (hp : pc + 1 = pc') (kk : zL bx cu su pc' lv (vI z :: st) t) : zL bx cu su pc lv (vR (some bx.1) :: st) t := by
  subst hp
  subst hz
  intro p l e s m args below meth c D cy A hC hE H locs ls hw hl
  have k := kk p l e s m args below meth c D cy A hC hE H locs ls hw hl
  exact va_slen hC.1 hC.2.1 hE.2.1 hE.2.2.1 hE.2.2.2.1 hw.2.2 hd k
theorem x_sld (pc' : Nat) {i : Int} (h : 0 ≤ i ∧ i < bx.2.1) (hL : bx.2.1 ≤ 3072) {z : Int} (hz : (bx.2.2 i.toNat).toInt = z) (hd : decode cL_law pc = .ok (.iaload, 1)) (hp : pc + 1 = pc') (kk : zL bx cu su pc' lv (vI z :: st) t) : zL bx cu su pc lv (vI i :: vR (some bx.1) :: st) t := by
  subst hp
  subst hz
  intro p l e s m args below meth c D cy A hC hE H locs ls hw hl
  have k := kk p l e s m args below meth c D cy A hC hE H locs ls hw hl
  obtain ⟨h1, h2, -⟩ := zix (n := bx.2.1) (by omega) h
  refine va_sld (i := Int32.ofInt i) hC.1 hC.2.1 hE.2.1 hE.2.2.1 hE.2.2.2.1 hw.2.2 h1 hd ?_
  rw [h2]
  rw [List.map_cons, show rv (vI (bx.2.2 i.toNat).toInt) = .int (bx.2.2 i.toNat) from congrArg Value.int (Int32.ofInt_toInt _)] at k
  exact k
theorem x_ret (hd : decode cL_law pc = .ok (.ireturn, 1)) (hc : cu ≤ 600000) (hs : su ≤ 7302250) : zL bx cu su pc lv [vI 1] t := by
  intro p l e s m args below meth c D cy A hC hE H locs ls hw hl
  obtain ⟨hx, hb, hr, hts, hns, hown, -, hlk, -⟩ := hC
  obtain ⟨rfl, -, -, -, hA⟩ := hE
  refine va_forget (fun q hq => hA _ (hw.2.2.2.2 q hq)) ?_
  refine W.widen hc hs ?_
  exact lw_ret (d0 := s.drawn) (Drawn.sameBut.refl s.drawn lw_cs) hx hb hr hlk hd
theorem x_callI (pc' : Nat) {idx n d' mc' ms' a : Nat} {y' : MethodName} {b' : ByteArray} {nL' : Nat} {P1 : Option zV → zT → Prop} {st0 : List zV} (as : List zV) (hT : zCal y' b' nL' none n) (h1 : Cond.methodLink yL_law.cls idx y' ∈ lw_all) (h2 : Cond.instanceMethod y' ∈ lw_all) (hnm : y'.name = "<init>") (hM : zM y' b' nL' none d' mc' ms' (vR (some a) :: as) t P1) (hst : st0 = as.reverse ++ vR (some a) :: st) (hn : as.length = n) (hdd : d' < 2048) (hcs : zcs st ≤ 8) (hmc : cu + mc' ≤ 600000) (hms : su + ms' ≤ 7302250) (hd : decode cL_law pc = .ok (.invokespecial idx, 3)) (hp : pc + 3 = pc')
    (kk : ∀ r t1, P1 r t1 → zL bx (cu + mc') (su + ms') pc' lv (r.toList ++ st) t1) : zL bx cu su pc lv st0 t := by
  subst hp
  subst hst
  intro p l e s m args below meth c D cy A hC hE H locs ls hw hl
  obtain ⟨hF, hpre⟩ := zpre (as := vR (some a) :: as) hC hw
  have k := fun r t1 hP1 H1 locs1 hw1 => kk r t1 hP1 p l e s m args below meth c D cy A hC hE H1 locs1 ls hw1 hl
  obtain ⟨hx, hb, hr, hts, hns, hown, hml, -, -, hK, hA, hAb, hO⟩ := hC
  obtain ⟨c1, c2, c3, c4, c5, c6⟩ := hT
  refine zafter (rest := st.map rv) (va_runI (As := as.map rv) ⟨hx, hb, hml, hown, hts⟩ (hM l D cy H.size) (cwI n hts (zws_good c1) rfl rfl rfl (hts _ c2) (hts _ h1) (hts _ h2) hnm ⟨c3, c4, c5⟩ ⟨hdd, by show 8 + (nL' + 11) + 40 * d' ≤ 84000; omega⟩) ⟨zB_blind, hpre⟩ rfl (by simpa using hn) hl.1 (by simp; rfl) (lv_room (by rw [zcs_eq]; exact hcs)) hd ⟨hmc, hms⟩) hw.2.2 hF hF (fun r t1 H1 locs1 hP1 a1 a2 a3 => ?_)
  have := k r t1 hP1 H1 locs1 ⟨a1, a2, a3⟩
  rw [List.map_append] at this
  simpa using this
end XR
