
/-! making cells, calls, ends -/
section ZN
variable {y : MethodName} {b : ByteArray} {nL : Nat} {ret : Option FieldType} {d mc ms : Nat} {Post : Option zV → zT → Prop} {cu su pc : Nat} {lv : List (Nat × zV)} {st : List zV} {t : zT}
theorem zfresh {cy : Nat → ClassId} {A : Nat → Prop} {t : zT} {q : Nat} {e : va_E} (hD : va_D A (zW cy t ++ [(q, e)])) : q ∉ tL t := by
  intro h
  obtain ⟨k, hk⟩ := zW_get (cy := cy) h
  have hl := (List.getElem?_eq_some_iff.mp hk).1
  have h1 : (zW cy t ++ [(q, e)])[k]? = some (q, zE cy t q) := by rw [List.getElem?_append_left hl]; exact hk
  have h2 : (zW cy t ++ [(q, e)])[(zW cy t).length]? = some (q, e) := by simp
  have := hD.1 k (zW cy t).length _ _ h1 h2 rfl
  omega
theorem zW_new {cy : Nat → ClassId} {t : zT} {q kd n : Nat} {e : va_E} (hq : q ∉ tL t) (he : e = zE cy (sA t q kd n) q) : zW cy t ++ [(q, e)] = zW cy (sA t q kd n) := by
  refine (va_pl_push (e := e) hq).trans ?_
  show va_pl (tL t ++ [q]) _ = va_pl (tL t ++ [q]) _
  refine va_pl_congr (fun b => ?_)
  by_cases hb : b = q
  · subst hb; rw [va_up_self]; exact he
  · rw [va_up_ne _ _ hb]; exact (zE_sA_ne hb).symm
/-- what the tables say of making an object -/
def zNW (own : String) (idx ci n : Nat) : Prop := ∃ (C : String) (F : u_T) (ty : Nat → FieldType), vwCl[ci]? = some (C, F, n) ∧ ci < 5 ∧ n = zNf ci ∧ (∀ w ∈ u_ws C F n, w ∈ lw_all) ∧ (∀ k, k < n → parseFieldDescriptor (F k).2.2.1 = some (ty k)) ∧ (∀ k, k < n → defaultValue (ty k) = if zTg ci k = 0 then .int 0 else if zTg ci k = 1 then .float 0 else .null) ∧ Cond.classLink own idx C ∈ lw_all ∧ Cond.instantiable C n ∈ lw_all ∧ Cond.initialized C ∈ lw_all
theorem z_new (pc' : Nat) {idx ci n : Nat} (hL : zNW y.cls idx ci n) (hc : cu + 1 ≤ mc) (hs : su + n ≤ ms) (hd : decode b pc = .ok (.new idx, 3)) (hp : pc + 3 = pc') (kk : ∀ q, q ∉ tL t → zOK y b nL ret d mc ms Post (cu + 1) (su + n) pc' lv (vR (some q) :: st) (sA t q ci 0)) : zOK y b nL ret d mc ms Post cu su pc lv st t := by
  subst hp
  intro p l e s m args below meth c D cy A hC H locs ls hw hl
  have k := fun q hq H1 locs1 hw1 => kk q hq p l e s m args below meth c D cy A hC H1 locs1 ls hw1 hl
  obtain ⟨hx, hb, hr, hts, hns, hown, -, -, -, hK, hA, -⟩ := hC
  obtain ⟨C, F, ty, hcl, h5, rfl, hin, hty, hdf, g1, g2, g3⟩ := hL
  have hfs : ∀ j, j < zNf ci → defaultValue (ty j) = vp_V ((List.range (zNf ci)).map (fun k => if zTg ci k = 0 then Value.int 0 else if zTg ci k = 1 then Value.float 0 else Value.null)) j := by
    intro j hj
    rw [hdf j hj]
    simp [vp_V, hj]
  refine va_new hx hb hts hin ty hty hown (hts _ g1) (hts _ g2) (hts _ g3) hK hw.1 hw.2.1 hw.2.2 hA hcl hfs hc hs hd (fun q H1 a1 a2 a3 => ?_)
  have hq := zfresh a2
  have he : (Sum.inr (ci, (List.range (zNf ci)).map (fun k => if zTg ci k = 0 then Value.int 0 else if zTg ci k = 1 then Value.float 0 else Value.null)) : va_E) = zE cy (sA t q ci 0) q := by
    rw [zE_obj (t := sA t q ci 0) (show up1 (tK t) q ci q = ci from if_pos rfl) h5]
    refine congrArg (fun f => (Sum.inr (ci, f) : va_E)) (List.map_congr_left fun k _ => ?_)
    simp [zFv, sA, tI, tF, tP, up1, va_rf]
  have e1 := zW_new (kd := ci) (n := 0) hq he
  exact k q hq H1 locs ⟨by rw [← e1]; exact a1, by rw [← e1]; exact a2, a3⟩
/-- arrays of numbers: 4 boolean, 6 float, 10 int -/
theorem z_newaI (pc' : Nat) {j : Int} (N : Nat) (hj : j = N) (hN : Nat.ble N 1000000 = true) (hw0 : Cond.arrayClass .int ∈ lw_all) (hc : cu + 1 ≤ mc) (hs : su + N ≤ ms) (hd : decode b pc = .ok (.newarray .int, 2)) (hp : pc + 2 = pc') (kk : ∀ q, q ∉ tL t → zOK y b nL ret d mc ms Post (cu + 1) (su + N) pc' lv (vR (some q) :: st) (sA t q 6 N)) : zOK y b nL ret d mc ms Post cu su pc lv (vI j :: st) t := by
  subst hp
  subst hj
  have hN2 := Nat.le_of_ble_eq_true hN
  intro p l e s m args below meth c D cy A hC H locs ls hw hl
  have k := fun q hq H1 locs1 hw1 => kk q hq p l e s m args below meth c D cy A hC H1 locs1 ls hw1 hl
  obtain ⟨hx, hb, hr, hts, hns, hown, -, -, -, hK, hA, -⟩ := hC
  have hz : zi (N : Int) := ⟨by omega, by omega⟩
  refine va_newa (atype := .int) (ty := .int) (a0 := (N, .inl (fun _ => 0))) hx hb (hts (Cond.arrayClass _) hw0) rfl hK hw.1 hw.2.1 hw.2.2 hA (fun _ => rfl) (fun q => by rw [zi_ofInt0] at q; have := (zi_lt hz zi_0).mp q; omega) (show (Int32.ofInt (N : Int)).toInt.toNat = N by rw [zi_toInt hz]; omega) (by show N * 4 ≤ _; omega) hc hs hd (fun q cA H1 a0 a1 a2 a3 => ?_)
  have hq := zfresh a2
  have hcA : cA = cy 6 := by
    have r1 := (a0.2 6 (cA, .int) rfl).2
    have r2 := (hK.2 1 (cy 6, .int) rfl).2
    exact Option.some.inj (r1.symm.trans r2)
  subst hcA
  have e1 := zW_new (kd := 6) (n := N) (t := t) (cy := cy) hq (e := .inl (cy 6, N, .inl (fun _ => 0))) (by
    rw [zE_in (t := sA t q 6 N) (show up1 (tK t) q 6 q = 6 from if_pos rfl) (Or.inl rfl)]
    simp [sA, tI, tN, up1])
  exact k q hq H1 locs ⟨by rw [← e1]; exact a1, by rw [← e1]; exact a2, a3⟩
theorem z_newaZ (pc' : Nat) {j : Int} (N : Nat) (hj : j = N) (hN : Nat.ble N 1000000 = true) (hw0 : Cond.arrayClass .boolean ∈ lw_all) (hc : cu + 1 ≤ mc) (hs : su + N ≤ ms) (hd : decode b pc = .ok (.newarray .boolean, 2)) (hp : pc + 2 = pc') (kk : ∀ q, q ∉ tL t → zOK y b nL ret d mc ms Post (cu + 1) (su + N) pc' lv (vR (some q) :: st) (sA t q 7 N)) : zOK y b nL ret d mc ms Post cu su pc lv (vI j :: st) t := by
  subst hp
  subst hj
  have hN2 := Nat.le_of_ble_eq_true hN
  intro p l e s m args below meth c D cy A hC H locs ls hw hl
  have k := fun q hq H1 locs1 hw1 => kk q hq p l e s m args below meth c D cy A hC H1 locs1 ls hw1 hl
  obtain ⟨hx, hb, hr, hts, hns, hown, -, -, -, hK, hA, -⟩ := hC
  have hz : zi (N : Int) := ⟨by omega, by omega⟩
  refine va_newa (atype := .boolean) (ty := .boolean) (a0 := (N, .inl (fun _ => 0))) hx hb (hts (Cond.arrayClass _) hw0) rfl hK hw.1 hw.2.1 hw.2.2 hA (fun _ => rfl) (fun q => by rw [zi_ofInt0] at q; have := (zi_lt hz zi_0).mp q; omega) (show (Int32.ofInt (N : Int)).toInt.toNat = N by rw [zi_toInt hz]; omega) (by show N * 1 ≤ _; omega) hc hs hd (fun q cA H1 a0 a1 a2 a3 => ?_)
  have hq := zfresh a2
  have hcA : cA = cy 7 := by
    have r1 := (a0.2 6 (cA, .boolean) rfl).2
    have r2 := (hK.2 2 (cy 7, .boolean) rfl).2
    exact Option.some.inj (r1.symm.trans r2)
  subst hcA
  have e1 := zW_new (kd := 7) (n := N) (t := t) (cy := cy) hq (e := .inl (cy 7, N, .inl (fun _ => 0))) (by
    rw [zE_in (t := sA t q 7 N) (show up1 (tK t) q 7 q = 7 from if_pos rfl) (Or.inr rfl)]
    simp [sA, tI, tN, up1])
  exact k q hq H1 locs ⟨by rw [← e1]; exact a1, by rw [← e1]; exact a2, a3⟩
theorem z_newaF (pc' : Nat) {j : Int} (N : Nat) (hj : j = N) (hN : Nat.ble N 1000000 = true) (hw0 : Cond.arrayClass .float ∈ lw_all) (hc : cu + 1 ≤ mc) (hs : su + N ≤ ms) (hd : decode b pc = .ok (.newarray .float, 2)) (hp : pc + 2 = pc') (kk : ∀ q, q ∉ tL t → zOK y b nL ret d mc ms Post (cu + 1) (su + N) pc' lv (vR (some q) :: st) (sA t q 5 N)) : zOK y b nL ret d mc ms Post cu su pc lv (vI j :: st) t := by
  subst hp
  subst hj
  have hN2 := Nat.le_of_ble_eq_true hN
  intro p l e s m args below meth c D cy A hC H locs ls hw hl
  have k := fun q hq H1 locs1 hw1 => kk q hq p l e s m args below meth c D cy A hC H1 locs1 ls hw1 hl
  obtain ⟨hx, hb, hr, hts, hns, hown, -, -, -, hK, hA, -⟩ := hC
  have hz : zi (N : Int) := ⟨by omega, by omega⟩
  refine va_newa (atype := .float) (ty := .float) (a0 := (N, .inr (.inr (.inl (fun _ => 0))))) hx hb (hts (Cond.arrayClass _) hw0) rfl hK hw.1 hw.2.1 hw.2.2 hA (fun _ => rfl) (fun q => by rw [zi_ofInt0] at q; have := (zi_lt hz zi_0).mp q; omega) (show (Int32.ofInt (N : Int)).toInt.toNat = N by rw [zi_toInt hz]; omega) (by show N * 4 ≤ _; omega) hc hs hd (fun q cA H1 a0 a1 a2 a3 => ?_)
  have hq := zfresh a2
  have hcA : cA = cy 5 := by
    have r1 := (a0.2 6 (cA, .float) rfl).2
    have r2 := (hK.2 0 (cy 5, .float) rfl).2
    exact Option.some.inj (r1.symm.trans r2)
  subst hcA
  have e1 := zW_new (kd := 5) (n := N) (t := t) (cy := cy) hq (e := .inl (cy 5, N, .inr (.inr (.inl (fun _ => 0))))) (by
    rw [zE_fl (t := sA t q 5 N) (show up1 (tK t) q 5 q = 5 from if_pos rfl)]
    simp [sA, tF, tN, up1])
  exact k q hq H1 locs ⟨by rw [← e1]; exact a1, by rw [← e1]; exact a2, a3⟩
theorem z_anew (pc' : Nat) {j : Int} {idx ci : Nat} {r : vw_C} (N : Nat) (hj : j = N) (hN : N ≤ 1000000) (h3 : ci < 3) (hr0 : vwCl[ci]? = some r) (hw0 : Cond.classLink y.cls idx r.1 ∈ lw_all) (hc : cu + 1 ≤ mc) (hs : su + N ≤ ms) (hd : decode b pc = .ok (.anewarray idx, 3)) (hp : pc + 3 = pc') (kk : ∀ q, q ∉ tL t → zOK y b nL ret d mc ms Post (cu + 1) (su + N) pc' lv (vR (some q) :: st) (sA t q (8 + ci) N)) : zOK y b nL ret d mc ms Post cu su pc lv (vI j :: st) t := by
  subst hp
  subst hj
  intro p l e s m args below meth c D cy A hC H locs ls hw hl
  have k := fun q hq H1 locs1 hw1 => kk q hq p l e s m args below meth c D cy A hC H1 locs1 ls hw1 hl
  obtain ⟨hx, hb, hr, hts, hns, hown, -, -, -, hK, hA, -, hO⟩ := hC
  have hz : zi (N : Int) := ⟨by omega, by omega⟩
  have hci : ci = 0 ∨ ci = 1 ∨ ci = 2 := by omega
  have hover : va_AO r.1 s := by
    rcases hci with rfl | rfl | rfl <;> cases hr0
    · exact hO.1
    · exact hO.2.1
    · exact hO.2.2
  refine va_newq hx hb hown (hts _ hw0) hover hK hw.1 hw.2.1 hw.2.2 hA (fun q => by rw [zi_ofInt0] at q; have := (zi_lt hz zi_0).mp q; omega) (show (Int32.ofInt (N : Int)).toInt.toNat = N by rw [zi_toInt hz]; omega) (by omega) hc hs hd (fun q cA H1 a0 a1 a2 a3 => ?_)
  have hq := zfresh a2
  have hcA : cA = cy (8 + ci) := by
    obtain ⟨_, _, _, _, _, r1⟩ := (a0.2 6 (cA, .object r.1) rfl).2
    rcases hci with rfl | rfl | rfl <;> cases hr0
    · obtain ⟨_, _, _, _, _, r2⟩ := (hK.2 3 (cy 8, .object RX0) rfl).2
      exact Option.some.inj (r1.symm.trans r2)
    · obtain ⟨_, _, _, _, _, r2⟩ := (hK.2 4 (cy 9, .object RX1) rfl).2
      exact Option.some.inj (r1.symm.trans r2)
    · obtain ⟨_, _, _, _, _, r2⟩ := (hK.2 5 (cy 10, .object RX2) rfl).2
      exact Option.some.inj (r1.symm.trans r2)
  subst hcA
  have e1 := zW_new (kd := 8 + ci) (n := N) (t := t) (cy := cy) hq (e := .inl (cy (8 + ci), N, .inr (.inr (.inr (.inr (fun _ => none)))))) (by
    rw [zE_rf (t := sA t q (8 + ci) N) (show up1 (tK t) q (8 + ci) q = 8 + ci from if_pos rfl) (by omega)]
    simp [sA, tP, tN, up1])
  exact k q hq H1 locs ⟨by rw [← e1]; exact a1, by rw [← e1]; exact a2, a3⟩
/-! ends -/
theorem zend {r : Option zV} (hp : Post r t) (hc : cu ≤ mc) (hs : su ≤ ms)
    (h : ∀ (p : Program) (l : Launch) (e : Env) (R : Room) (s : State) (m : MethodId) (args : Array Value) (below : List Frame) (meth : Method) (c : Code) (H : Heap) (locs : List Loc) (ls : Array Slot) (Qc : Array Value → State → Outcome → State → Prop) (free : Addr → Prop), p.tables.exec = Jvm.exec → c.code = b → meth.sig.returnType = ret → meth.locks = false → (∀ u : State, u.heap = H → s.WarmedH u.vm → Qc args s (.returned (r.map rv)) u) → (∀ q ∈ locs, free q.base) → W p l e R s m args below meth c H locs mc ms (MQ below Qc args s mc ms free) (F0 m pc ls (st.map rv))) : zOK y b nL ret d mc ms Post cu su pc lv st t := by
  intro p l e s m args below meth c D cy A hC H locs ls hw hl
  obtain ⟨hx, hb, hr, hts, hns, hown, -, hlk, -, hK, hA, -⟩ := hC
  refine W.widen hc hs ?_
  exact h p l e (zR d mc ms) s m args below meth c H locs ls _ _ hx hb hr hlk (fun u hu hW => ⟨⟨r, t, rfl, hp, by rw [hu]; exact hw.1, hw.2.1, va_K.moved hW.alike hK⟩, hw.2.2.F hu⟩) hw.2.2.2.2
theorem z_ireturn {z : Int} (hr : ret = some .int) (hd : decode b pc = .ok (.ireturn, 1)) (hc : cu ≤ mc) (hs : su ≤ ms) (hp : Post (some (vI z)) t) : zOK y b nL ret d mc ms Post cu su pc lv [vI z] t :=
  zend hp hc hs (fun p l e R s m args below meth c H locs ls Qc free hx hb hr2 hlk hq hf => W.iret hx hb (hr2.trans hr) hq hf hd hlk)
theorem z_zreturn {z : Int} (hr : ret = some .boolean) (hz : z = 0 ∨ z = 1) (hd : decode b pc = .ok (.ireturn, 1)) (hc : cu ≤ mc) (hs : su ≤ ms) (hp : Post (some (vI z)) t) : zOK y b nL ret d mc ms Post cu su pc lv [vI z] t :=
  zend hp hc hs (fun p l e R s m args below meth c H locs ls Qc free hx hb hr2 hlk hq hf => W.zret (ty := .boolean) hx hb (hr2.trans hr) (by rcases hz with rfl | rfl <;> rfl) hq hf hd hlk)
theorem z_lreturn {z : Int} (hr : ret = some .long) (hd : decode b pc = .ok (.lreturn, 1)) (hc : cu ≤ mc) (hs : su ≤ ms) (hp : Post (some (vL z)) t) : zOK y b nL ret d mc ms Post cu su pc lv [vL z] t :=
  zend hp hc hs (fun p l e R s m args below meth c H locs ls Qc free hx hb hr2 hlk hq hf => W.lret hx hb (hr2.trans hr) hq hf hd hlk)
theorem z_freturn {z : UInt32} (hr : ret = some .float) (hd : decode b pc = .ok (.freturn, 1)) (hc : cu ≤ mc) (hs : su ≤ ms) (hp : Post (some (vF z)) t) : zOK y b nL ret d mc ms Post cu su pc lv [vF z] t :=
  zend hp hc hs (fun p l e R s m args below meth c H locs ls Qc free hx hb hr2 hlk hq hf => W.fret hx hb (hr2.trans hr) hq hf hd hlk)
theorem z_dreturn {z : UInt64} (hr : ret = some .double) (hd : decode b pc = .ok (.dreturn, 1)) (hc : cu ≤ mc) (hs : su ≤ ms) (hp : Post (some (vD z)) t) : zOK y b nL ret d mc ms Post cu su pc lv [vD z] t :=
  zend hp hc hs (fun p l e R s m args below meth c H locs ls Qc free hx hb hr2 hlk hq hf => W.dret hx hb (hr2.trans hr) hq hf hd hlk)
theorem z_return (hr : ret = none) (hd : decode b pc = .ok (.return_, 1)) (hc : cu ≤ mc) (hs : su ≤ ms) (hp : Post none t) : zOK y b nL ret d mc ms Post cu su pc lv [] t :=
  zend hp hc hs (fun p l e R s m args below meth c H locs ls Qc free hx hb hr2 hlk hq hf => W.vret hx hb (hr2.trans hr) hq hf hd hlk)
theorem z_areturn {z : Option Nat} {rt : FieldType} (hr : ret = some rt) (hrt : (∃ n, rt = .object n) ∨ ∃ t, rt = .array t) (hd : decode b pc = .ok (.areturn, 1)) (hc : cu ≤ mc) (hs : su ≤ ms) (hp : Post (some (vR z)) t) : zOK y b nL ret d mc ms Post cu su pc lv [vR z] t :=
  zend hp hc hs (fun p l e R s m args below meth c H locs ls Qc free hx hb hr2 hlk hq hf => W.aret hx hb (hr2.trans hr) hrt (va_rf_or z) hq hf hd hlk)
/-! calls -/
theorem zafter {p : Program} {l : Launch} {e : Env} {R : Room} {s : State} {m : MethodId} {args : Array Value} {below : List Frame} {meth : Method} {c : Code} {H H0 : Heap} {locs : List Loc} {cells slots mc' ms' : Nat} {Q : State → Prop} {D : va_G} {cy : Nat → ClassId} {A0 A1 free : Nat → Prop} {ls : Array Slot} {st0 rest : List Value} {a : Array Value} {P1 : Option zV → zT → Prop}
    (hr : va_Run p l e R s m args below meth c H locs cells slots mc' ms' (F0 m pc ls st0) rest (zQ D cy A1 P1 a) free) (hS : va_S A0 H0 H locs) (hA : ∀ q, A1 q → A0 q) (hf : ∀ q, free q → A0 q)
    (kk : ∀ (r : Option zV) (t1 : zT) (H1 : Heap) (locs1 : List Loc), P1 r t1 → va_P D vwCl (zW cy t1) H1 → va_D A0 (zW cy t1) → va_S A0 H0 H1 locs1 → W p l e R s m args below meth c H1 locs1 (cells + mc') (slots + ms') Q (F0 m (pc + 3) ls ((r.toList ++ []).map rv ++ rest))) : W p l e R s m args below meth c H locs cells slots Q (F0 m pc ls st0) := by
  intro T hT X
  obtain ⟨v, st₀, u, T', L, h0, X', hL, e1, e2, ⟨⟨r, t1, hv, hp, hP1, hD1, -⟩, hz, hk⟩, stp⟩ := hr T hT X
  have hv2 : v = r.map rv := Outcome.returned.inj hv
  subst hv2
  rw [h0] at hz hk
  obtain ⟨t2, a1, b1⟩ := kk r t1 T'.heap (locs ++ L) hp (by rw [e1]; exact hP1) (hD1.weaken (fun _ q _ h => hA q.1 h))
    ⟨Nat.le_trans hS.1 (by rw [e1]; exact hz), fun q h1 h2 => by rw [e1, hk q (Nat.lt_of_lt_of_le h1 hS.1) (fun z => h2 (hA q z))]; exact hS.2.1 q h1 h2, fun q hq => by
      rcases List.mem_append.mp hq with h | h
      · exact hS.2.2 q h
      · exact hf _ (hL q h)⟩ T' rfl X'
  refine ⟨t2, stp t2 ?_, b1⟩
  have e3 : (r.map rv).toList ++ rest = (r.toList ++ []).map rv ++ rest := by cases r <;> rfl
  rw [e3]
  exact a1
def zcs (st : List zV) : Nat := (st.map vcat).sum
theorem zcs_eq (st : List zV) : ((st.map rv).map fun v => v.category).sum = zcs st := by
  unfold zcs
  rw [List.map_map]
  congr 1
  apply List.map_congr_left
  intro v _
  exact rv_cat v
/-- the tables on a call -/
def zCal (y' : MethodName) (b' : ByteArray) (nL' : Nat) (ret' : Option FieldType) (n : Nat) : Prop := Cond.code y' b' nL' ret' ∈ lw_all ∧ Cond.initialized y'.cls ∈ lw_all ∧ y'.cls ≠ "java/lang/invoke/MethodHandle" ∧ y'.cls ≠ "java/lang/invoke/VarHandle" ∧ (parseMethodDescriptor y'.desc).map (fun d => d.parameters.length) = some n ∧ nL' ≤ 21
theorem zws_good {y' : MethodName} {b' : ByteArray} {nL' : Nat} {ret' : Option FieldType} (h : Cond.code y' b' nL' ret' ∈ lw_all) : GoodIn lw_all (zws y' b' nL' ret') := by
  intro w hw
  rcases List.mem_cons.mp hw with rfl | hw
  · exact ⟨h, good_of_word (lw_all_good h)⟩
  · exact ⟨hw, good_of_word (lw_all_good hw)⟩
theorem zpre {p : Program} {s : State} {m : MethodId} {args : Array Value} {meth : Method} {c : Code} {D : va_G} {cy : Nat → ClassId} {A : Nat → Prop} {H : Heap} {locs : List Loc} {as : List zV} (hC : zCV y b nL ret p s m args meth c D cy A) (hw : zWD D cy A s.heap t H locs) :
    (∀ q, va_A (zW cy t) H.size q → A q) ∧ ∀ U : State, U.heap = H → s.WarmedH U.vm → va_Pc (as.map rv) (zB cy D t H.size) (as.map rv).toArray U := by
  obtain ⟨hx, hb, hr, hts, hns, hown, -, -, -, hK, hA, hAb, hO⟩ := hC
  have hF : ∀ q, va_A (zW cy t) H.size q → A q := by
    intro q h
    rcases h with ⟨k, e, h⟩ | h
    · exact hw.2.1.2 k (q, e) h
    · exact hA q (Nat.le_trans hw.2.2.1 h)
  refine ⟨hF, fun U hU hW => ⟨rfl, by rw [hU], by rw [hU]; exact hw.1, hw.2.1.weaken (fun _ _ _ _ => trivial), va_K.moved hW.alike hK, zNst_warm hW hns, ?_, hO.moved hW.alike⟩⟩
  obtain ⟨ta, h1, h2⟩ := hAb
  rw [hU]
  refine ⟨ta, ((h1.kept (H1 := H) (fun a g1 g2 => hw.2.2.2.1 a g1 g2)).narrow hF).moved hW.alike, ((h2.kept (H1 := H) (fun a g1 g2 => hw.2.2.2.1 a g1 g2)).narrow hF).moved hW.alike⟩
theorem z_callS (pc' : Nat) {idx n d' mc' ms' : Nat} {y' : MethodName} {b' : ByteArray} {nL' : Nat} {ret' : Option FieldType} {P1 : Option zV → zT → Prop} {st0 : List zV} (as : List zV) (hT : zCal y' b' nL' ret' n) (h1 : Cond.methodLink y.cls idx y' ∈ lw_all) (h2 : Cond.static y' ∈ lw_all) (hM : zM y' b' nL' ret' d' mc' ms' as t P1) (hst : st0 = as.reverse ++ st) (hn : as.length = n) (hdd : d' < d) (hcs : zcs st ≤ 8) (hmc : cu + mc' ≤ mc) (hms : su + ms' ≤ ms) (hd : decode b pc = .ok (.invokestatic idx, 3)) (hp : pc + 3 = pc')
    (kk : ∀ r t1, P1 r t1 → zOK y b nL ret d mc ms Post (cu + mc') (su + ms') pc' lv (r.toList ++ st) t1) : zOK y b nL ret d mc ms Post cu su pc lv st0 t := by
  subst hp
  subst hst
  intro p l e s m args below meth c D cy A hC H locs ls hw hl
  obtain ⟨hF, hpre⟩ := zpre (as := as) hC hw
  have k := fun r t1 hP1 H1 locs1 hw1 => kk r t1 hP1 p l e s m args below meth c D cy A hC H1 locs1 ls hw1 hl
  obtain ⟨hx, hb, hr, hts, hns, hown, hml, -, -, hK, hA, hAb, hO⟩ := hC
  obtain ⟨c1, c2, c3, c4, c5, c6⟩ := hT
  have hG : GoodIn lw_all (va_wsS y.cls idx y' (zws y' b' nL' ret')) := goodIn_app (fun w hw => by
    rcases List.mem_cons.mp hw with rfl | hw
    · exact ⟨h1, good_of_word (lw_all_good h1)⟩
    rcases List.mem_cons.mp hw with rfl | hw
    · exact ⟨h2, good_of_word (lw_all_good h2)⟩
    rcases List.mem_cons.mp hw with rfl | hw
    · exact ⟨c2, good_of_word (lw_all_good c2)⟩
    · cases hw) (zws_good c1)
  refine zafter (rest := st.map rv) (va_runS (As := as.map rv) ⟨hx, hb, hml, hown, hts⟩ (hM l D cy H.size) (va_cwS n hts hG rfl rfl rfl ⟨c3, c4, c5⟩ ⟨hdd, by show 8 + (nL' + 11) + 40 * d' ≤ 40 * d; omega⟩) ⟨zB_blind, hpre⟩ rfl (by simpa using hn) hl.1 (by simp) (lv_room (by rw [zcs_eq]; exact hcs)) hd ⟨hmc, hms⟩) hw.2.2 hF hF (fun r t1 H1 locs1 hP1 a1 a2 a3 => ?_)
  have := k r t1 hP1 H1 locs1 ⟨a1, a2, a3⟩
  rw [List.map_append] at this
  simpa using this
theorem z_callV (pc' : Nat) {idx n d' mc' ms' a ci : Nat} {r0 : vw_C} {y' : MethodName} {b' : ByteArray} {nL' : Nat} {ret' : Option FieldType} {P1 : Option zV → zT → Prop} {st0 : List zV} (as : List zV) (hT : zCal y' b' nL' ret' n) (h1 : Cond.methodLink y.cls idx y' ∈ lw_all) (h2 : Cond.instanceMethod y' ∈ lw_all) (h3 : Cond.selects y'.cls y' y' ∈ lw_all) (ha : a ∈ tL t) (hk : tK t a = ci) (h5 : ci < 5) (hr0 : vwCl[ci]? = some r0) (hr1 : r0.1 = y'.cls) (hM : zM y' b' nL' ret' d' mc' ms' (vR (some a) :: as) t P1) (hst : st0 = as.reverse ++ vR (some a) :: st) (hn : as.length = n) (hdd : d' < d) (hcs : zcs st ≤ 8) (hmc : cu + mc' ≤ mc) (hms : su + ms' ≤ ms) (hd : decode b pc = .ok (.invokevirtual idx, 3)) (hp : pc + 3 = pc')
    (kk : ∀ r t1, P1 r t1 → zOK y b nL ret d mc ms Post (cu + mc') (su + ms') pc' lv (r.toList ++ st) t1) : zOK y b nL ret d mc ms Post cu su pc lv st0 t := by
  subst hp
  subst hst
  intro p l e s m args below meth c D cy A hC H locs ls hw hl
  obtain ⟨hF, hpre⟩ := zpre (as := vR (some a) :: as) hC hw
  have k := fun r t1 hP1 H1 locs1 hw1 => kk r t1 hP1 p l e s m args below meth c D cy A hC H1 locs1 ls hw1 hl
  obtain ⟨hx, hb, hr, hts, hns, hown, hml, -, -, hK, hA, hAb, hO⟩ := hC
  obtain ⟨c1, c2, c3, c4, c5, c6⟩ := hT
  have hG : GoodIn lw_all (wsV y.cls idx y'.cls y' (zws y' b' nL' ret')) := goodIn_app (fun w hw => by
    rcases List.mem_cons.mp hw with rfl | hw
    · exact ⟨h1, good_of_word (lw_all_good h1)⟩
    rcases List.mem_cons.mp hw with rfl | hw
    · exact ⟨h2, good_of_word (lw_all_good h2)⟩
    rcases List.mem_cons.mp hw with rfl | hw
    · exact ⟨h3, good_of_word (lw_all_good h3)⟩
    rcases List.mem_cons.mp hw with rfl | hw
    · exact ⟨c2, good_of_word (lw_all_good c2)⟩
    · cases hw) (zws_good c1)
  obtain ⟨k0, hk0⟩ := zW_get (cy := cy) ha
  rw [zE_obj hk h5] at hk0
  have hrec := va_recv hK hw.1 hr0 hk0
  rw [hr1] at hrec
  refine zafter (rest := st.map rv) (va_runV (As := as.map rv) ⟨hx, hb, hml, hown, hts⟩ (hM l D cy H.size) (cwV n hts hG rfl rfl rfl ⟨rfl, c3, c4, c5⟩ ⟨hdd, by show 8 + (nL' + 11) + 40 * d' ≤ 40 * d; omega⟩) ⟨zB_blind, hrec, hpre⟩ rfl (by simpa using hn) hl.1 (by simp; rfl) (lv_room (by rw [zcs_eq]; exact hcs)) hd ⟨hmc, hms⟩) hw.2.2 hF hF (fun r t1 H1 locs1 hP1 a1 a2 a3 => ?_)
  have := k r t1 hP1 H1 locs1 ⟨a1, a2, a3⟩
  rw [List.map_append] at this
  simpa using this
/-- a constructor of a nest mate -/
theorem z_callI (pc' : Nat) {idx n d' mc' ms' a : Nat} {y' : MethodName} {b' : ByteArray} {nL' : Nat} {host : String} {P1 : Option zV → zT → Prop} {st0 : List zV} (as : List zV) (hT : zCal y' b' nL' none n) (h1 : Cond.methodLinkNest y.cls idx y' host ∈ lw_nst) (h2 : Cond.instanceMethod y' ∈ lw_all) (hnm : y'.name = "<init>") (hM : zM y' b' nL' none d' mc' ms' (vR (some a) :: as) t P1) (hst : st0 = as.reverse ++ vR (some a) :: st) (hn : as.length = n) (hdd : d' < d) (hcs : zcs st ≤ 8) (hmc : cu + mc' ≤ mc) (hms : su + ms' ≤ ms) (hd : decode b pc = .ok (.invokespecial idx, 3)) (hp : pc + 3 = pc')
    (kk : ∀ r t1, P1 r t1 → zOK y b nL ret d mc ms Post (cu + mc') (su + ms') pc' lv (r.toList ++ st) t1) : zOK y b nL ret d mc ms Post cu su pc lv st0 t := by
  subst hp
  subst hst
  intro p l e s m args below meth c D cy A hC H locs ls hw hl
  obtain ⟨hF, hpre⟩ := zpre (as := vR (some a) :: as) hC hw
  have k := fun r t1 hP1 H1 locs1 hw1 => kk r t1 hP1 p l e s m args below meth c D cy A hC H1 locs1 ls hw1 hl
  obtain ⟨hx, hb, hr, hts, hns, hown, hml, -, -, hK, hA, hAb, hO⟩ := hC
  obtain ⟨c1, c2, c3, c4, c5, c6⟩ := hT
  refine zafter (rest := st.map rv) (va_runIN (As := as.map rv) ⟨hx, hb, hml, hown, hts⟩ (hM l D cy H.size) ⟨va_cnB n hts (zws_good c1) rfl rfl rfl (hns _ h1) (hts _ c2) ⟨c3, c4, c5⟩ ⟨hdd, by show 8 + (nL' + 11) + 40 * d' ≤ 40 * d; omega⟩, hnm, hts _ h2⟩ ⟨zB_blind, hpre⟩ rfl (by simpa using hn) hl.1 (by simp; rfl) (lv_room (by rw [zcs_eq]; exact hcs)) hd ⟨hmc, hms⟩) hw.2.2 hF hF (fun r t1 H1 locs1 hP1 a1 a2 a3 => ?_)
  have := k r t1 hP1 H1 locs1 ⟨a1, a2, a3⟩
  rw [List.map_append] at this
  simpa using this
theorem z_objInit (pc' : Nat) {idx : Nat} {a : Nat} (h1 : Cond.methodLink y.cls idx objectInit ∈ lw_all) (h2 : Cond.instanceMethod objectInit ∈ lw_all) (h3 : Cond.code objectInit ⟨#[0xb1]⟩ 1 none ∈ lw_all) (hdd : 0 < d) (hcs : zcs st ≤ 8) (hd : decode b pc = .ok (.invokespecial idx, 3)) (hp : pc + 3 = pc') (kk : zOK y b nL ret d mc ms Post cu su pc' lv st t) : zOK y b nL ret d mc ms Post cu su pc lv (vR (some a) :: st) t := by
  subst hp
  intro p l e s m args below meth c D cy A hC H locs ls hw hl
  have k := kk p l e s m args below meth c D cy A hC H locs ls hw hl
  obtain ⟨hx, hb, hr, hts, hns, hown, hml, -⟩ := hC
  exact W.objInit hx hb hown (hts _ h1) (hts _ h2) (hts _ h3) rfl (by rw [hml]; exact hl.1) rfl hd hdd (by
    show 2 * 0 + _ + 12 ≤ 40 * d
    rw [zcs_eq]; omega) k
theorem zmm {x z : Int} (h1 : zi x) (h2 : zi z) : (if Int32.ofInt z < Int32.ofInt x then Int32.ofInt z else Int32.ofInt x) = Int32.ofInt (min x z) := by
  by_cases h : z < x
  · rw [if_pos ((zi_lt h2 h1).mpr h), Int.min_def, if_neg (by omega)]
  · rw [if_neg (fun q => h ((zi_lt h2 h1).mp q)), Int.min_def, if_pos (by omega)]
theorem zmx {x z : Int} (h1 : zi x) (h2 : zi z) : (if Int32.ofInt x < Int32.ofInt z then Int32.ofInt z else Int32.ofInt x) = Int32.ofInt (max x z) := by
  by_cases h : x < z
  · rw [if_pos ((zi_lt h1 h2).mpr h), Int.max_def, if_pos (by omega)]
  · rw [if_neg (fun q => h ((zi_lt h1 h2).mp q)), Int.max_def]
    split
    · rw [show x = z by omega]
    · rfl
theorem z_min (pc' : Nat) {idx : Nat} {x z : Int} (h1 : zi x) (h2 : zi z) (hL : Cond.methodLink y.cls idx Lib.Math.min.name ∈ lw_all) (g1 : Cond.static Lib.Math.min.name ∈ lw_all) (g2 : Cond.initialized "java/lang/Math" ∈ lw_all) (g3 : Cond.code Lib.Math.min.name Lib.Math.min.code 2 (some .int) ∈ lw_all) (hdd : 0 < d) (hcs : zcs st ≤ 8) (hc : cu ≤ mc) (hs : su ≤ ms) (hd : decode b pc = .ok (.invokestatic idx, 3)) (hp : pc + 3 = pc') (kk : zOK y b nL ret d mc ms Post cu su pc' lv (vI (min x z) :: st) t) : zOK y b nL ret d mc ms Post cu su pc lv (vI z :: vI x :: st) t := by
  subst hp
  intro p l e s m args below meth c D cy A hC H locs ls hw hl
  have k := kk p l e s m args below meth c D cy A hC H locs ls hw hl
  obtain ⟨hx, hb, hr, hts, hns, hown, hml, -⟩ := hC
  rw [List.map_cons, show rv (vI (min x z)) = .int (if Int32.ofInt z < Int32.ofInt x then Int32.ofInt z else Int32.ofInt x) from congrArg Value.int (zmm h1 h2).symm] at k
  exact va_mmin (R := zR d mc ms) hx hb (hml.trans hl.1.symm) hown (hts _ hL) (hts _ g1) (hts _ g2) (hts _ g3) hdd (by
    show _ + 13 ≤ 40 * d
    rw [zcs_eq]; omega) hc hs hd k
theorem z_max (pc' : Nat) {idx : Nat} {x z : Int} (h1 : zi x) (h2 : zi z) (hL : Cond.methodLink y.cls idx Lib.Math.max.name ∈ lw_all) (g1 : Cond.static Lib.Math.max.name ∈ lw_all) (g2 : Cond.initialized "java/lang/Math" ∈ lw_all) (g3 : Cond.code Lib.Math.max.name Lib.Math.max.code 2 (some .int) ∈ lw_all) (hdd : 0 < d) (hcs : zcs st ≤ 8) (hc : cu ≤ mc) (hs : su ≤ ms) (hd : decode b pc = .ok (.invokestatic idx, 3)) (hp : pc + 3 = pc') (kk : zOK y b nL ret d mc ms Post cu su pc' lv (vI (max x z) :: st) t) : zOK y b nL ret d mc ms Post cu su pc lv (vI z :: vI x :: st) t := by
  subst hp
  intro p l e s m args below meth c D cy A hC H locs ls hw hl
  have k := kk p l e s m args below meth c D cy A hC H locs ls hw hl
  obtain ⟨hx, hb, hr, hts, hns, hown, hml, -⟩ := hC
  rw [List.map_cons, show rv (vI (max x z)) = .int (if Int32.ofInt x < Int32.ofInt z then Int32.ofInt z else Int32.ofInt x) from congrArg Value.int (zmx h1 h2).symm] at k
  exact va_mmax (R := zR d mc ms) hx hb (hml.trans hl.1.symm) hown (hts _ hL) (hts _ g1) (hts _ g2) (hts _ g3) hdd (by
    show _ + 13 ≤ 40 * d
    rw [zcs_eq]; omega) hc hs hd k
/-- the table ABOVE: getstatic, iload, iaload -/
theorem z_above (pc' : Nat) {idx i : Nat} {j : Int} {pi : Instr} {ln : Nat} (hL : Cond.fieldLink y.cls idx "RopeWalk" "ABOVE" "[I" ∈ lw_all) (hg : zget i lv = some (vI j)) (h : 0 ≤ j ∧ j < 6) (hd : decode b pc = .ok (.getstatic idx, 3)) (hi : ∃ k : Fin 4, (k : Nat) = i ∧ decode b (pc + 3) = .ok (.iload_n k, 1)) (hd3 : decode b (pc + 3 + 1) = .ok (.iaload, 1)) (hp : pc + 5 = pc') (kk : zOK y b nL ret d mc ms Post cu su pc' lv (vI (if j = 0 then -1 else if j = 1 then 0 else if j = 2 then 1 else if j = 3 then 2 else if j = 4 then 0 else 2) :: st) t) : zOK y b nL ret d mc ms Post cu su pc lv st t := by
  subst hp
  intro p l e s m args below meth c D cy A hC H locs ls hw hl
  have k := kk p l e s m args below meth c D cy A hC H locs ls hw hl
  obtain ⟨hx, hb, hr, hts, hns, hown, hml, -, -, hK, hA, ⟨ta, hZ, hTa⟩, hO⟩ := hC
  obtain ⟨k4, hk4, hd2⟩ := hi
  refine va_gets hx hb hZ hw.2.2 hown (hts _ hL) (fun _ h9 => h9) hd ?_
  refine lv_iload_n hx hb hd2 hk4 (zlv_get hl hg) ?_
  obtain ⟨g1, g2, g3⟩ := zix (n := 6) (by omega) h
  refine va_ti hx hb hTa hw.2.2 g1 (v := .int (Int32.ofInt (if j = 0 then -1 else if j = 1 then 0 else if j = 2 then 1 else if j = 3 then 2 else if j = 4 then 0 else 2))) ?_ hd3 k
  rw [g2]
  have : j = 0 ∨ j = 1 ∨ j = 2 ∨ j = 3 ∨ j = 4 ∨ j = 5 := by omega
  rcases this with rfl | rfl | rfl | rfl | rfl | rfl <;> rfl
theorem z_copy (pc' : Nat) {idx a0 a : Nat} {i k n : Int} (n0 n1 : Nat) (hL : Cond.methodLink y.cls idx arraycopyName ∈ lw_all) (w1 : Cond.native arraycopyName ∈ lw_all) (w2 : Cond.static arraycopyName ∈ lw_all) (w3 : Cond.initialized "java/lang/System" ∈ lw_all) (ha0 : a0 ∈ tL t) (hk0 : tK t a0 = 6) (hn0 : tN t a0 = n0) (ha : a ∈ tL t) (hk : tK t a = 6) (hn1 : tN t a = n1) (hm : n0 ≤ 1000 ∧ n1 ≤ 1000) (h : 0 ≤ i ∧ 0 ≤ k ∧ 0 ≤ n ∧ i + n ≤ n0 ∧ k + n ≤ n1) (hdd : 1 < d) (hcs : zcs st ≤ 8) (hd : decode b pc = .ok (.invokestatic idx, 3)) (hp : pc + 3 = pc') (kk : zOK y b nL ret d mc ms Post cu su pc' lv st (sC t a0 a i k n)) : zOK y b nL ret d mc ms Post cu su pc lv (vI n :: vI k :: vR (some a) :: vI i :: vR (some a0) :: st) t := by
  subst hp
  subst hn0
  subst hn1
  intro p l e s m args below meth c D cy A hC H locs ls hw hl
  have kq := fun H1 locs1 hw1 => kk p l e s m args below meth c D cy A hC H1 locs1 ls hw1 hl
  obtain ⟨hx, hb, hr, hts, hns, hown, hml, -, -, hK, -⟩ := hC
  obtain ⟨q0, hq0⟩ := zW_get (cy := cy) ha0
  obtain ⟨q1, hq1⟩ := zW_get (cy := cy) ha
  have hk1 := hq1
  rw [zE_in hk0 (Or.inl rfl)] at hq0
  rw [zE_in hk (Or.inl rfl)] at hq1
  have hzi : zi i := ⟨by omega, by omega⟩
  have hzk : zi k := ⟨by omega, by omega⟩
  have hzn : zi n := ⟨by omega, by omega⟩
  have ei : (Int32.ofInt i).toNatClampNeg = i.toNat := by show (Int32.ofInt i).toInt.toNat = _; rw [zi_toInt hzi]
  have ek : (Int32.ofInt k).toNatClampNeg = k.toNat := by show (Int32.ofInt k).toInt.toNat = _; rw [zi_toInt hzk]
  have en : (Int32.ofInt n).toNatClampNeg = n.toNat := by show (Int32.ofInt n).toInt.toNat = _; rw [zi_toInt hzn]
  have ng : ∀ x : Int, zi x → 0 ≤ x → ¬ Int32.ofInt x < 0 := fun x hx h0 q => by rw [zi_ofInt0] at q; have := (zi_lt hx zi_0).mp q; omega
  have e1 : (zW cy t).set q1 (a, .inl (cy 6, tN t a, .inl (va_cpy (fun q => Int32.ofInt (tI t a0 q)) (fun q => Int32.ofInt (tI t a q)) (Int32.ofInt i).toNatClampNeg (Int32.ofInt k).toNatClampNeg (Int32.ofInt n).toNatClampNeg))) = zW cy (sC t a0 a i k n) :=
    zW_upd rfl (fun _ => zE_sC_ne) hw.2.1 ha hk1 (by
      rw [zE_in (t := sC t a0 a i k n) hk (Or.inl rfl), ei, ek, en]
      refine congrArg (fun f => (Sum.inl (cy 6, tN t a, Sum.inl f) : va_E)) (funext fun q => ?_)
      by_cases hq : k.toNat ≤ q ∧ q < k.toNat + n.toNat
      · rw [pk_cpy_in hq.1 hq.2]
        show _ = Int32.ofInt (if a = a ∧ k ≤ (q : Int) ∧ (q : Int) < k + n then _ else _)
        rw [if_pos ⟨rfl, by omega, by omega⟩]
        congr 2
        omega
      · rw [pk_cpy_out (by omega)]
        show _ = Int32.ofInt (if a = a ∧ k ≤ (q : Int) ∧ (q : Int) < k + n then _ else _)
        rw [if_neg (by omega)])
  refine va_copyi hx hb (hml.trans hl.1.symm) hown (hts _ hL) (hts _ w1) (hts _ w2) (hts _ w3) hK hw.1 hw.2.1 hw.2.2 q0 q1 1 1 hq0 hq1 rfl rfl rfl (ng i hzi h.1) (ng k hzk h.2.1) (ng n hzn h.2.2.1) (by rw [ei, en]; omega) (by rw [ek, en]; omega) (fun _ _ => rfl) (by show 1 ≤ d; omega) ?_ hd (fun H1 locs1 a1 a2 a3 => kq H1 locs1 ⟨by rw [← e1]; exact a1, by rw [← e1]; exact a2, a3⟩)
  show _ + _ ≤ 40 * d
  rw [zcs_eq]
  have : nativeFrameWords "java/lang/System" "arraycopy" 5 + 11 ≤ 72 := by decide +kernel
  omega
end ZN
