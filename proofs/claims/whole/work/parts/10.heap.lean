
/-! heap rows, calls, ends -/
theorem up2_s {α : Type} (f : Nat → Int → α) (a : Nat) (k : Int) (v : α) : up2 f a k v a k = v := by simp [up2]
theorem up2_a {α : Type} (f : Nat → Int → α) (a : Nat) (k : Int) (v : α) {b : Nat} (h : b ≠ a) (j : Int) : up2 f a k v b j = f b j := by simp [up2, h]
theorem up2_k {α : Type} (f : Nat → Int → α) (a : Nat) (k : Int) (v : α) (b : Nat) {j : Int} (h : j ≠ k) : up2 f a k v b j = f b j := by simp [up2, h]
theorem zW_get {cy : Nat → ClassId} {t : zT} {a : Nat} (h : a ∈ tL t) : ∃ k : Nat, (zW cy t)[k]? = some (a, zE cy t a) := by
  obtain ⟨k, hk⟩ := va_pl_get (X := []) (f := zE cy t) h
  exact ⟨k, hk⟩
theorem zW_upd {cy : Nat → ClassId} {A : Nat → Prop} {t t' : zT} {a k : Nat} {e : va_E} (hL : tL t' = tL t) (hne : ∀ b, b ≠ a → zE cy t' b = zE cy t b) (hD : va_D A (zW cy t)) (ha : a ∈ tL t) (hk : (zW cy t)[k]? = some (a, zE cy t a)) (he : e = zE cy t' a) : (zW cy t).set k (a, e) = zW cy t' := by
  have h := va_pl_set (X := []) (e := e) hD ha hk
  refine h.trans ?_
  show va_pl (tL t) _ = va_pl (tL t') _
  rw [hL]
  refine va_pl_congr (fun b => ?_)
  by_cases hb : b = a
  · subst hb; rw [va_up_self]; exact he
  · rw [va_up_ne _ _ hb]; exact (hne b hb).symm
theorem zE_congr {cy : Nat → ClassId} {t t' : zT} {b : Nat} (h1 : tK t' b = tK t b) (h2 : tN t' b = tN t b) (h3 : ∀ j, tI t' b j = tI t b j) (h4 : ∀ j, tF t' b j = tF t b j) (h5 : ∀ j, tP t' b j = tP t b j) : zE cy t' b = zE cy t b := by
  unfold zE zFv
  simp only [h1, h2, h3, h4, h5]
theorem zE_sI_ne {cy : Nat → ClassId} {t : zT} {a : Nat} {k v : Int} {b : Nat} (h : b ≠ a) : zE cy (sI t a k v) b = zE cy t b :=
  zE_congr rfl rfl (fun j => up2_a _ _ _ _ h j) (fun _ => rfl) (fun _ => rfl)
theorem zE_sF_ne {cy : Nat → ClassId} {t : zT} {a : Nat} {k : Int} {v : UInt32} {b : Nat} (h : b ≠ a) : zE cy (sF t a k v) b = zE cy t b :=
  zE_congr rfl rfl (fun _ => rfl) (fun j => up2_a _ _ _ _ h j) (fun _ => rfl)
theorem zE_sP_ne {cy : Nat → ClassId} {t : zT} {a : Nat} {k : Int} {v : Option Nat} {b : Nat} (h : b ≠ a) : zE cy (sP t a k v) b = zE cy t b :=
  zE_congr rfl rfl (fun _ => rfl) (fun _ => rfl) (fun j => up2_a _ _ _ _ h j)
theorem zE_sC_ne {cy : Nat → ClassId} {t : zT} {a0 a : Nat} {i k n : Int} {b : Nat} (h : b ≠ a) : zE cy (sC t a0 a i k n) b = zE cy t b :=
  zE_congr rfl rfl (fun j => if_neg (fun q => h q.1)) (fun _ => rfl) (fun _ => rfl)
theorem zE_sA_ne {cy : Nat → ClassId} {t : zT} {q kd n : Nat} {b : Nat} (h : b ≠ q) : zE cy (sA t q kd n) b = zE cy t b :=
  zE_congr (if_neg h) (if_neg h) (fun j => congrFun (show up1 (tI t) q (fun _ => 0) b = tI t b from if_neg h) j) (fun j => congrFun (show up1 (tF t) q (fun _ => 0) b = tF t b from if_neg h) j) (fun j => congrFun (show up1 (tP t) q (fun _ => none) b = tP t b from if_neg h) j)
theorem zE_obj {cy : Nat → ClassId} {t : zT} {a ci : Nat} (hk : tK t a = ci) (h5 : ci < 5) : zE cy t a = .inr (ci, (List.range (zNf ci)).map (fun k => zFv t a (zTg ci k) k)) := by
  unfold zE; rw [hk, if_pos h5]
theorem zE_fl {cy : Nat → ClassId} {t : zT} {a : Nat} (hk : tK t a = 5) : zE cy t a = .inl (cy 5, tN t a, .inr (.inr (.inl (fun j => tF t a j)))) := by
  unfold zE; rw [hk, if_neg (by decide), if_pos rfl]
theorem zE_in {cy : Nat → ClassId} {t : zT} {a kd : Nat} (hk : tK t a = kd) (h : kd = 6 ∨ kd = 7) : zE cy t a = .inl (cy kd, tN t a, .inl (fun j => Int32.ofInt (tI t a j))) := by
  unfold zE; rw [hk, if_neg (by omega), if_neg (by omega), if_pos (by omega)]
theorem zE_rf {cy : Nat → ClassId} {t : zT} {a kd : Nat} (hk : tK t a = kd) (h : 8 ≤ kd) : zE cy t a = .inl (cy kd, tN t a, .inr (.inr (.inr (.inr (fun j => tP t a j))))) := by
  unfold zE; rw [hk, if_neg (by omega), if_neg (by omega), if_neg (by omega)]
/-- what the tables say of a field: class, place, kind (0 int, 1 float, 2 reference), final; its entry in the pool of own -/
def zFL (own : String) (idx ci k tg : Nat) (fin : Bool) : Prop := ∃ (C : String) (F : u_T) (N : Nat) (ty : Nat → FieldType), vwCl[ci]? = some (C, F, N) ∧ ci < 5 ∧ N = zNf ci ∧ k < N ∧ (∀ w ∈ u_ws C F N, w ∈ lw_all) ∧ (F k).1 = C ∧ zTg ci k = tg ∧ (F k).2.2.2 = fin ∧ (∀ k, k < N → parseFieldDescriptor (F k).2.2.1 = some (ty k)) ∧ (∀ a, a < N → ∀ b, b < N → a ≠ b → (F a).2.1 ≠ (F b).2.1) ∧ (tg = 0 → ty k = .int) ∧ (tg = 1 → ty k = .float) ∧ (tg = 2 → (∃ n, ty k = .object n) ∨ ∃ q, ty k = .array q) ∧ (Cond.fieldLink own idx C (F k).2.1 (F k).2.2.1 ∈ lw_all ∨ ∃ host, Cond.fieldLinkNest own idx C (F k).2.1 (F k).2.2.1 host ∈ lw_nst)
section ZH
variable {y : MethodName} {b : ByteArray} {nL : Nat} {ret : Option FieldType} {d mc ms : Nat} {Post : Option zV → zT → Prop} {cu su pc : Nat} {lv : List (Nat × zV)} {st : List zV} {t : zT}
theorem z_getV (pc' : Nat) {a idx ci k tg : Nat} {fin : Bool} {v : zV} (hL : zFL y.cls idx ci k tg fin) (ha : a ∈ tL t) (hk : tK t a = ci) (hv : zFv t a tg k = rv v) (hd : decode b pc = .ok (.getfield idx, 3)) (hp : pc + 3 = pc') (kk : zOK y b nL ret d mc ms Post cu su pc' lv (v :: st) t) : zOK y b nL ret d mc ms Post cu su pc lv (vR (some a) :: st) t := by
  subst hp
  intro p l e s m args below meth c D cy A hC H locs ls hw hl
  have h := kk p l e s m args below meth c D cy A hC H locs ls hw hl
  obtain ⟨hx, hb, hr, hts, hns, hown, -, -, -, hK, -⟩ := hC
  obtain ⟨C, F, N, ty, hcl, h5, rfl, hkN, hin, hdc, htg, -, -, -, -, -, -, hlink⟩ := hL
  obtain ⟨k0, hk0⟩ := zW_get (cy := cy) ha
  rw [zE_obj hk h5] at hk0
  have hvv : ((List.range (zNf ci)).map (fun k => zFv t a (zTg ci k) k))[k]? = some (rv v) := by
    rw [List.getElem?_map, List.getElem?_range hkN, ← hv, ← htg]; rfl
  rcases hlink with hlink | ⟨host, hlink⟩
  · exact va_get hx hb hts hin hown hK hw.1 k0 hk0 hcl k hkN (hts _ hlink) (by rw [hdc]; exact fun _ h9 => h9) hvv hd h
  · exact va_getN hx hb hts hin hown hK hw.1 k0 hk0 hcl k hkN (va_Nw.use rfl (hns _ hlink)) (by rw [hdc]; exact fun _ h9 => h9) hvv hd h
theorem z_getI (pc' : Nat) {a idx ci k : Nat} {fin : Bool} (hL : zFL y.cls idx ci k 0 fin) (ha : a ∈ tL t) (hk : tK t a = ci) (hd : decode b pc = .ok (.getfield idx, 3)) (hp : pc + 3 = pc') (kk : zOK y b nL ret d mc ms Post cu su pc' lv (vI (tI t a k) :: st) t) : zOK y b nL ret d mc ms Post cu su pc lv (vR (some a) :: st) t := z_getV pc' hL ha hk rfl hd hp kk
theorem z_getF (pc' : Nat) {a idx ci k : Nat} {fin : Bool} (hL : zFL y.cls idx ci k 1 fin) (ha : a ∈ tL t) (hk : tK t a = ci) (hd : decode b pc = .ok (.getfield idx, 3)) (hp : pc + 3 = pc') (kk : zOK y b nL ret d mc ms Post cu su pc' lv (vF (tF t a k) :: st) t) : zOK y b nL ret d mc ms Post cu su pc lv (vR (some a) :: st) t := z_getV pc' hL ha hk rfl hd hp kk
theorem z_getP (pc' : Nat) {a idx ci k : Nat} {fin : Bool} (hL : zFL y.cls idx ci k 2 fin) (ha : a ∈ tL t) (hk : tK t a = ci) (hd : decode b pc = .ok (.getfield idx, 3)) (hp : pc + 3 = pc') (kk : zOK y b nL ret d mc ms Post cu su pc' lv (vR (tP t a k) :: st) t) : zOK y b nL ret d mc ms Post cu su pc lv (vR (some a) :: st) t := z_getV pc' hL ha hk rfl hd hp kk
theorem zfs_set {t t' : zT} {a ci k : Nat} {v : Value} (hk : k < zNf ci) (h1 : zFv t' a (zTg ci k) k = v) (h2 : ∀ j, j ≠ k → zFv t' a (zTg ci j) j = zFv t a (zTg ci j) j) : ((List.range (zNf ci)).map (fun k => zFv t a (zTg ci k) k)).set k v = (List.range (zNf ci)).map (fun k => zFv t' a (zTg ci k) k) := by
  apply List.ext_getElem?
  intro j
  by_cases hj : j = k
  · subst hj
    rw [List.getElem?_set_self (by simpa using hk), List.getElem?_map, List.getElem?_range hk, ← h1]; rfl
  · rw [List.getElem?_set_ne (Ne.symm hj), List.getElem?_map, List.getElem?_map]
    cases hq : (List.range (zNf ci))[j]? with
    | none => rfl
    | some w =>
      have hw : w = j := by
        have := List.getElem?_eq_some_iff.mp hq
        obtain ⟨h3, h4⟩ := this
        rw [← h4, List.getElem_range]
      subst hw
      simp only [Option.map_some]
      rw [h2 _ hj]
theorem z_putV (pc' : Nat) {a idx ci k tg : Nat} {v : zV} {t' : zT} (hL : zFL y.cls idx ci k tg false) (ha : a ∈ tL t) (hk : tK t a = ci) (htL : tL t' = tL t) (htK : tK t' = tK t) (hne : ∀ (cy : Nat → ClassId) (q : Nat), q ≠ a → zE cy t' q = zE cy t q) (h1 : zFv t' a tg k = rv v) (h2 : ∀ j, j ≠ k → zFv t' a (zTg ci j) j = zFv t a (zTg ci j) j)
    (hv : ∀ ty : FieldType, (tg = 0 → ty = .int) → (tg = 1 → ty = .float) → (tg = 2 → (∃ n, ty = .object n) ∨ ∃ q, ty = .array q) → narrow ty (rv v) = rv v ∧ Jvm.fits ty (rv v) = true)
    (hd : decode b pc = .ok (.putfield idx, 3)) (hp : pc + 3 = pc') (kk : zOK y b nL ret d mc ms Post cu su pc' lv st t') : zOK y b nL ret d mc ms Post cu su pc lv (v :: vR (some a) :: st) t := by
  subst hp
  intro p l e s m args below meth c D cy A hC H locs ls hw hl
  have h := fun H1 locs1 hw1 => kk p l e s m args below meth c D cy A hC H1 locs1 ls hw1 hl
  obtain ⟨hx, hb, hr, hts, hns, hown, -, -, -, hK, -⟩ := hC
  obtain ⟨C, F, N, ty, hcl, h5, rfl, hkN, hin, hdc, htg, hfin, hty, hnm, t0, t1, t2, hlink⟩ := hL
  obtain ⟨k0, hk0⟩ := zW_get (cy := cy) ha
  have hk1 := hk0
  rw [zE_obj hk h5] at hk0
  obtain ⟨n1, n2⟩ := hv (ty k) t0 t1 t2
  have hk' : tK t' a = ci := by rw [htK]; exact hk
  have e1 : (zW cy t).set k0 (a, .inr (ci, ((List.range (zNf ci)).map (fun k => zFv t a (zTg ci k) k)).set k (rv v))) = zW cy t' :=
    zW_upd htL (hne cy) hw.2.1 ha hk1 (by rw [zE_obj hk' h5, zfs_set hkN (by rw [htg]; exact h1) h2])
  have hlen : k < ((List.range (zNf ci)).map (fun k => zFv t a (zTg ci k) k)).length := by simpa using hkN
  rcases hlink with hlink | ⟨host, hlink⟩
  · exact va_put hx hb hts hin ty hty hnm hown hK hw.1 hw.2.1 hw.2.2 k0 hk0 hcl k hkN (hts _ hlink) (by rw [hdc]; exact fun _ h9 => h9) hfin (hty k hkN) n1 n2 hlen hd (fun H1 locs1 a1 a2 a3 => h H1 locs1 ⟨by rw [← e1]; exact a1, by rw [← e1]; exact a2, a3⟩)
  · exact va_putN hx hb hts hin ty hty hnm hown hK hw.1 hw.2.1 hw.2.2 k0 hk0 hcl k hkN (va_Nw.use rfl (hns _ hlink)) (by rw [hdc]; exact fun _ h9 => h9) hfin (hty k hkN) n1 n2 hlen hd (fun H1 locs1 a1 a2 a3 => h H1 locs1 ⟨by rw [← e1]; exact a1, by rw [← e1]; exact a2, a3⟩)
theorem zFv_sI {t : zT} {a k : Nat} {z : Int} {ci : Nat} (htg : zTg ci k = 0) : zFv (sI t a k z) a 0 k = .int (Int32.ofInt z) ∧ ∀ j, j ≠ k → zFv (sI t a k z) a (zTg ci j) j = zFv t a (zTg ci j) j := by
  constructor
  · simp [zFv, sI, tI, up2]
  · intro j hj
    have : (j : Int) ≠ (k : Int) := by omega
    simp [zFv, sI, tI, tF, tP, up2, this]
theorem zFv_sF {t : zT} {a k : Nat} {z : UInt32} {ci : Nat} (htg : zTg ci k = 1) : zFv (sF t a k z) a 1 k = .float z ∧ ∀ j, j ≠ k → zFv (sF t a k z) a (zTg ci j) j = zFv t a (zTg ci j) j := by
  constructor
  · simp [zFv, sF, tF, up2]
  · intro j hj
    have : (j : Int) ≠ (k : Int) := by omega
    simp [zFv, sF, tI, tF, tP, up2, this]
theorem zFv_sP {t : zT} {a k : Nat} {z : Option Nat} {ci : Nat} (htg : zTg ci k = 2) : zFv (sP t a k z) a 2 k = va_rf z ∧ ∀ j, j ≠ k → zFv (sP t a k z) a (zTg ci j) j = zFv t a (zTg ci j) j := by
  constructor
  · simp [zFv, sP, tP, up2]
  · intro j hj
    have : (j : Int) ≠ (k : Int) := by omega
    simp [zFv, sP, tI, tF, tP, up2, this]
theorem zfit_r {ty : FieldType} {r : Option Nat} (h : (∃ n, ty = .object n) ∨ ∃ q, ty = .array q) : narrow ty (va_rf r) = va_rf r ∧ Jvm.fits ty (va_rf r) = true := by
  rcases h with ⟨n, rfl⟩ | ⟨q, rfl⟩ <;> cases r <;> exact ⟨rfl, rfl⟩
theorem z_putI (pc' : Nat) {a idx ci k : Nat} {z : Int} (hL : zFL y.cls idx ci k 0 false) (ha : a ∈ tL t) (hk : tK t a = ci) (hd : decode b pc = .ok (.putfield idx, 3)) (hp : pc + 3 = pc') (kk : zOK y b nL ret d mc ms Post cu su pc' lv st (sI t a k z)) : zOK y b nL ret d mc ms Post cu su pc lv (vI z :: vR (some a) :: st) t := by
  have htg : zTg ci k = 0 := by obtain ⟨_, _, _, _, -, -, -, -, -, -, h, -⟩ := hL; exact h
  exact z_putV pc' (v := vI z) (t' := sI t a k z) hL ha hk rfl rfl (fun _ _ => zE_sI_ne) (zFv_sI htg).1 (zFv_sI htg).2 (fun ty h _ _ => by rw [h rfl]; exact ⟨rfl, rfl⟩) hd hp kk
theorem z_putF (pc' : Nat) {a idx ci k : Nat} {z : UInt32} (hL : zFL y.cls idx ci k 1 false) (ha : a ∈ tL t) (hk : tK t a = ci) (hd : decode b pc = .ok (.putfield idx, 3)) (hp : pc + 3 = pc') (kk : zOK y b nL ret d mc ms Post cu su pc' lv st (sF t a k z)) : zOK y b nL ret d mc ms Post cu su pc lv (vF z :: vR (some a) :: st) t := by
  have htg : zTg ci k = 1 := by obtain ⟨_, _, _, _, -, -, -, -, -, -, h, -⟩ := hL; exact h
  exact z_putV pc' (v := vF z) (t' := sF t a k z) hL ha hk rfl rfl (fun _ _ => zE_sF_ne) (zFv_sF htg).1 (zFv_sF htg).2 (fun ty _ h _ => by rw [h rfl]; exact ⟨rfl, rfl⟩) hd hp kk
theorem z_putP (pc' : Nat) {a idx ci k : Nat} {z : Option Nat} (hL : zFL y.cls idx ci k 2 false) (ha : a ∈ tL t) (hk : tK t a = ci) (hd : decode b pc = .ok (.putfield idx, 3)) (hp : pc + 3 = pc') (kk : zOK y b nL ret d mc ms Post cu su pc' lv st (sP t a k z)) : zOK y b nL ret d mc ms Post cu su pc lv (vR z :: vR (some a) :: st) t := by
  have htg : zTg ci k = 2 := by obtain ⟨_, _, _, _, -, -, -, -, -, -, h, -⟩ := hL; exact h
  exact z_putV pc' (v := vR z) (t' := sP t a k z) hL ha hk rfl rfl (fun _ _ => zE_sP_ne) (zFv_sP htg).1 (zFv_sP htg).2 (fun ty _ _ h => zfit_r (h rfl)) hd hp kk
/-- a final field, in the constructor -/
theorem z_putVF (pc' : Nat) {a idx ci k tg : Nat} {v : zV} {t' : zT} (hL : zFL y.cls idx ci k tg true) (hin0 : y.name = "<init>") (hcls : ∃ r, vwCl[ci]? = some r ∧ r.1 = y.cls) (ha : a ∈ tL t) (hk : tK t a = ci) (htL : tL t' = tL t) (htK : tK t' = tK t) (hne : ∀ (cy : Nat → ClassId) (q : Nat), q ≠ a → zE cy t' q = zE cy t q) (h1 : zFv t' a tg k = rv v) (h2 : ∀ j, j ≠ k → zFv t' a (zTg ci j) j = zFv t a (zTg ci j) j)
    (hv : ∀ ty : FieldType, (tg = 0 → ty = .int) → (tg = 1 → ty = .float) → (tg = 2 → (∃ n, ty = .object n) ∨ ∃ q, ty = .array q) → narrow ty (rv v) = rv v ∧ Jvm.fits ty (rv v) = true)
    (hnn : ∀ C F N, vwCl[ci]? = some (C, F, N) → Cond.fieldLink y.cls idx C (F k).2.1 (F k).2.2.1 ∈ lw_all)
    (hd : decode b pc = .ok (.putfield idx, 3)) (hp : pc + 3 = pc') (kk : zOK y b nL ret d mc ms Post cu su pc' lv st t') : zOK y b nL ret d mc ms Post cu su pc lv (v :: vR (some a) :: st) t := by
  subst hp
  intro p l e s m args below meth c D cy A hC H locs ls hw hl
  have h := fun H1 locs1 hw1 => kk p l e s m args below meth c D cy A hC H1 locs1 ls hw1 hl
  obtain ⟨hx, hb, hr, hts, hns, hown, -, -, hname, hK, -⟩ := hC
  obtain ⟨C, F, N, ty, hcl, h5, rfl, hkN, hin, hdc, htg, hfin, hty, hnm, t0, t1, t2, -⟩ := hL
  obtain ⟨r, hr1, hr2⟩ := hcls
  have hrC : C = y.cls := by rw [hcl] at hr1; cases hr1; exact hr2
  obtain ⟨k0, hk0⟩ := zW_get (cy := cy) ha
  have hk1 := hk0
  rw [zE_obj hk h5] at hk0
  obtain ⟨n1, n2⟩ := hv (ty k) t0 t1 t2
  have hk' : tK t' a = ci := by rw [htK]; exact hk
  have e1 : (zW cy t).set k0 (a, .inr (ci, ((List.range (zNf ci)).map (fun k => zFv t a (zTg ci k) k)).set k (rv v))) = zW cy t' :=
    zW_upd htL (hne cy) hw.2.1 ha hk1 (by rw [zE_obj hk' h5, zfs_set hkN (by rw [htg]; exact h1) h2])
  have hlen : k < ((List.range (zNf ci)).map (fun k => zFv t a (zTg ci k) k)).length := by simpa using hkN
  exact va_putF hx hb hts hin ty hty hnm hown hK hw.1 hw.2.1 hw.2.2 k0 hk0 hcl k hkN (hts _ (hnn _ _ _ hcl)) (by rw [hdc]; exact fun _ h9 => h9) hfin (hname.trans hin0) (by rw [hdc, hrC]) (hty k hkN) n1 n2 hlen hd (fun H1 locs1 a1 a2 a3 => h H1 locs1 ⟨by rw [← e1]; exact a1, by rw [← e1]; exact a2, a3⟩)
/-- the pool entry of a field of the method's own class -/
def zFLo (own : String) (idx ci k : Nat) : Prop := (∃ r, vwCl[ci]? = some r ∧ r.1 = own) ∧ ∀ C F N, vwCl[ci]? = some (C, F, N) → Cond.fieldLink own idx C (F k).2.1 (F k).2.2.1 ∈ lw_all
theorem z_putIF (pc' : Nat) {a idx ci k : Nat} {z : Int} (hL : zFL y.cls idx ci k 0 true) (hin0 : y.name = "<init>") (ho : zFLo y.cls idx ci k) (ha : a ∈ tL t) (hk : tK t a = ci) (hd : decode b pc = .ok (.putfield idx, 3)) (hp : pc + 3 = pc') (kk : zOK y b nL ret d mc ms Post cu su pc' lv st (sI t a k z)) : zOK y b nL ret d mc ms Post cu su pc lv (vI z :: vR (some a) :: st) t := by
  have htg : zTg ci k = 0 := by obtain ⟨_, _, _, _, -, -, -, -, -, -, h, -⟩ := hL; exact h
  exact z_putVF pc' (v := vI z) (t' := sI t a k z) hL hin0 ho.1 ha hk rfl rfl (fun _ _ => zE_sI_ne) (zFv_sI htg).1 (zFv_sI htg).2 (fun ty h _ _ => by rw [h rfl]; exact ⟨rfl, rfl⟩) ho.2 hd hp kk
theorem z_putFF (pc' : Nat) {a idx ci k : Nat} {z : UInt32} (hL : zFL y.cls idx ci k 1 true) (hin0 : y.name = "<init>") (ho : zFLo y.cls idx ci k) (ha : a ∈ tL t) (hk : tK t a = ci) (hd : decode b pc = .ok (.putfield idx, 3)) (hp : pc + 3 = pc') (kk : zOK y b nL ret d mc ms Post cu su pc' lv st (sF t a k z)) : zOK y b nL ret d mc ms Post cu su pc lv (vF z :: vR (some a) :: st) t := by
  have htg : zTg ci k = 1 := by obtain ⟨_, _, _, _, -, -, -, -, -, -, h, -⟩ := hL; exact h
  exact z_putVF pc' (v := vF z) (t' := sF t a k z) hL hin0 ho.1 ha hk rfl rfl (fun _ _ => zE_sF_ne) (zFv_sF htg).1 (zFv_sF htg).2 (fun ty _ h _ => by rw [h rfl]; exact ⟨rfl, rfl⟩) ho.2 hd hp kk
theorem z_putPF (pc' : Nat) {a idx ci k : Nat} {z : Option Nat} (hL : zFL y.cls idx ci k 2 true) (hin0 : y.name = "<init>") (ho : zFLo y.cls idx ci k) (ha : a ∈ tL t) (hk : tK t a = ci) (hd : decode b pc = .ok (.putfield idx, 3)) (hp : pc + 3 = pc') (kk : zOK y b nL ret d mc ms Post cu su pc' lv st (sP t a k z)) : zOK y b nL ret d mc ms Post cu su pc lv (vR z :: vR (some a) :: st) t := by
  have htg : zTg ci k = 2 := by obtain ⟨_, _, _, _, -, -, -, -, -, -, h, -⟩ := hL; exact h
  exact z_putVF pc' (v := vR z) (t' := sP t a k z) hL hin0 ho.1 ha hk rfl rfl (fun _ _ => zE_sP_ne) (zFv_sP htg).1 (zFv_sP htg).2 (fun ty _ _ h => zfit_r (h rfl)) ho.2 hd hp kk
/-- an index within -/
theorem zix {j : Int} {n : Nat} (hn : n ≤ 2147483647) (h : 0 ≤ j ∧ j < n) : vp_in (Int32.ofInt j) n ∧ (Int32.ofInt j).toNatClampNeg = j.toNat ∧ ((j.toNat : Nat) : Int) = j := by
  have hj : zi j := ⟨by omega, by omega⟩
  have e : (Int32.ofInt j).toInt = j := zi_toInt hj
  refine ⟨vp_in_iff.mpr (by rw [e]; exact h), ?_, by omega⟩
  show (Int32.ofInt j).toInt.toNat = _
  rw [e]
theorem z_iald (pc' : Nat) {a : Nat} {j : Int} (n : Nat) (ha : a ∈ tL t) (hk : tK t a = 6) (hn : tN t a = n) (hm : Nat.ble n 2147483647 = true) (h : 0 ≤ j ∧ j < n) (hd : decode b pc = .ok (.iaload, 1)) (hp : pc + 1 = pc') (kk : zOK y b nL ret d mc ms Post cu su pc' lv (vI (tI t a j) :: st) t) : zOK y b nL ret d mc ms Post cu su pc lv (vI j :: vR (some a) :: st) t := by
  subst hp
  subst hn
  intro p l e s m args below meth c D cy A hC H locs ls hw hl
  have k := kk p l e s m args below meth c D cy A hC H locs ls hw hl
  obtain ⟨hx, hb, hr, hts, hns, hown, -, -, -, hK, -⟩ := hC
  obtain ⟨k0, hk0⟩ := zW_get (cy := cy) ha
  rw [zE_in hk (Or.inl rfl)] at hk0
  obtain ⟨g1, g2, g3⟩ := zix (Nat.le_of_ble_eq_true hm) h
  refine va_iald (t0 := 1) hx hb hK hw.1 k0 hk0 rfl g1 hd ?_
  rw [g2, g3]
  exact k
theorem z_bald (pc' : Nat) {a : Nat} {j : Int} (n : Nat) (ha : a ∈ tL t) (hk : tK t a = 7) (hn : tN t a = n) (hm : Nat.ble n 2147483647 = true) (h : 0 ≤ j ∧ j < n) (hd : decode b pc = .ok (.baload, 1)) (hp : pc + 1 = pc') (kk : zOK y b nL ret d mc ms Post cu su pc' lv (vI (tI t a j) :: st) t) : zOK y b nL ret d mc ms Post cu su pc lv (vI j :: vR (some a) :: st) t := by
  subst hp
  subst hn
  intro p l e s m args below meth c D cy A hC H locs ls hw hl
  have k := kk p l e s m args below meth c D cy A hC H locs ls hw hl
  obtain ⟨hx, hb, hr, hts, hns, hown, -, -, -, hK, -⟩ := hC
  obtain ⟨k0, hk0⟩ := zW_get (cy := cy) ha
  rw [zE_in hk (Or.inr rfl)] at hk0
  obtain ⟨g1, g2, g3⟩ := zix (Nat.le_of_ble_eq_true hm) h
  refine va_zald (t0 := 2) hx hb hK hw.1 k0 hk0 rfl g1 hd ?_
  rw [g2, g3]
  exact k
theorem z_fald (pc' : Nat) {a : Nat} {j : Int} (n : Nat) (ha : a ∈ tL t) (hk : tK t a = 5) (hn : tN t a = n) (hm : Nat.ble n 2147483647 = true) (h : 0 ≤ j ∧ j < n) (hd : decode b pc = .ok (.faload, 1)) (hp : pc + 1 = pc') (kk : zOK y b nL ret d mc ms Post cu su pc' lv (vF (tF t a j) :: st) t) : zOK y b nL ret d mc ms Post cu su pc lv (vI j :: vR (some a) :: st) t := by
  subst hp
  subst hn
  intro p l e s m args below meth c D cy A hC H locs ls hw hl
  have k := kk p l e s m args below meth c D cy A hC H locs ls hw hl
  obtain ⟨hx, hb, hr, hts, hns, hown, -, -, -, hK, -⟩ := hC
  obtain ⟨k0, hk0⟩ := zW_get (cy := cy) ha
  rw [zE_fl hk] at hk0
  obtain ⟨g1, g2, g3⟩ := zix (Nat.le_of_ble_eq_true hm) h
  refine va_fald (t0 := 0) hx hb hK hw.1 k0 hk0 rfl g1 hd ?_
  rw [g2, g3]
  exact k
theorem z_aald (pc' : Nat) {a kd : Nat} {j : Int} (n : Nat) (ha : a ∈ tL t) (hk : tK t a = kd) (h8 : kd = 8 ∨ kd = 9 ∨ kd = 10) (hn : tN t a = n) (hm : n ≤ 2147483647) (h : 0 ≤ j ∧ j < n) (hd : decode b pc = .ok (.aaload, 1)) (hp : pc + 1 = pc') (kk : zOK y b nL ret d mc ms Post cu su pc' lv (vR (tP t a j) :: st) t) : zOK y b nL ret d mc ms Post cu su pc lv (vI j :: vR (some a) :: st) t := by
  subst hp
  subst hn
  intro p l e s m args below meth c D cy A hC H locs ls hw hl
  have k := kk p l e s m args below meth c D cy A hC H locs ls hw hl
  obtain ⟨hx, hb, hr, hts, hns, hown, -, -, -, hK, -⟩ := hC
  obtain ⟨k0, hk0⟩ := zW_get (cy := cy) ha
  rw [zE_rf hk (by omega)] at hk0
  obtain ⟨g1, g2, g3⟩ := zix hm h
  rcases h8 with rfl | rfl | rfl
  · refine va_aldq (t0 := 3) (C := RX0) hx hb hK hw.1 k0 hk0 rfl g1 hd ?_
    rw [g2, g3]
    exact k
  · refine va_aldq (t0 := 4) (C := RX1) hx hb hK hw.1 k0 hk0 rfl g1 hd ?_
    rw [g2, g3]
    exact k
  · refine va_aldq (t0 := 5) (C := RX2) hx hb hK hw.1 k0 hk0 rfl g1 hd ?_
    rw [g2, g3]
    exact k
theorem z_alen (pc' : Nat) {a kd : Nat} (ha : a ∈ tL t) (hk : tK t a = kd) (h8 : 5 ≤ kd ∧ kd ≤ 10) (hd : decode b pc = .ok (.arraylength, 1)) (hp : pc + 1 = pc') (kk : zOK y b nL ret d mc ms Post cu su pc' lv (vI (tN t a) :: st) t) : zOK y b nL ret d mc ms Post cu su pc lv (vR (some a) :: st) t := by
  subst hp
  intro p l e s m args below meth c D cy A hC H locs ls hw hl
  have k := kk p l e s m args below meth c D cy A hC H locs ls hw hl
  obtain ⟨hx, hb, hr, hts, hns, hown, -, -, -, hK, -⟩ := hC
  obtain ⟨k0, hk0⟩ := zW_get (cy := cy) ha
  have hkd : kd = 5 ∨ (kd = 6 ∨ kd = 7) ∨ kd = 8 ∨ kd = 9 ∨ kd = 10 := by omega
  have e : Int32.ofNat (tN t a) = Int32.ofInt ((tN t a : Nat) : Int) := Int32.ofInt_eq_ofNat.symm
  rcases hkd with rfl | h67 | h89
  · rw [zE_fl hk] at hk0
    exact va_alen (ty := .float) hx hb hK hw.1 k0 0 hk0 rfl e hd k
  · rw [zE_in hk h67] at hk0
    rcases h67 with rfl | rfl
    · exact va_alen (ty := .int) hx hb hK hw.1 k0 1 hk0 rfl e hd k
    · exact va_alen (ty := .boolean) hx hb hK hw.1 k0 2 hk0 rfl e hd k
  · rw [zE_rf hk (by omega)] at hk0
    rcases h89 with rfl | rfl | rfl
    · exact va_alen (ty := .object RX0) hx hb hK hw.1 k0 3 hk0 rfl e hd k
    · exact va_alen (ty := .object RX1) hx hb hK hw.1 k0 4 hk0 rfl e hd k
    · exact va_alen (ty := .object RX2) hx hb hK hw.1 k0 5 hk0 rfl e hd k
theorem z_iast (pc' : Nat) {a : Nat} {j z : Int} (n : Nat) (ha : a ∈ tL t) (hk : tK t a = 6) (hn : tN t a = n) (hm : Nat.ble n 2147483647 = true) (h : 0 ≤ j ∧ j < n) (hd : decode b pc = .ok (.iastore, 1)) (hp : pc + 1 = pc') (kk : zOK y b nL ret d mc ms Post cu su pc' lv st (sI t a j z)) : zOK y b nL ret d mc ms Post cu su pc lv (vI z :: vI j :: vR (some a) :: st) t := by
  subst hp
  subst hn
  intro p l e s m args below meth c D cy A hC H locs ls hw hl
  have k := fun H1 locs1 hw1 => kk p l e s m args below meth c D cy A hC H1 locs1 ls hw1 hl
  obtain ⟨hx, hb, hr, hts, hns, hown, -, -, -, hK, -⟩ := hC
  obtain ⟨k0, hk0⟩ := zW_get (cy := cy) ha
  have hk1 := hk0
  rw [zE_in hk (Or.inl rfl)] at hk0
  obtain ⟨g1, g2, g3⟩ := zix (Nat.le_of_ble_eq_true hm) h
  have e1 : (zW cy t).set k0 (a, .inl (cy 6, tN t a, .inl (upd (fun q => Int32.ofInt (tI t a q)) (Int32.ofInt j).toNatClampNeg (Int32.ofInt z)))) = zW cy (sI t a j z) :=
    zW_upd rfl (fun _ => zE_sI_ne) hw.2.1 ha hk1 (by
      rw [zE_in (t := sI t a j z) hk (Or.inl rfl), g2]
      congr 3
      congr 1
      funext q
      by_cases hq : q = j.toNat
      · subst hq; rw [g3]; simp [upd, sI, tI, up2]
      · have : (q : Int) ≠ j := by omega
        simp [upd, sI, tI, up2, hq, this])
  exact va_iast (t0 := 1) hx hb hK hw.1 hw.2.1 hw.2.2 k0 hk0 rfl g1 hd (fun H1 locs1 a1 a2 a3 => k H1 locs1 ⟨by rw [← e1]; exact a1, by rw [← e1]; exact a2, a3⟩)
theorem z_bast (pc' : Nat) {a : Nat} {j z : Int} (n : Nat) (ha : a ∈ tL t) (hk : tK t a = 7) (hn : tN t a = n) (hm : Nat.ble n 2147483647 = true) (h : 0 ≤ j ∧ j < n) (hz : z = 0 ∨ z = 1) (hd : decode b pc = .ok (.bastore, 1)) (hp : pc + 1 = pc') (kk : zOK y b nL ret d mc ms Post cu su pc' lv st (sI t a j z)) : zOK y b nL ret d mc ms Post cu su pc lv (vI z :: vI j :: vR (some a) :: st) t := by
  subst hp
  subst hn
  intro p l e s m args below meth c D cy A hC H locs ls hw hl
  have k := fun H1 locs1 hw1 => kk p l e s m args below meth c D cy A hC H1 locs1 ls hw1 hl
  obtain ⟨hx, hb, hr, hts, hns, hown, -, -, -, hK, -⟩ := hC
  obtain ⟨k0, hk0⟩ := zW_get (cy := cy) ha
  have hk1 := hk0
  rw [zE_in hk (Or.inr rfl)] at hk0
  obtain ⟨g1, g2, g3⟩ := zix (Nat.le_of_ble_eq_true hm) h
  have hz2 : vp_nar .boolean (Int32.ofInt z) = Int32.ofInt z := by rcases hz with rfl | rfl <;> rfl
  have e1 : (zW cy t).set k0 (a, .inl (cy 7, tN t a, .inl (upd (fun q => Int32.ofInt (tI t a q)) (Int32.ofInt j).toNatClampNeg (vp_nar .boolean (Int32.ofInt z))))) = zW cy (sI t a j z) :=
    zW_upd rfl (fun _ => zE_sI_ne) hw.2.1 ha hk1 (by
      rw [zE_in (t := sI t a j z) hk (Or.inr rfl), g2, hz2]
      congr 3
      congr 1
      funext q
      by_cases hq : q = j.toNat
      · subst hq; rw [g3]; simp [upd, sI, tI, up2]
      · have : (q : Int) ≠ j := by omega
        simp [upd, sI, tI, up2, hq, this])
  exact va_zast (t0 := 2) hx hb hK hw.1 hw.2.1 hw.2.2 k0 hk0 rfl g1 hd (fun H1 locs1 a1 a2 a3 => k H1 locs1 ⟨by rw [← e1]; exact a1, by rw [← e1]; exact a2, a3⟩)
theorem z_fast (pc' : Nat) {a : Nat} {j : Int} {z : UInt32} (n : Nat) (ha : a ∈ tL t) (hk : tK t a = 5) (hn : tN t a = n) (hm : Nat.ble n 2147483647 = true) (h : 0 ≤ j ∧ j < n) (hd : decode b pc = .ok (.fastore, 1)) (hp : pc + 1 = pc') (kk : zOK y b nL ret d mc ms Post cu su pc' lv st (sF t a j z)) : zOK y b nL ret d mc ms Post cu su pc lv (vF z :: vI j :: vR (some a) :: st) t := by
  subst hp
  subst hn
  intro p l e s m args below meth c D cy A hC H locs ls hw hl
  have k := fun H1 locs1 hw1 => kk p l e s m args below meth c D cy A hC H1 locs1 ls hw1 hl
  obtain ⟨hx, hb, hr, hts, hns, hown, -, -, -, hK, -⟩ := hC
  obtain ⟨k0, hk0⟩ := zW_get (cy := cy) ha
  have hk1 := hk0
  rw [zE_fl hk] at hk0
  obtain ⟨g1, g2, g3⟩ := zix (Nat.le_of_ble_eq_true hm) h
  have e1 : (zW cy t).set k0 (a, .inl (cy 5, tN t a, .inr (.inr (.inl (vf_upd (fun q => tF t a q) (Int32.ofInt j).toNatClampNeg z))))) = zW cy (sF t a j z) :=
    zW_upd rfl (fun _ => zE_sF_ne) hw.2.1 ha hk1 (by
      rw [zE_fl (t := sF t a j z) hk, g2]
      refine congrArg (fun f => (Sum.inl (cy 5, tN t a, Sum.inr (Sum.inr (Sum.inl f))) : va_E)) (funext fun q => ?_)
      by_cases hq : q = j.toNat
      · subst hq; rw [g3]; simp [vf_upd, sF, tF, up2]
      · have : (q : Int) ≠ j := by omega
        simp [vf_upd, sF, tF, up2, hq, this])
  exact va_fast (t0 := 0) hx hb hK hw.1 hw.2.1 hw.2.2 k0 hk0 rfl g1 hd (fun H1 locs1 a1 a2 a3 => k H1 locs1 ⟨by rw [← e1]; exact a1, by rw [← e1]; exact a2, a3⟩)
theorem z_aast (pc' : Nat) {a v ci : Nat} {j : Int} (n : Nat) (ha : a ∈ tL t) (hk : tK t a = 8 + ci) (hv : v ∈ tL t) (hkv : tK t v = ci) (h3 : ci < 3) (hn : tN t a = n) (hm : n ≤ 2147483647) (h : 0 ≤ j ∧ j < n) (hd : decode b pc = .ok (.aastore, 1)) (hp : pc + 1 = pc') (kk : zOK y b nL ret d mc ms Post cu su pc' lv st (sP t a j (some v))) : zOK y b nL ret d mc ms Post cu su pc lv (vR (some v) :: vI j :: vR (some a) :: st) t := by
  subst hp
  subst hn
  intro p l e s m args below meth c D cy A hC H locs ls hw hl
  have k := fun H1 locs1 hw1 => kk p l e s m args below meth c D cy A hC H1 locs1 ls hw1 hl
  obtain ⟨hx, hb, hr, hts, hns, hown, -, -, -, hK, -⟩ := hC
  obtain ⟨k0, hk0⟩ := zW_get (cy := cy) ha
  obtain ⟨k2, hk2⟩ := zW_get (cy := cy) hv
  have hk1 := hk0
  rw [zE_rf hk (by omega)] at hk0
  rw [zE_obj hkv (by omega)] at hk2
  obtain ⟨g1, g2, g3⟩ := zix hm h
  have e1 : (zW cy t).set k0 (a, .inl (cy (8 + ci), tN t a, .inr (.inr (.inr (.inr (va_up (fun q => tP t a q) (Int32.ofInt j).toNatClampNeg (some v))))))) = zW cy (sP t a j (some v)) :=
    zW_upd rfl (fun _ => zE_sP_ne) hw.2.1 ha hk1 (by
      rw [zE_rf (t := sP t a j (some v)) hk (by omega), g2]
      refine congrArg (fun f => (Sum.inl (cy (8 + ci), tN t a, Sum.inr (Sum.inr (Sum.inr (Sum.inr f)))) : va_E)) (funext fun q => ?_)
      by_cases hq : q = j.toNat
      · subst hq; rw [g3]; simp [va_up, sP, tP, up2]
      · have : (q : Int) ≠ j := by omega
        simp [va_up, sP, tP, up2, hq, this])
  have hci : ci = 0 ∨ ci = 1 ∨ ci = 2 := by omega
  rcases hci with rfl | rfl | rfl
  · exact va_astq (r := (RX0, TX0, 6)) hx hb hK hw.1 hw.2.1 hw.2.2 k0 3 k2 0 hk0 rfl hk2 rfl g1 hd (fun H1 locs1 a1 a2 a3 => k H1 locs1 ⟨by rw [← e1]; exact a1, by rw [← e1]; exact a2, a3⟩)
  · exact va_astq (r := (RX1, TX1, 14)) hx hb hK hw.1 hw.2.1 hw.2.2 k0 4 k2 1 hk0 rfl hk2 rfl g1 hd (fun H1 locs1 a1 a2 a3 => k H1 locs1 ⟨by rw [← e1]; exact a1, by rw [← e1]; exact a2, a3⟩)
  · exact va_astq (r := (RX2, TX2, 4)) hx hb hK hw.1 hw.2.1 hw.2.2 k0 5 k2 2 hk0 rfl hk2 rfl g1 hd (fun H1 locs1 a1 a2 a3 => k H1 locs1 ⟨by rw [← e1]; exact a1, by rw [← e1]; exact a2, a3⟩)
end ZH
