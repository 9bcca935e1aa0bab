/-! FLOATS, BY THEIR VALUES: v32 counts by 2^-149 -/
section FLT
def v32 (a : UInt32) : Int := FP.Core.zval FP.Core.b32 (FP.Core.val32 a)
theorem n32_of {a : UInt32} (h : FP.Core.fIsNaN a = false) : vf_n32 a := by
  unfold vf_n32
  rw [UInt32.le_iff_toNat_le, FP.Core.mask_toNat32]
  have h1 : ¬ (2139095040 < a.toNat % 2 ^ 31) := fun q => by rw [(FP.Core.isNaN_bits32 a).mpr q] at h; cases h
  show a.toNat % 2 ^ 31 ≤ 2139095040
  omega
theorem FFin.nn {a : UInt32} (h : FP.Core.FFin a) : FP.Core.fIsNaN a = false := by
  refine (FP.Core.notNaN_iff32 a).mpr ?_
  obtain ⟨s, c, q, e⟩ := h
  rw [e]; exact fun z => by cases z
theorem n32_fin {a : UInt32} (h : FP.Core.FFin a) : vf_n32 a := n32_of (FFin.nn h)
/-- not below nought, and at most N -/
def IB (a : UInt32) (N : Int) : Prop := a.toNat < 2139095040 ∧ v32 a ≤ N
theorem IB.fin {a : UInt32} {N : Int} (h : IB a N) : FP.Core.FFin a := by
  have h1 := h.1
  rw [FP.Core.fin_bits32]; omega
theorem IB.nn {a : UInt32} {N : Int} (h : IB a N) : FP.Core.val32 a ≠ .nan := (FP.Core.notNaN_iff32 a).mp (FFin.nn h.fin)
theorem IB.ge {a : UInt32} {N : Int} (h : IB a N) : 0 ≤ v32 a := FP.Core.zval_nonneg32 h.nn (by have := h.1; omega)
theorem IB.sgn {a : UInt32} {N : Int} (h : IB a N) : FP.Core.sgn (FP.Core.val32 a) = false := by
  rw [FP.Core.sgn_bits32 h.nn]; exact decide_eq_false (by have := h.1; omega)
theorem IB.le {a : UInt32} {N K : Int} (h : IB a N) (hK : N ≤ K) : IB a K := ⟨h.1, Int.le_trans h.2 hK⟩
/-- what is rounded and no greater than a number -/
theorem IB.of_round {x V : UInt32} {c : Nat} {q : Int} (h : FP.Core.val32 x = FP.Core.round FP.Core.b32 (.fin false c q)) (hV : FP.Core.FFin V) (hle : v32 x ≤ v32 V) : IB x (v32 V) := by
  have hn : FP.Core.val32 x ≠ .nan := by rw [h]; exact FP.Core.roundRatio_ne_nan _ _ _ _ _
  have hs : FP.Core.sgn (FP.Core.val32 x) = false := by rw [h]; exact FP.Core.sgn_roundRatio _ _ _ _ _
  have hb : x.toNat < 2 ^ 31 := by
    have e := FP.Core.sgn_bits32 hn
    rw [hs] at e
    have := of_decide_eq_false e.symm
    omega
  have hf : FP.Core.FFin x := by
    cases hx : FP.Core.val32 x with
    | nan => exact absurd hx hn
    | inf s =>
      exfalso
      have e1 : v32 x = ((FP.Core.b32.tails * 2 ^ (FP.Core.b32.exps - 2) : Nat) : Int) := by
        unfold v32 FP.Core.zval
        rw [hs, hx]; rfl
      have e2 := FP.Core.FFin.zval_lt hV
      have e3 : v32 V ≤ (FP.Core.zmag FP.Core.b32 (FP.Core.val32 V) : Int) := by
        unfold v32 FP.Core.zval FP.Core.signed
        split <;> omega
      omega
    | fin s c q => exact ⟨s, c, q, hx⟩
  have h2 := (FP.Core.fin_bits32 x).mp hf
  exact ⟨by omega, hle⟩
theorem IB.add {a b V : UInt32} {N K : Int} (ha : IB a N) (hb : IB b K) (hV : FP.Core.FFin V) (h : N + K ≤ v32 V) : IB (FP.fadd a b) (v32 V) := by
  obtain ⟨s, c, q, ea⟩ := ha.fin
  obtain ⟨t, d, r, eb⟩ := hb.fin
  have fa := FP.Core.val32_fits a
  have fb := FP.Core.val32_fits b
  have sa := ha.sgn
  have sb := hb.sgn
  have za : v32 a = FP.Core.zval FP.Core.b32 (.fin s c q) := by unfold v32; rw [ea]
  have zb : v32 b = FP.Core.zval FP.Core.b32 (.fin t d r) := by unfold v32; rw [eb]
  rw [ea] at fa sa
  rw [eb] at fb sb
  have hs : s = false := sa
  have ht : t = false := sb
  obtain ⟨sg, n, e, h1, h2, h3⟩ := FP.Core.sum_units fa fb
  have hsum := FP.Core.val32_fadd a b
  rw [ea, eb, h1] at hsum
  have hsg : sg = false := by
    subst hs; subst ht
    have h4 : FP.Core.sgn (FP.Core.exactSum (.fin false c q) (.fin false d r)) = sg := by rw [h1]; rfl
    rw [← h4]
    show FP.Core.sumSign false false (FP.Core.sumUnits false c q false d r (min q r)) = false
    unfold FP.Core.sumSign FP.Core.sumUnits FP.Core.signed
    simp only [Bool.false_eq_true, if_false, Bool.and_self]
    split
    · rfl
    · exact decide_eq_false (by omega)
  subst hsg
  have hle : v32 (FP.fadd a b) ≤ v32 V := by
    unfold v32
    rw [hsum]
    refine FP.Core.zval_round_le FP.Core.good_b32 (e0 := FP.Core.b32.qmin) (FP.Core.val32_fits V) ((FP.Core.notNaN_iff32 V).mp (FFin.nn hV)) (Int.le_refl _) h2 ?_
    rw [h3, ← za, ← zb, Int.sub_self]
    show v32 a + v32 b ≤ v32 V * ((1 : Nat) : Int)
    have := ha.2
    have := hb.2
    omega
  exact IB.of_round hsum hV hle
theorem IB.mul {a b V : UInt32} {N K : Int} (ha : IB a N) (hb : IB b K) (hV : FP.Core.FFin V) (h : N * K ≤ v32 V * (FP.Core.one32 : Int)) : IB (FP.fmul a b) (v32 V) := by
  obtain ⟨s, c, q, ea⟩ := ha.fin
  obtain ⟨t, d, r, eb⟩ := hb.fin
  have fa := FP.Core.val32_fits a
  have fb := FP.Core.val32_fits b
  have sa := ha.sgn
  have sb := hb.sgn
  have za : v32 a = FP.Core.zval FP.Core.b32 (.fin s c q) := by unfold v32; rw [ea]
  have zb : v32 b = FP.Core.zval FP.Core.b32 (.fin t d r) := by unfold v32; rw [eb]
  rw [ea] at fa sa
  rw [eb] at fb sb
  have hs : s = false := sa
  have ht : t = false := sb
  obtain ⟨h1, h2, h3⟩ := FP.Core.product_units fa fb
  have hm := FP.Core.val32_fmul a b
  rw [ea, eb, h1] at hm
  subst hs; subst ht
  have hq : FP.Core.b32.qmin - 2 * FP.Core.b32.qmin = -FP.Core.b32.qmin := by omega
  have hqn : 2 * FP.Core.b32.qmin ≤ FP.Core.b32.qmin := by have := FP.Core.qmin_b32; omega
  have hle : v32 (FP.fmul a b) ≤ v32 V := by
    unfold v32
    rw [hm]
    refine FP.Core.zval_round_le FP.Core.good_b32 (e0 := 2 * FP.Core.b32.qmin) (FP.Core.val32_fits V) ((FP.Core.notNaN_iff32 V).mp (FFin.nn hV)) hqn h2 ?_
    rw [h3, hq, FP.Core.pow_qmin32]
    have e1 : v32 a = (FP.Core.zmag FP.Core.b32 (.fin false c q) : Int) := za
    have e2 : v32 b = (FP.Core.zmag FP.Core.b32 (.fin false d r) : Int) := zb
    show ((FP.Core.zmag FP.Core.b32 (.fin false c q) * FP.Core.zmag FP.Core.b32 (.fin false d r) : Nat) : Int) ≤ v32 V * (FP.Core.one32 : Int)
    rw [Int.natCast_mul, ← e1, ← e2]
    exact Int.le_trans (Int.mul_le_mul ha.2 hb.2 hb.ge (Int.le_trans ha.ge ha.2)) h
  exact IB.of_round hm hV hle
/-- whole numbers -/
def fI (n : Int) : UInt32 := FP.i2f (Int32.ofInt n)
theorem fI_v {n : Int} (h0 : 0 ≤ n) (h1 : n ≤ 16777216) : v32 (fI n) = n * (FP.Core.one32 : Int) := by
  have e : (Int32.ofInt n).toInt = n := zi_toInt ⟨by omega, by omega⟩
  have h := FP.Core.i2f_int (a := Int32.ofInt n) (by rw [e]; omega)
  rw [e] at h
  exact FP.Core.FInt_zval h
theorem fI_fin {n : Int} : FP.Core.FFin (fI n) := FP.Core.i2f_fin _
theorem fI_IB {n : Int} (h0 : 0 ≤ n) (h1 : n ≤ 16777216) : IB (fI n) (n * (FP.Core.one32 : Int)) := by
  have e : (Int32.ofInt n).toInt = n := zi_toInt ⟨by omega, by omega⟩
  have h := FP.Core.val32_i2f (Int32.ofInt n)
  rw [e] at h
  have hd : FP.Core.ofInt n = .fin false n.natAbs 0 := by
    unfold FP.Core.ofInt
    rw [decide_eq_false (by omega)]
  rw [hd] at h
  rw [← fI_v h0 h1]
  exact IB.of_round h fI_fin (Int.le_refl _)
/-- at most n -/
def IN (a : UInt32) (n : Int) : Prop := IB a (n * (FP.Core.one32 : Int))
theorem IN.le {a : UInt32} {n k : Int} (h : IN a n) (hk : n ≤ k) : IN a k := IB.le h (Int.mul_le_mul_of_nonneg_right hk (Int.natCast_nonneg _))
theorem IN.add {a b : UInt32} {n k : Int} (ha : IN a n) (hb : IN b k) (h0 : 0 ≤ n + k) (h1 : n + k ≤ 16777216) : IN (FP.fadd a b) (n + k) := by
  unfold IN
  rw [← fI_v h0 h1]
  exact IB.add ha hb fI_fin (by rw [fI_v h0 h1, Int.add_mul]; exact Int.le_refl _)
theorem IN.mul {a b : UInt32} {n : Int} (ha : IN a n) (hb : IN b 1) (h0 : 0 ≤ n) (h1 : n ≤ 16777216) : IN (FP.fmul a b) n := by
  unfold IN
  rw [← fI_v h0 h1]
  refine IB.mul ha hb fI_fin ?_
  rw [fI_v h0 h1, Int.one_mul]; exact Int.le_refl _
theorem v32_8 : v32 1040187392 * 8 = (FP.Core.one32 : Int) := by unfold v32; decide +kernel
theorem IB_8 : IB 1040187392 (v32 1040187392) := ⟨by decide, Int.le_refl _⟩
theorem IN_E8 {e n : Int} (h0 : 0 ≤ e) (h1 : e ≤ 800000) (h : e ≤ 8 * n) (hn : n ≤ 16777216) : IN (E8 e) n := by
  unfold IN
  have n0 : 0 ≤ n := by omega
  rw [← fI_v n0 hn]
  refine IB.mul (fI_IB h0 (by omega)) IB_8 fI_fin ?_
  rw [fI_v n0 hn]
  have h8 := v32_8
  generalize v32 1040187392 = K at h8 ⊢
  have hK : 0 ≤ K * (FP.Core.one32 : Int) := by
    have : 0 ≤ (FP.Core.one32 : Int) := Int.natCast_nonneg _
    exact Int.mul_nonneg (by omega) this
  have e1 : n * (FP.Core.one32 : Int) * (FP.Core.one32 : Int) = (8 * n) * (K * (FP.Core.one32 : Int)) := by
    rw [← h8]; simp only [Int.mul_assoc, Int.mul_left_comm, Int.mul_comm]
  have e2 : e * (FP.Core.one32 : Int) * K = e * (K * (FP.Core.one32 : Int)) := by rw [Int.mul_assoc, Int.mul_comm (FP.Core.one32 : Int) K]
  rw [e1, e2]
  exact Int.mul_le_mul_of_nonneg_right h hK
theorem IN_h : IN 1056964608 1 ∧ IN 1063256064 1 ∧ IN 1061158912 1 ∧ IN 1059061760 1 ∧ IN 0 0 := by
  unfold IN IB v32
  refine ⟨⟨by decide, ?_⟩, ⟨by decide, ?_⟩, ⟨by decide, ?_⟩, ⟨by decide, ?_⟩, ⟨by decide, ?_⟩⟩ <;> decide +kernel
theorem unI {a : UInt32} (h : a.toNat < 2139095040) : v32 a = (FP.Core.unitsOf FP.Core.b32 a.toNat : Int) := by
  have hI : IB a (v32 a) := ⟨h, Int.le_refl _⟩
  have e := FP.Core.zmag_bits32 hI.nn
  unfold v32 FP.Core.zval
  rw [hI.sgn, e, Nat.mod_eq_of_lt (by omega)]; rfl
theorem IN.okv {a : UInt32} {n : Int} (h : IN a n) (hn : n ≤ 2097152) : a.toNat ≤ 1241513984 := by
  have h2 := (IN.le h hn).2
  have e : (2097152 : Int) * (FP.Core.one32 : Int) = v32 1241513984 := by unfold v32; decide +kernel
  rw [e, unI h.1, unI (by decide)] at h2
  have h3 : FP.Core.unitsOf FP.Core.b32 a.toNat ≤ FP.Core.unitsOf FP.Core.b32 (1241513984 : UInt32).toNat := by omega
  exact FP.Core.unitsOf_le_iff.mp h3
end FLT
