/-! DOUBLES BY THEIR VALUES: v64 counts by 2^-1074 -/
section DV
def v64 (a : UInt64) : Int := FP.Core.zval FP.Core.b64 (FP.Core.val64 a)
/-- finite, and not below nought (nor minus nought) -/
def DP (a : UInt64) : Prop := FP.Core.DFin a ∧ FP.Core.sgn (FP.Core.val64 a) = false
theorem DP.ge {a : UInt64} (h : DP a) : 0 ≤ v64 a := by
  unfold v64 FP.Core.zval
  rw [h.2]
  exact Int.natCast_nonneg _
theorem DP.v {a : UInt64} (h : DP a) : v64 a = (FP.Core.zmag FP.Core.b64 (FP.Core.val64 a) : Int) := by
  unfold v64 FP.Core.zval
  rw [h.2]; rfl
theorem DP.inj {a b : UInt64} (ha : DP a) (hb : DP b) (h : v64 a = v64 b) : a = b := by
  have na := (FP.Core.notNaN_iff a).mp (DFin.nn ha.1)
  have nb := (FP.Core.notNaN_iff b).mp (DFin.nn hb.1)
  have sa := FP.Core.sgn_bits na
  have sb := FP.Core.sgn_bits nb
  rw [ha.2] at sa
  rw [hb.2] at sb
  have la := of_decide_eq_false sa.symm
  have lb := of_decide_eq_false sb.symm
  rw [ha.v, hb.v, FP.Core.zmag_bits na, FP.Core.zmag_bits nb] at h
  have h2 : FP.Core.unitsOf FP.Core.b64 (a.toNat % 2 ^ 63) = FP.Core.unitsOf FP.Core.b64 (b.toNat % 2 ^ 63) := by omega
  have h3 : a.toNat % 2 ^ 63 = b.toNat % 2 ^ 63 := by
    have l1 := (FP.Core.unitsOf_le_iff (f := FP.Core.b64) (m := a.toNat % 2 ^ 63) (k := b.toNat % 2 ^ 63)).mp (by omega)
    have l2 := (FP.Core.unitsOf_le_iff (f := FP.Core.b64) (m := b.toNat % 2 ^ 63) (k := a.toNat % 2 ^ 63)).mp (by omega)
    omega
  exact UInt64.toNat_inj.mp (by omega)
theorem sgn_fin {s : Bool} {c : Nat} {q : Int} : FP.Core.sgn (.fin s c q) = s := rfl
/-- what is rounded and is itself a number -/
theorem rd_exact {x V : UInt64} {s : Bool} {c : Nat} {q e0 : Int} (h : FP.Core.val64 x = FP.Core.round FP.Core.b64 (.fin s c q)) (hV : FP.Core.DFin V) (h0 : e0 ≤ FP.Core.b64.qmin) (h0e : e0 ≤ q) (hu : FP.Core.signed s (FP.Core.inUnits c q e0) = v64 V * ((2 ^ (FP.Core.b64.qmin - e0).toNat : Nat) : Int)) : v64 x = v64 V ∧ FP.Core.DFin x ∧ FP.Core.sgn (FP.Core.val64 x) = s := by
  have nV := (FP.Core.notNaN_iff V).mp (DFin.nn hV)
  have h1 : v64 x ≤ v64 V := by
    unfold v64; rw [h]
    exact FP.Core.zval_round_le FP.Core.good_b64 (FP.Core.val64_fits V) nV h0 h0e (Int.le_of_eq hu)
  have h2 : v64 V ≤ v64 x := by
    unfold v64; rw [h]
    exact FP.Core.zval_round_ge FP.Core.good_b64 (FP.Core.val64_fits V) nV h0 h0e (Int.le_of_eq hu.symm)
  have he : v64 x = v64 V := Int.le_antisymm h1 h2
  have hs : FP.Core.sgn (FP.Core.val64 x) = s := by rw [h]; exact FP.Core.sgn_roundRatio _ _ _ _ _
  refine ⟨he, ?_, hs⟩
  have hn : FP.Core.val64 x ≠ .nan := by rw [h]; exact FP.Core.roundRatio_ne_nan _ _ _ _ _
  cases hx : FP.Core.val64 x with
  | nan => exact absurd hx hn
  | inf s' =>
    exfalso
    have e2 := FP.Core.DFin.zval_lt hV
    have e1 : (v64 x).natAbs = FP.Core.b64.tails * 2 ^ (FP.Core.b64.exps - 2) := by
      unfold v64 FP.Core.zval
      rw [hx, FP.Core.natAbs_signed]; rfl
    have e3 : (v64 V).natAbs = FP.Core.zmag FP.Core.b64 (FP.Core.val64 V) := by
      unfold v64 FP.Core.zval
      rw [FP.Core.natAbs_signed]
    rw [he, e3] at e1
    omega
  | fin s' c' q' => exact ⟨s', c', q', hx⟩
/-- the double c times 2^k units -/
def dD (s : Bool) (c k : Nat) : UInt64 := FP.Core.of64 (FP.Core.round FP.Core.b64 (.fin s c ((k : Int) - 1074)))
theorem dD_v {s : Bool} {c k : Nat} (hc : c < 2 ^ 53) (hk : k ≤ 2045) : FP.Core.DFin (dD s c k) ∧ v64 (dD s c k) = FP.Core.signed s (c * 2 ^ k) ∧ FP.Core.sgn (FP.Core.val64 (dD s c k)) = s := by
  have hv : FP.Core.val64 (dD s c k) = FP.Core.round FP.Core.b64 (.fin s c ((k : Int) - 1074)) := FP.Core.val64_of64 (FP.Core.round_fits FP.Core.good_b64 _)
  have hm : FP.Core.b64.qmax = 971 := by decide
  obtain ⟨c', q', e, u⟩ := FP.Core.round_exact FP.Core.good_b64 s (c := c) (q := (k : Int) - 1074) hc (by rw [FP.Core.qmin_b64]; omega) (by rw [hm]; omega)
  rw [e] at hv
  refine ⟨⟨s, c', q', hv⟩, ?_, by rw [hv]; rfl⟩
  unfold v64 FP.Core.zval
  rw [hv]
  show FP.Core.signed s (FP.Core.inUnits c' q' FP.Core.b64.qmin) = _
  rw [u]
  unfold FP.Core.inUnits
  rw [FP.Core.qmin_b64, show ((k : Int) - 1074 - -1074).toNat = k by omega]
theorem dD_P {c k : Nat} (hc : c < 2 ^ 53) (hk : k ≤ 2045) : DP (dD false c k) ∧ v64 (dD false c k) = ((c * 2 ^ k : Nat) : Int) := by
  obtain ⟨h1, h2, h3⟩ := dD_v (s := false) hc hk
  exact ⟨⟨h1, h3⟩, h2⟩
theorem v64_fin {a : UInt64} {s : Bool} {c : Nat} {q : Int} (h : FP.Core.val64 a = .fin s c q) : v64 a = FP.Core.zval FP.Core.b64 (.fin s c q) := by unfold v64; rw [h]
/-- a product that is a double -/
theorem dmul_v {a b V : UInt64} (ha : FP.Core.DFin a) (hb : FP.Core.DFin b) (hV : FP.Core.DFin V) (h : v64 a * v64 b = v64 V * (FP.Core.one64 : Int)) : v64 (FP.dmul a b) = v64 V ∧ FP.Core.DFin (FP.dmul a b) ∧ FP.Core.sgn (FP.Core.val64 (FP.dmul a b)) = (FP.Core.sgn (FP.Core.val64 a) != FP.Core.sgn (FP.Core.val64 b)) := by
  obtain ⟨s, c, q, ea⟩ := ha
  obtain ⟨t, d, r, eb⟩ := hb
  have fa := FP.Core.val64_fits a
  have fb := FP.Core.val64_fits b
  rw [ea] at fa
  rw [eb] at fb
  obtain ⟨h1, h2, h3⟩ := FP.Core.product_units fa fb
  have hm := FP.Core.val64_dmul a b
  rw [ea, eb, h1] at hm
  have hq : FP.Core.b64.qmin - 2 * FP.Core.b64.qmin = -FP.Core.b64.qmin := by omega
  have hqn : 2 * FP.Core.b64.qmin ≤ FP.Core.b64.qmin := by have := FP.Core.qmin_b64; omega
  rw [ea, eb]
  refine rd_exact hm hV hqn h2 ?_
  rw [h3, FP.Core.signed_xor, hq, FP.Core.pow_qmin64, ← h, v64_fin ea, v64_fin eb]
  rfl
/-- a difference that is a double -/
theorem dsub_v {a b V : UInt64} (ha : DP a) (hb : DP b) (hV : FP.Core.DFin V) (h : v64 a - v64 b = v64 V) (h0 : 0 ≤ v64 V) : v64 (FP.dsub a b) = v64 V ∧ DP (FP.dsub a b) := by
  obtain ⟨⟨s, c, q, ea⟩, sa⟩ := ha
  obtain ⟨⟨t, d, r, eb⟩, sb⟩ := hb
  have fa := FP.Core.val64_fits a
  have fb := FP.Core.negate_fits (FP.Core.val64_fits b)
  rw [ea] at fa sa
  rw [eb] at fb sb
  have hs : s = false := sa
  have ht : t = false := sb
  subst hs; subst ht
  obtain ⟨sg, n, e, h1, h2, h3⟩ := FP.Core.sum_units (f := FP.Core.b64) (t := !false) (d := d) (r := r) fa fb
  have hsum := FP.Core.val64_dsub a b
  have en : FP.Core.negate (.fin false d r) = .fin (!false) d r := rfl
  rw [ea, eb, en, h1] at hsum
  have hz : FP.Core.zval FP.Core.b64 (.fin false c q) + FP.Core.zval FP.Core.b64 (.fin (!false) d r) = v64 V := by
    rw [← h, v64_fin ea, v64_fin eb]
    have := FP.Core.zval_negate FP.Core.b64 (.fin false d r)
    rw [en] at this
    rw [this]; omega
  have hsg : sg = false := by
    have h4 : FP.Core.sgn (FP.Core.exactSum (.fin false c q) (.fin (!false) d r)) = sg := by rw [h1]; rfl
    cases hsg : sg with
    | false => rfl
    | true =>
      exfalso
      rw [hsg] at h3 h4
      have h5 : FP.Core.sumSign false (!false) (FP.Core.sumUnits false c q (!false) d r (min q r)) = true := h4
      unfold FP.Core.sumSign at h5
      have h6 : FP.Core.signed true (FP.Core.inUnits n e FP.Core.b64.qmin) ≤ 0 := by
        show -(_ : Int) ≤ 0
        omega
      have h7 : (FP.Core.inUnits n e FP.Core.b64.qmin) = 0 := by
        have h8 : FP.Core.signed true (FP.Core.inUnits n e FP.Core.b64.qmin) = -((FP.Core.inUnits n e FP.Core.b64.qmin : Nat) : Int) := rfl
        omega
      have h9 : n = 0 := by
        unfold FP.Core.inUnits at h7
        rcases Nat.mul_eq_zero.mp h7 with z | z
        · exact z
        · have := Nat.two_pow_pos (e - FP.Core.b64.qmin).toNat; omega
      have h10 : n = (FP.Core.sumUnits false c q (!false) d r (min q r)).natAbs := by
        have h11 : FP.Core.exactSum (.fin false c q) (.fin (!false) d r) = .fin (FP.Core.sumSign false (!false) (FP.Core.sumUnits false c q (!false) d r (min q r))) (FP.Core.sumUnits false c q (!false) d r (min q r)).natAbs (min q r) := rfl
        rw [h11] at h1
        injection h1 with _ z _
        exact z.symm
      rw [if_pos (by omega)] at h5
      exact absurd h5 (by decide)
  subst hsg
  obtain ⟨r1, r2, r3⟩ := rd_exact (e0 := FP.Core.b64.qmin) hsum hV (Int.le_refl _) h2 (by
    rw [h3, hz, Int.sub_self]
    show v64 V = v64 V * ((1 : Nat) : Int)
    omega)
  exact ⟨r1, r2, r3⟩
/-- a float as a double -/
theorem f2d_v {a : UInt32} (ha : FP.Core.FFin a) : v64 (FP.f2d a) = v32 a * ((2 ^ 925 : Nat) : Int) ∧ FP.Core.DFin (FP.f2d a) ∧ FP.Core.sgn (FP.Core.val64 (FP.f2d a)) = FP.Core.sgn (FP.Core.val32 a) := by
  rw [FP.f2d_core (FFin.nn ha)]
  obtain ⟨s, c, q, ea⟩ := ha
  have fa := FP.Core.val32_fits a
  rw [ea] at fa
  have hv := FP.Core.val64_f2d a
  rw [ea] at hv
  have hm : FP.Core.b64.qmax = 971 := by decide
  have hm2 : FP.Core.b32.qmax = 104 := by decide
  have hq1 : -149 ≤ q := by have := fa.2.1; rw [FP.Core.qmin_b32] at this; exact this
  have hq2 : q ≤ 104 := by have := fa.2.2.1; rw [hm2] at this; exact this
  have hc : c < 2 ^ 24 := fa.1
  obtain ⟨c', q', e, u⟩ := FP.Core.round_exact FP.Core.good_b64 s (c := c) (q := q) (Nat.lt_trans hc (by decide)) (by rw [FP.Core.qmin_b64]; omega) (by rw [hm]; omega)
  rw [e] at hv
  refine ⟨?_, ⟨s, c', q', hv⟩, by rw [hv, ea]; rfl⟩
  have e1 : v64 (FP.Core.f2d a) = FP.Core.signed s (FP.Core.inUnits c' q' FP.Core.b64.qmin) := by unfold v64 FP.Core.zval; rw [hv]; rfl
  have e2 : v32 a = FP.Core.signed s (FP.Core.inUnits c q FP.Core.b32.qmin) := by unfold v32 FP.Core.zval; rw [ea]; rfl
  have hu : FP.Core.inUnits c q FP.Core.b64.qmin = FP.Core.inUnits c q FP.Core.b32.qmin * 2 ^ 925 := by
    unfold FP.Core.inUnits
    rw [FP.Core.qmin_b64, FP.Core.qmin_b32, Nat.mul_assoc, ← Nat.pow_add, show (q - -1074).toNat = (q - -149).toNat + 925 by omega]
  rw [e1, e2, u, hu, FP.Core.signed_mul]
end DV
