/-! DOUBLES BY THEIR VALUES: v64 counts by 2^-1074 -/
section DV
open FP.Core
def v64 (a : UInt64) : Int := zval b64 (val64 a)
/-- finite, and not below nought (nor minus nought) -/
def DP (a : UInt64) : Prop := FP.Core.DFin a ∧ FP.Core.sgn (val64 a) = false
theorem DP.ge {a : UInt64} (h : DP a) : 0 ≤ v64 a := by
  unfold v64 zval
  rw [h.2]
  exact Int.natCast_nonneg _
theorem DP.v {a : UInt64} (h : DP a) : v64 a = (zmag b64 (val64 a) : Int) := by
  unfold v64 zval
  rw [h.2]; rfl
theorem DP.inj {a b : UInt64} (ha : DP a) (hb : DP b) (h : v64 a = v64 b) : a = b := by
  have na := (notNaN_iff a).mp (DFin.nn ha.1)
  have nb := (notNaN_iff b).mp (DFin.nn hb.1)
  have sa := sgn_bits na
  have sb := sgn_bits nb
  rw [ha.2] at sa
  rw [hb.2] at sb
  have la := of_decide_eq_false sa.symm
  have lb := of_decide_eq_false sb.symm
  rw [ha.v, hb.v, zmag_bits na, zmag_bits nb] at h
  have h2 : unitsOf b64 (a.toNat % 2 ^ 63) = unitsOf b64 (b.toNat % 2 ^ 63) := by omega
  have h3 : a.toNat % 2 ^ 63 = b.toNat % 2 ^ 63 := by
    have l1 := (unitsOf_le_iff (f := b64) (m := a.toNat % 2 ^ 63) (k := b.toNat % 2 ^ 63)).mp (by omega)
    have l2 := (unitsOf_le_iff (f := b64) (m := b.toNat % 2 ^ 63) (k := a.toNat % 2 ^ 63)).mp (by omega)
    omega
  exact UInt64.toNat_inj.mp (by omega)
theorem sgn_fin {s : Bool} {c : Nat} {q : Int} : FP.Core.sgn (.fin s c q) = s := rfl
/-- what is rounded and is itself a number -/
theorem rd_exact {x V : UInt64} {s : Bool} {c : Nat} {q e0 : Int} (h : val64 x = round b64 (.fin s c q)) (hV : FP.Core.DFin V) (h0 : e0 ≤ b64.qmin) (h0e : e0 ≤ q) (hu : FP.Core.signed s (inUnits c q e0) = v64 V * ((2 ^ (b64.qmin - e0).toNat : Nat) : Int)) : v64 x = v64 V ∧ FP.Core.DFin x ∧ FP.Core.sgn (val64 x) = s := by
  have nV := (notNaN_iff V).mp (DFin.nn hV)
  have h1 : v64 x ≤ v64 V := by
    unfold v64; rw [h]
    exact zval_round_le good_b64 (val64_fits V) nV h0 h0e (Int.le_of_eq hu)
  have h2 : v64 V ≤ v64 x := by
    unfold v64; rw [h]
    exact zval_round_ge good_b64 (val64_fits V) nV h0 h0e (Int.le_of_eq hu.symm)
  have he : v64 x = v64 V := Int.le_antisymm h1 h2
  have hs : FP.Core.sgn (val64 x) = s := by rw [h]; exact sgn_roundRatio _ _ _ _ _
  refine ⟨he, ?_, hs⟩
  have hn : val64 x ≠ .nan := by rw [h]; exact roundRatio_ne_nan _ _ _ _ _
  cases hx : val64 x with
  | nan => exact absurd hx hn
  | inf s' =>
    exfalso
    have e2 := DFin.zval_lt hV
    have e1 : (v64 x).natAbs = b64.tails * 2 ^ (b64.exps - 2) := by
      unfold v64 zval
      rw [hx, natAbs_signed]; rfl
    have e3 : (v64 V).natAbs = zmag b64 (val64 V) := by
      unfold v64 zval
      rw [natAbs_signed]
    rw [he, e3] at e1
    omega
  | fin s' c' q' => exact ⟨s', c', q', hx⟩
/-- the double c times 2^k units -/
def dD (s : Bool) (c k : Nat) : UInt64 := of64 (round b64 (.fin s c ((k : Int) - 1074)))
theorem dD_v {s : Bool} {c k : Nat} (hc : c < 2 ^ 53) (hk : k ≤ 2045) : FP.Core.DFin (dD s c k) ∧ v64 (dD s c k) = FP.Core.signed s (c * 2 ^ k) ∧ FP.Core.sgn (val64 (dD s c k)) = s := by
  have hv : val64 (dD s c k) = round b64 (.fin s c ((k : Int) - 1074)) := val64_of64 (round_fits good_b64 _)
  have hm : b64.qmax = 971 := by decide
  obtain ⟨c', q', e, u⟩ := round_exact good_b64 s (c := c) (q := (k : Int) - 1074) hc (by rw [qmin_b64]; omega) (by rw [hm]; omega)
  rw [e] at hv
  refine ⟨⟨s, c', q', hv⟩, ?_, by rw [hv]; rfl⟩
  unfold v64 zval
  rw [hv]
  show FP.Core.signed s (inUnits c' q' b64.qmin) = _
  rw [u]
  unfold inUnits
  rw [qmin_b64, show ((k : Int) - 1074 - -1074).toNat = k by omega]
theorem dD_P {c k : Nat} (hc : c < 2 ^ 53) (hk : k ≤ 2045) : DP (dD false c k) ∧ v64 (dD false c k) = ((c * 2 ^ k : Nat) : Int) := by
  obtain ⟨h1, h2, h3⟩ := dD_v (s := false) hc hk
  exact ⟨⟨h1, h3⟩, h2⟩
theorem v64_fin {a : UInt64} {s : Bool} {c : Nat} {q : Int} (h : val64 a = .fin s c q) : v64 a = zval b64 (.fin s c q) := by unfold v64; rw [h]
/-- a product that is a double -/
theorem dmul_v {a b V : UInt64} (ha : FP.Core.DFin a) (hb : FP.Core.DFin b) (hV : FP.Core.DFin V) (h : v64 a * v64 b = v64 V * (one64 : Int)) : v64 (FP.dmul a b) = v64 V ∧ FP.Core.DFin (FP.dmul a b) ∧ FP.Core.sgn (val64 (FP.dmul a b)) = (FP.Core.sgn (val64 a) != FP.Core.sgn (val64 b)) := by
  obtain ⟨s, c, q, ea⟩ := ha
  obtain ⟨t, d, r, eb⟩ := hb
  have fa := val64_fits a
  have fb := val64_fits b
  rw [ea] at fa
  rw [eb] at fb
  obtain ⟨h1, h2, h3⟩ := product_units fa fb
  have hm := val64_dmul a b
  rw [ea, eb, h1] at hm
  have hq : b64.qmin - 2 * b64.qmin = -b64.qmin := by omega
  have hqn : 2 * b64.qmin ≤ b64.qmin := by have := qmin_b64; omega
  rw [ea, eb]
  refine rd_exact hm hV hqn h2 ?_
  rw [h3, signed_xor, hq, pow_qmin64, ← h, v64_fin ea, v64_fin eb]
  rfl
/-- a difference that is a double -/
theorem dsub_v {a b V : UInt64} (ha : DP a) (hb : DP b) (hV : FP.Core.DFin V) (h : v64 a - v64 b = v64 V) (h0 : 0 ≤ v64 V) : v64 (FP.dsub a b) = v64 V ∧ DP (FP.dsub a b) := by
  obtain ⟨⟨s, c, q, ea⟩, sa⟩ := ha
  obtain ⟨⟨t, d, r, eb⟩, sb⟩ := hb
  have fa := val64_fits a
  have fb := negate_fits (val64_fits b)
  rw [ea] at fa sa
  rw [eb] at fb sb
  have hs : s = false := sa
  have ht : t = false := sb
  subst hs; subst ht
  obtain ⟨sg, n, e, h1, h2, h3⟩ := sum_units (f := b64) (t := !false) (d := d) (r := r) fa fb
  have hsum := val64_dsub a b
  have en : negate (.fin false d r) = .fin (!false) d r := rfl
  rw [ea, eb, en, h1] at hsum
  have hz : zval b64 (.fin false c q) + zval b64 (.fin (!false) d r) = v64 V := by
    rw [← h, v64_fin ea, v64_fin eb]
    have := zval_negate b64 (.fin false d r)
    rw [en] at this
    rw [this]; omega
  have hsg : sg = false := by
    have h4 : FP.Core.sgn (exactSum (.fin false c q) (.fin (!false) d r)) = sg := by rw [h1]; rfl
    cases hsg : sg with
    | false => rfl
    | true =>
      exfalso
      rw [hsg] at h3 h4
      have h5 : sumSign false (!false) (sumUnits false c q (!false) d r (min q r)) = true := h4
      unfold sumSign at h5
      have h6 : FP.Core.signed true (inUnits n e b64.qmin) ≤ 0 := by
        show -(_ : Int) ≤ 0
        omega
      have h7 : (inUnits n e b64.qmin) = 0 := by
        have h8 : FP.Core.signed true (inUnits n e b64.qmin) = -((inUnits n e b64.qmin : Nat) : Int) := rfl
        omega
      have h9 : n = 0 := by
        unfold inUnits at h7
        rcases Nat.mul_eq_zero.mp h7 with z | z
        · exact z
        · have := Nat.two_pow_pos (e - b64.qmin).toNat; omega
      have h10 : n = (sumUnits false c q (!false) d r (min q r)).natAbs := by
        have h11 : exactSum (.fin false c q) (.fin (!false) d r) = .fin (sumSign false (!false) (sumUnits false c q (!false) d r (min q r))) (sumUnits false c q (!false) d r (min q r)).natAbs (min q r) := rfl
        rw [h11] at h1
        injection h1 with _ z _
        exact z.symm
      rw [if_pos (by omega)] at h5
      exact absurd h5 (by decide)
  subst hsg
  obtain ⟨r1, r2, r3⟩ := rd_exact (e0 := b64.qmin) hsum hV (Int.le_refl _) h2 (by
    rw [h3, hz, Int.sub_self]
    show v64 V = v64 V * ((1 : Nat) : Int)
    omega)
  exact ⟨r1, r2, r3⟩
/-- a float as a double -/
theorem f2d_v {a : UInt32} (ha : FP.Core.FFin a) : v64 (FP.f2d a) = v32 a * ((2 ^ 925 : Nat) : Int) ∧ FP.Core.DFin (FP.f2d a) ∧ FP.Core.sgn (val64 (FP.f2d a)) = FP.Core.sgn (val32 a) := by
  obtain ⟨s, c, q, ea⟩ := ha
  have fa := val32_fits a
  rw [ea] at fa
  have hv := val64_f2d a
  rw [ea] at hv
  have hm : b64.qmax = 971 := by decide
  have hm2 : b32.qmax = 104 := by decide
  have hq1 : -149 ≤ q := by have := fa.2.1; rw [qmin_b32] at this; exact this
  have hq2 : q ≤ 104 := by have := fa.2.2.1; rw [hm2] at this; exact this
  have hc : c < 2 ^ 24 := fa.1
  obtain ⟨c', q', e, u⟩ := round_exact good_b64 s (c := c) (q := q) (Nat.lt_trans hc (by decide)) (by rw [qmin_b64]; omega) (by rw [hm]; omega)
  rw [e] at hv
  refine ⟨?_, ⟨s, c', q', hv⟩, by rw [hv, ea]; rfl⟩
  have e1 : v64 (FP.f2d a) = FP.Core.signed s (inUnits c' q' b64.qmin) := by unfold v64 zval; rw [hv]; rfl
  have e2 : v32 a = FP.Core.signed s (inUnits c q b32.qmin) := by unfold v32 zval; rw [ea]; rfl
  rw [e1, e2, u, ← signed_mul]
  congr 1
  unfold inUnits
  rw [qmin_b64, qmin_b32, Nat.mul_assoc, ← Nat.pow_add]
  congr 2
  omega
end DV
