/-! WHAT TURNED TURNS -/
section TDS
theorem mag_of_v {a : UInt64} {K : Nat} (ha : FP.Core.DFin a) (hK : 1 ≤ K) (h : (v64 a).natAbs < 2 ^ 52 * 2 ^ (K - 1)) : a.toNat % 2 ^ 63 < K * 2 ^ 52 := by
  have e1 : (v64 a).natAbs = FP.Core.unitsOf FP.Core.b64 (a.toNat % 2 ^ 63) := by
    unfold v64 FP.Core.zval
    rw [FP.Core.natAbs_signed]
    exact FP.Core.zmag_bits ((FP.Core.notNaN_iff _).mp (DFin.nn ha))
  have e3 := FP.Core.unitsOf_start (f := FP.Core.b64) (K := K) hK
  rw [FP.Core.tails_b64] at e3
  rw [e1, ← e3] at h
  exact FP.Core.unitsOf_lt_iff.mp h
theorem v_of_mag {a : UInt64} {K : Nat} (ha : FP.Core.DFin a) (hK : 1 ≤ K) (h : a.toNat % 2 ^ 63 < K * 2 ^ 52) : (v64 a).natAbs < 2 ^ 52 * 2 ^ (K - 1) := by
  have e1 : (v64 a).natAbs = FP.Core.unitsOf FP.Core.b64 (a.toNat % 2 ^ 63) := by
    unfold v64 FP.Core.zval
    rw [FP.Core.natAbs_signed]
    exact FP.Core.zmag_bits ((FP.Core.notNaN_iff _).mp (DFin.nn ha))
  have e3 := FP.Core.unitsOf_start (f := FP.Core.b64) (K := K) hK
  rw [FP.Core.tails_b64] at e3
  rw [e1, ← e3]
  exact FP.Core.unitsOf_lt_iff.mpr h
theorem td_DS {v : UInt32} (hv : v.toNat ≤ 1241513984) (e : Int) : DS (td v e) := by
  obtain ⟨c, m, c1, c2, c3, c4, -, -⟩ := okv_w hv
  have hm : (FP.f2d v).toNat % 2 ^ 63 < 1055 * 2 ^ 52 := by
    refine mag_of_v c4.1 (by decide) ?_
    rw [c3, Int.natAbs_natCast]
    refine Nat.lt_of_le_of_lt c2 ?_
    decide +kernel
  have h2 := FP.Core.dsub_mag (a := FP.f2d v) (b := td1 e) (K := 1055) hm (td1_mag e) (by decide)
  have h4 : (td v e).toNat % 2 ^ 63 < 1057 * 2 ^ 52 := h2
  have hF : FP.Core.DFin (td v e) := by rw [FP.Core.fin_bits]; omega
  refine ⟨hF, ?_⟩
  have h5 := v_of_mag hF (by decide) h4
  refine Nat.lt_of_lt_of_le h5 ?_
  decide +kernel
theorem okv_td'' {v : UInt32} (h : v.toNat ≤ 1241513984) (e : Int) : vf_n64 (td1 e) ∧ vf_n64 (td v e) ∧ vf_n32 (tf v e) ∧ DF (td v e) ∧ FF (tf v e) := okv_td' h (f2d_mag (okv_fin h))
end TDS
