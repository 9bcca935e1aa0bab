/-! WHAT IS LEFT OVER, BOTH WAYS -/
section RS
/-- a float that is rounded and is itself a number -/
theorem rd_exact32 {x V : UInt32} {s : Bool} {c : Nat} {q e0 : Int} (h : FP.Core.val32 x = FP.Core.round FP.Core.b32 (.fin s c q)) (hV : FP.Core.FFin V) (h0 : e0 ≤ FP.Core.b32.qmin) (h0e : e0 ≤ q) (hu : FP.Core.signed s (FP.Core.inUnits c q e0) = v32 V * ((2 ^ (FP.Core.b32.qmin - e0).toNat : Nat) : Int)) : v32 x = v32 V ∧ FP.Core.sgn (FP.Core.val32 x) = s := by
  have nV := (FP.Core.notNaN_iff32 V).mp (FFin.nn hV)
  have h1 : v32 x ≤ v32 V := by
    unfold v32; rw [h]
    exact FP.Core.zval_round_le FP.Core.good_b32 (FP.Core.val32_fits V) nV h0 h0e (Int.le_of_eq hu)
  have h2 : v32 V ≤ v32 x := by
    unfold v32; rw [h]
    exact FP.Core.zval_round_ge FP.Core.good_b32 (FP.Core.val32_fits V) nV h0 h0e (Int.le_of_eq hu.symm)
  exact ⟨Int.le_antisymm h1 h2, by rw [h]; exact FP.Core.sgn_roundRatio _ _ _ _ _⟩
def fD (c k : Nat) : UInt32 := FP.Core.of32 (FP.Core.round FP.Core.b32 (.fin false c ((k : Int) - 149)))
theorem fD_v {c k : Nat} (hc : c < 2 ^ 24) (hk : k ≤ 253) : FP.Core.FFin (fD c k) ∧ v32 (fD c k) = ((c * 2 ^ k : Nat) : Int) := by
  have hv : FP.Core.val32 (fD c k) = FP.Core.round FP.Core.b32 (.fin false c ((k : Int) - 149)) := FP.Core.val32_of32 (FP.Core.round_fits FP.Core.good_b32 _)
  have hm : FP.Core.b32.qmax = 104 := by decide
  obtain ⟨c', q', e, u⟩ := FP.Core.round_exact FP.Core.good_b32 false (c := c) (q := (k : Int) - 149) hc (by rw [FP.Core.qmin_b32]; omega) (by rw [hm]; omega)
  rw [e] at hv
  refine ⟨⟨false, c', q', hv⟩, ?_⟩
  unfold v32 FP.Core.zval
  rw [hv]
  show ((FP.Core.inUnits c' q' FP.Core.b32.qmin : Nat) : Int) = _
  rw [u]
  unfold FP.Core.inUnits
  rw [FP.Core.qmin_b32, show ((k : Int) - 149 - -149).toNat = k by omega]
/-- an eighth of a whole number -/
theorem E8_v {e : Nat} (he : e < 2 ^ 24) : v32 (E8 (e : Int)) = ((e * 2 ^ 146 : Nat) : Int) ∧ FP.Core.sgn (FP.Core.val32 (E8 (e : Int))) = false := by
  have ha := fI_IB (n := (e : Int)) (by omega) (by omega)
  have va := fI_v (n := (e : Int)) (by omega) (by omega)
  have hb := IB_8
  obtain ⟨VF, Vv⟩ := fD_v (c := e) (k := 146) he (by decide)
  obtain ⟨s, c, q, ea⟩ := ha.fin
  obtain ⟨t, d, r, eb⟩ := hb.fin
  have fa := FP.Core.val32_fits (fI (e : Int))
  have fb := FP.Core.val32_fits 1040187392
  have sa := ha.sgn
  have sb := hb.sgn
  have za : v32 (fI (e : Int)) = FP.Core.zval FP.Core.b32 (.fin s c q) := by unfold v32; rw [ea]
  have zb : v32 1040187392 = FP.Core.zval FP.Core.b32 (.fin t d r) := by unfold v32; rw [eb]
  rw [ea] at fa sa
  rw [eb] at fb sb
  have hs : s = false := sa
  have ht : t = false := sb
  obtain ⟨h1, h2, h3⟩ := FP.Core.product_units fa fb
  have hm := FP.Core.val32_fmul (fI (e : Int)) 1040187392
  rw [ea, eb, h1] at hm
  subst hs; subst ht
  have hq : FP.Core.b32.qmin - 2 * FP.Core.b32.qmin = -FP.Core.b32.qmin := by omega
  have hqn : 2 * FP.Core.b32.qmin ≤ FP.Core.b32.qmin := by have := FP.Core.qmin_b32; omega
  have hr := rd_exact32 (x := E8 (e : Int)) (e0 := 2 * FP.Core.b32.qmin) hm VF hqn h2 (by
    rw [h3, hq, FP.Core.pow_qmin32]
    have e1 : v32 (fI (e : Int)) = (FP.Core.zmag FP.Core.b32 (.fin false c q) : Int) := za
    have e2 : v32 1040187392 = (FP.Core.zmag FP.Core.b32 (.fin false d r) : Int) := zb
    show ((FP.Core.zmag FP.Core.b32 (.fin false c q) * FP.Core.zmag FP.Core.b32 (.fin false d r) : Nat) : Int) = v32 (fD e 146) * (FP.Core.one32 : Int)
    rw [Int.natCast_mul, ← e1, ← e2, va, Vv]
    have h8 : v32 1040187392 = ((2 ^ 146 : Nat) : Int) := by unfold v32; decide +kernel
    rw [h8, Int.natCast_mul]
    generalize ((2 ^ 146 : Nat) : Int) = K
    rw [Int.mul_assoc, Int.mul_assoc, Int.mul_comm K (FP.Core.one32 : Int)])
  exact ⟨hr.1.trans Vv, hr.2⟩
theorem f2d_mag {a : UInt32} (ha : FP.Core.FFin a) : (FP.f2d a).toNat % 2 ^ 63 < 1200 * 2 ^ 52 := by
  obtain ⟨h1, h2, -⟩ := f2d_v ha
  have hz := FP.Core.FFin.zval_lt ha
  have e1 : (v64 (FP.f2d a)).natAbs = FP.Core.unitsOf FP.Core.b64 ((FP.f2d a).toNat % 2 ^ 63) := by
    unfold v64 FP.Core.zval
    rw [FP.Core.natAbs_signed]
    exact FP.Core.zmag_bits ((FP.Core.notNaN_iff _).mp (DFin.nn h2))
  have e2 : (v32 a).natAbs = FP.Core.zmag FP.Core.b32 (FP.Core.val32 a) := by
    unfold v32 FP.Core.zval
    rw [FP.Core.natAbs_signed]
  rw [h1, Int.natAbs_mul, Int.natAbs_natCast, e2] at e1
  have e3 := FP.Core.unitsOf_start (f := FP.Core.b64) (K := 1200) (by decide)
  have t64 : FP.Core.b64.tails = 2 ^ 52 := FP.Core.tails_b64
  rw [t64] at e3
  have hlt : FP.Core.unitsOf FP.Core.b64 ((FP.f2d a).toNat % 2 ^ 63) < FP.Core.unitsOf FP.Core.b64 (1200 * 2 ^ 52) := by
    rw [← e1, e3]
    have p925 := Nat.two_pow_pos 925
    have l1 : FP.Core.zmag FP.Core.b32 (FP.Core.val32 a) * 2 ^ 925 < (FP.Core.b32.tails * 2 ^ (FP.Core.b32.exps - 2)) * 2 ^ 925 := Nat.mul_lt_mul_of_pos_right hz p925
    refine Nat.lt_of_lt_of_le l1 ?_
    decide +kernel
  exact FP.Core.unitsOf_lt_iff.mp hlt
/-- a float's value and a step are whole multiples of a unit -/
theorem units_of {c e m t : Nat} (hc : c < 2 ^ 24) (he : 0 < e) (ht : 1064 ≤ t ∧ t ≤ 1071) (hv : c * 2 ^ m ≤ 2 ^ 1095) : ∃ a b k : Nat, a < 2 ^ 32 ∧ 0 < b ∧ k ≤ 2045 ∧ c * 2 ^ m = a * 2 ^ k ∧ e * 2 ^ t = b * 2 ^ k := by
  by_cases h : m ≤ t
  · refine ⟨c, e * 2 ^ (t - m), m, by omega, Nat.mul_pos he (Nat.two_pow_pos _), by omega, rfl, ?_⟩
    rw [Nat.mul_assoc, ← Nat.pow_add, show t - m + m = t by omega]
  · have e1 : c * 2 ^ m = c * 2 ^ (m - t) * 2 ^ t := by
      rw [Nat.mul_assoc, ← Nat.pow_add, show m - t + t = m by omega]
    refine ⟨c * 2 ^ (m - t), e, t, ?_, he, by omega, e1, rfl⟩
    have e2 : (2 : Nat) ^ 1095 = 2 ^ (1095 - t) * 2 ^ t := by rw [← Nat.pow_add, show 1095 - t + t = 1095 by omega]
    rw [e1, e2] at hv
    have h3 := Nat.le_of_mul_le_mul_right hv (Nat.two_pow_pos t)
    have h4 : (2 : Nat) ^ (1095 - t) ≤ 2 ^ 31 := Nat.pow_le_pow_right (by decide) (by omega)
    omega
theorem okv_IB {v : UInt32} (h : v.toNat ≤ 1241513984) : IB v ((2097152 : Int) * (FP.Core.one32 : Int)) := by
  refine ⟨by omega, ?_⟩
  have e : (2097152 : Int) * (FP.Core.one32 : Int) = v32 1241513984 := by unfold v32; decide +kernel
  rw [e, unI (by omega), unI (by decide)]
  have := (FP.Core.unitsOf_le_iff (f := FP.Core.b32)).mpr h
  exact Int.ofNat_le.mpr this
/-- a float, as a double: c times 2^m units -/
theorem okv_w {v : UInt32} (h : v.toNat ≤ 1241513984) : ∃ c m : Nat, c < 2 ^ 24 ∧ c * 2 ^ m ≤ 2 ^ 1095 ∧ v64 (FP.f2d v) = ((c * 2 ^ m : Nat) : Int) ∧ DP (FP.f2d v) ∧ 925 ≤ m ∧ v32 v = ((c * 2 ^ (m - 925) : Nat) : Int) := by
  have hI := okv_IB h
  obtain ⟨s, c, q, ea⟩ := hI.fin
  have fa := FP.Core.val32_fits v
  have sa := hI.sgn
  have h2 := hI.2
  obtain ⟨e1, e2, e3⟩ := f2d_v hI.fin
  rw [ea] at fa sa
  have hs : s = false := sa
  subst hs
  have hq1 : -149 ≤ q := by have := fa.2.1; rw [FP.Core.qmin_b32] at this; exact this
  have e4 : v32 v = ((c * 2 ^ (q + 149).toNat : Nat) : Int) := by
    unfold v32 FP.Core.zval
    rw [ea]
    show ((c * 2 ^ (q - FP.Core.b32.qmin).toNat : Nat) : Int) = _
    rw [FP.Core.qmin_b32, show q - -149 = q + 149 by omega]
  have e5 : c * 2 ^ ((q + 149).toNat + 925) = (c * 2 ^ (q + 149).toNat) * 2 ^ 925 := by rw [Nat.pow_add, Nat.mul_assoc]
  refine ⟨c, (q + 149).toNat + 925, fa.1, ?_, ?_, ⟨e2, by rw [e3, ea]; rfl⟩, by omega, ?_⟩
  · rw [e5]
    rw [e4] at h2
    have h3 : c * 2 ^ (q + 149).toNat ≤ 2097152 * FP.Core.one32 := by
      have e6 : ((2097152 : Int) * (FP.Core.one32 : Int)) = ((2097152 * FP.Core.one32 : Nat) : Int) := rfl
      rw [e6] at h2
      exact Int.ofNat_le.mp h2
    refine Nat.le_trans (Nat.mul_le_mul_right (2 ^ 925) h3) ?_
    decide +kernel
  · rw [e1, e4, e5]
    exact (Int.natCast_mul _ _).symm
  · rw [e4, show (q + 149).toNat + 925 - 925 = (q + 149).toNat by omega]
theorem E8_d {e : Nat} (he : e < 2 ^ 24) : v64 (FP.f2d (E8 (e : Int))) = ((e * 2 ^ 1071 : Nat) : Int) ∧ DP (FP.f2d (E8 (e : Int))) := by
  obtain ⟨h1, h2⟩ := E8_v he
  obtain ⟨e1, e2, e3⟩ := f2d_v (E8_fin (e : Int))
  refine ⟨?_, e2, by rw [e3, h2]⟩
  rw [e1, h1, ← Int.natCast_mul, Nat.mul_assoc, ← Nat.pow_add]
theorem i2d_P {e : Nat} (he : e < 2 ^ 31) : DP (FP.i2d (Int32.ofInt (e : Int))) ∧ v64 (FP.i2d (Int32.ofInt (e : Int))) = (e : Int) * (FP.Core.one64 : Int) := by
  have z : (Int32.ofInt (e : Int)).toInt = e := zi_toInt ⟨by omega, by omega⟩
  have h := FP.Core.i2d_int (Int32.ofInt (e : Int))
  rw [z] at h
  have hv := FP.Core.val64_i2d (Int32.ofInt (e : Int))
  rw [z] at hv
  have hd : FP.Core.ofInt (e : Int) = .fin false e 0 := by
    unfold FP.Core.ofInt
    rw [decide_eq_false (by omega)]; rfl
  rw [hd] at hv
  refine ⟨⟨FP.Core.i2d_fin _, ?_⟩, FP.Core.DInt_zval h⟩
  show FP.Core.sgn (FP.Core.val64 (FP.i2d (Int32.ofInt (e : Int)))) = false
  rw [hv]; exact FP.Core.sgn_roundRatio _ _ _ _ _
theorem E10_d {e : Nat} (he : e < 2 ^ 24) : v64 (E10 (e : Int)) = ((e * 2 ^ 1064 : Nat) : Int) ∧ DP (E10 (e : Int)) := by
  obtain ⟨iP, iv⟩ := i2d_P (e := e) (by omega)
  obtain ⟨VP, Vv⟩ := dD_P (c := e) (k := 1064) (by omega) (by decide)
  have cF : FP.Core.DFin 4562146422526312448 := by rw [FP.Core.fin_bits]; decide
  have cv : v64 4562146422526312448 = ((2 ^ 1064 : Nat) : Int) := by unfold v64; decide +kernel
  have cs : FP.Core.sgn (FP.Core.val64 4562146422526312448) = false := by decide +kernel
  have h := dmul_v iP.1 cF VP.1 (by
    rw [iv, cv, Vv, Int.natCast_mul]
    generalize ((2 ^ 1064 : Nat) : Int) = K
    rw [Int.mul_assoc, Int.mul_assoc, Int.mul_comm K (FP.Core.one64 : Int)])
  exact ⟨h.1.trans Vv, h.2.1, h.2.2.trans (by rw [iP.2, cs]; rfl)⟩
theorem left_n' {v : UInt32} (hv : v.toNat ≤ 1241513984) {e : Int} (h1 : 1 ≤ e) (h2 : e ≤ 1000000) : rmok (FP.f2d v) (E10 e) ∧ rmd (FP.f2d v) (E10 e) = FP.drem (FP.f2d v) (E10 e) ∧ vf_n64 (E10 e) ∧ vf_n64 (FP.drem (FP.f2d v) (E10 e)) := by
  obtain ⟨n, rfl⟩ : ∃ n : Nat, e = n := ⟨e.toNat, by omega⟩
  obtain ⟨c, m, c1, c2, c3, c4, -, -⟩ := okv_w hv
  obtain ⟨d1, d2⟩ := E10_d (e := n) (by omega)
  obtain ⟨a, b, k, a1, a2, a3, a4, a5⟩ := units_of (e := n) (t := 1064) c1 (by omega) (by decide) c2
  rw [a4] at c3
  rw [a5] at d1
  obtain ⟨r1, r2, r3⟩ := rmd_v c4 d2 a1 a2 a3 c3 d1
  obtain ⟨s1, s2⟩ := drem_v c4 d2 a2 c3 d1
  exact ⟨r1, r2.inj s1 (r3.trans s2.symm), n64_fin d2.1, n64_fin s1.1⟩
theorem rest_n' {v : UInt32} (hv : v.toNat ≤ 1241513984) {e : Int} (h1 : 1 ≤ e) (h2 : e ≤ 80000) : vf_n64 (FP.f2d (E8 e)) ∧ rmok (FP.f2d v) (FP.f2d (E8 e)) ∧ rmd (FP.f2d v) (FP.f2d (E8 e)) = FP.f2d (FP.frem v (E8 e)) ∧ vf_n32 (FP.frem v (E8 e)) ∧ vf_n64 (FP.f2d (FP.frem v (E8 e))) := by
  obtain ⟨n, rfl⟩ : ∃ n : Nat, e = n := ⟨e.toNat, by omega⟩
  obtain ⟨c, m, c1, c2, c3, c4, c5, c6⟩ := okv_w hv
  obtain ⟨d1, d2⟩ := E8_d (e := n) (by omega)
  obtain ⟨g1, g2⟩ := E8_v (e := n) (by omega)
  obtain ⟨a, b, k, a1, a2, a3, a4, a5⟩ := units_of (e := n) (t := 1071) c1 (by omega) (by decide) c2
  have c3' := c3
  have d1' := d1
  rw [a4] at c3'
  rw [a5] at d1'
  obtain ⟨r1, r2, r3⟩ := rmd_v c4 d2 a1 a2 a3 c3' d1'
  have hI := okv_IB hv
  have sv := hI.sgn
  obtain ⟨s, x, q, ea⟩ := hI.fin
  obtain ⟨t, d, r, eb⟩ := E8_fin (n : Int)
  rw [ea] at sv
  have hs : s = false := sv
  subst hs
  rw [eb] at g2
  have ht : t = false := g2
  subst ht
  have u1 : FP.Core.inUnits x q FP.Core.b32.qmin = c * 2 ^ (m - 925) := by
    have z : v32 v = ((FP.Core.inUnits x q FP.Core.b32.qmin : Nat) : Int) := by unfold v32 FP.Core.zval; rw [ea]; rfl
    rw [c6] at z
    exact Int.ofNat.inj z.symm
  have u2 : FP.Core.inUnits d r FP.Core.b32.qmin = n * 2 ^ 146 := by
    have z : v32 (E8 (n : Int)) = ((FP.Core.inUnits d r FP.Core.b32.qmin : Nat) : Int) := by unfold v32 FP.Core.zval; rw [eb]; rfl
    rw [g1] at z
    exact Int.ofNat.inj z.symm
  have hd : d ≠ 0 := fun z => by
    unfold FP.Core.inUnits at u2
    rw [z, Nat.zero_mul] at u2
    have := Nat.mul_pos (show 0 < n by omega) (Nat.two_pow_pos 146)
    omega
  obtain ⟨c', q', hf, hu⟩ := FP.Core.frem_exact ea eb hd
  have hF : FP.Core.FFin (FP.frem v (E8 (n : Int))) := ⟨false, c', q', hf⟩
  obtain ⟨f1, f2, f3⟩ := f2d_v hF
  have fP : DP (FP.f2d (FP.frem v (E8 (n : Int)))) := ⟨f2, f3.trans (by
    have : FP.Core.sgn (FP.Core.val32 (FP.Core.frem v (E8 (n : Int)))) = false := by rw [hf]; rfl
    exact this)⟩
  have f4 : v64 (FP.f2d (FP.frem v (E8 (n : Int)))) = ((a % b * 2 ^ k : Nat) : Int) := by
    have z : v32 (FP.frem v (E8 (n : Int))) = ((c * 2 ^ (m - 925) % (n * 2 ^ 146) : Nat) : Int) := by
      have z1 : v32 (FP.Core.frem v (E8 (n : Int))) = ((FP.Core.inUnits c' q' FP.Core.b32.qmin : Nat) : Int) := by unfold v32 FP.Core.zval; rw [hf]; rfl
      rw [hu, u1, u2] at z1
      exact z1
    rw [f1, z, ← Int.natCast_mul, ← Nat.mul_mod_mul_right, ← Nat.mul_mod_mul_right, Nat.mul_assoc, ← Nat.pow_add, show m - 925 + 925 = m by omega, a4, Nat.mul_assoc n, ← Nat.pow_add, a5]
  exact ⟨n64_fin d2.1, r1, r2.inj fP (r3.trans f4.symm), n32_fin hF, n64_fin f2⟩
end RS
