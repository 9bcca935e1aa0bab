
/-! NUMBERS -/
/-- +0 to 2^21 -/
def okv (v : UInt32) : Prop := v.toNat ≤ 1241513984
theorem B_ok {m : Nat → Int → Int} {f : Nat → Int → UInt32} (h : WF m f) {q z : Int} (hq : live m q) (hz : 0 ≤ z) (hz2 : z < m 2 q) : okv (B m f q z) := B_ok' h hq hz hz2
theorem weak_b {m : Nat → Int → Int} {f : Nat → Int → UInt32} (h : WF m f) {q : Int} (hq : live m q) : 0 ≤ weak m f q ∧ weak m f q < m 2 q := by
  have hb := h.b hq.1 hq.2.1
  have hk := wk_b (m := m) (f := f) (p := q) (n := (m 2 q - 1).toNat)
  unfold weak
  omega
theorem least_ok {m : Nat → Int → Int} {f : Nat → Int → UInt32} (h : WF m f) {q : Int} (hq : live m q) : okv (leastv m f q) := B_ok h hq (weak_b h hq).1 (weak_b h hq).2
def DF (d : UInt64) : Prop := FP.Core.DFin d
def FF (d : UInt32) : Prop := FP.Core.FFin d
def E10 (n : Int) : UInt64 := FP.dmul (FP.i2d (Int32.ofInt n)) 4562146422526312448
def td1 (e : Int) : UInt64 := FP.dmul (FP.i2d (Int32.ofInt e)) 4593671619917905920
def td (v : UInt32) (e : Int) : UInt64 := FP.dsub (FP.f2d v) (td1 e)
def tf (v : UInt32) (e : Int) : UInt32 := FP.fsub v (E8 e)
def dl (d : UInt64) : Int := (FP.d2l d).toInt
theorem dl_eq (d : UInt64) : FP.d2l d = Int64.ofInt (dl d) := (Int64.ofInt_toInt _).symm
theorem dl_b (d : UInt64) : zj (dl d) := by
  have h1 := Int64.le_toInt (FP.d2l d)
  have h2 := Int64.toInt_lt (FP.d2l d)
  unfold dl
  exact ⟨by omega, by omega⟩
def fl (d : UInt32) : Int := (FP.f2l d).toInt
theorem fl_eq (d : UInt32) : FP.f2l d = Int64.ofInt (fl d) := (Int64.ofInt_toInt _).symm
def ld (n : Int) : UInt64 := FP.l2d (Int64.ofInt n)
/-- the greatest whole number not above d -/
def flo (d : UInt64) : Int := if 0 < zfc (FP.dcmp (ld (dl d)) d) CmpOp.l then dl d - 1 else dl d
theorem land1 (n : Int) : Int64.ofInt n &&& Int64.ofInt 1 = Int64.ofInt (n % 2) := by
  apply Int64.toBitVec_inj.mp
  apply BitVec.eq_of_toNat_eq
  simp only [Int64.toBitVec_and, Int64.toBitVec_ofInt, BitVec.toNat_and, BitVec.toNat_ofInt]
  have h1 : ((1 : Int) % (2 : Nat) ^ 64).toNat = 1 := by decide
  have e : ((2 : Nat) ^ 64 : Int) = 18446744073709551616 := by decide
  rw [show ((1 : Int) % ((2 ^ 64 : Nat) : Int)).toNat = 1 from by decide, Nat.and_one_is_mod]
  have e2 : ((2 ^ 64 : Nat) : Int) = 18446744073709551616 := by decide
  rw [e2]
  omega
def dm (d : UInt64) : UInt64 := FP.dsub d (ld (flo d))
def nea (d : UInt64) : Int := if 0 < zfc (FP.dcmp (dm d) 4602678819172646912) CmpOp.l ∨ (zfc (FP.dcmp (dm d) 4602678819172646912) CmpOp.l = 0 ∧ flo d % 2 = 1) then flo d + 1 else flo d
def rmd (w s : UInt64) : UInt64 := FP.dsub w (FP.dmul (ld (dl (FP.ddiv w s))) s)
def rmok (w s : UInt64) : Prop := 0 < zfc (FP.dcmp s 0) CmpOp.l ∧ vf_n64 (FP.ddiv w s) ∧ vf_n64 (FP.dmul (ld (dl (FP.ddiv w s))) s) ∧ vf_n64 (rmd w s)
def neaC (d : UInt64) : Int := if 0 < zfc (FP.dcmp (FP.dsub d (ld (dl d))) 4602678819172646912) CmpOp.l ∨ (zfc (FP.dcmp (FP.dsub d (ld (dl d))) 4602678819172646912) CmpOp.l = 0 ∧ dl d % 2 = 1) then dl d + 1 else dl d
/-! THE NUMBERS THAT NEED NO VALUE -/
section NU
theorem n64_of {a : UInt64} (h : FP.Core.dIsNaN a = false) : vf_n64 a := by
  unfold vf_n64
  rw [UInt64.le_iff_toNat_le, FP.Core.mask_toNat]
  have h1 : ¬ (9218868437227405312 < a.toNat % 2 ^ 63) := fun q => by rw [(FP.Core.isNaN_bits a).mpr q] at h; cases h
  show a.toNat % 2 ^ 63 ≤ 9218868437227405312
  omega
theorem DFin.nn {a : UInt64} (h : FP.Core.DFin a) : FP.Core.dIsNaN a = false := by
  refine (FP.Core.notNaN_iff a).mpr ?_
  obtain ⟨s, c, q, e⟩ := h
  rw [e]; exact fun z => by cases z
theorem n64_fin {a : UInt64} (h : FP.Core.DFin a) : vf_n64 a := n64_of (DFin.nn h)
theorem okv_fin {v : UInt32} (h : v.toNat ≤ 1241513984) : FP.Core.FFin v := by rw [FP.Core.fin_bits32]; omega
theorem c8_fin : FP.Core.FFin 1040187392 := by rw [FP.Core.fin_bits32]; decide
theorem E8_mag (e : Int) : (E8 e).toNat % 2 ^ 31 < 159 * 2 ^ 23 := by
  have h := FP.Core.fmul_mag (a := FP.i2f (Int32.ofInt e)) (b := 1040187392) (Ka := 160) (Kb := 125) (FP.Core.i2f_mag _) (by decide) (by decide) (by decide)
  have h2 : (E8 e).toNat % 2 ^ 31 < (160 + 125 - 129 + 3) * 2 ^ 23 := h
  omega
theorem E8_fin (e : Int) : FP.Core.FFin (E8 e) := by
  have h := E8_mag e
  rw [FP.Core.fin_bits32]; omega
theorem E8_num' (e : Int) : vf_n32 (E8 e) := n32_fin (E8_fin e)
theorem okv_f2d' {v : UInt32} (h : v.toNat ≤ 1241513984) : vf_n64 (FP.f2d v) := by
  rw [FP.f2d_core (FFin.nn (okv_fin h))]
  exact n64_fin (FP.Core.f2d_fin (okv_fin h))
theorem okv_g' {v : UInt32} (h : v.toNat ≤ 1241513984) : vf_n32 (FP.fmul v 1148846080) := n32_of (FP.Core.fmul_out (okv_fin h) (by rw [FP.Core.fin_bits32]; decide))
theorem tape_num' {v : UInt32} (h : ∃ e, 0 ≤ e ∧ e ≤ 80000 ∧ v = E8 e) : vf_n32 (FP.fmul v 1056964608) := by
  obtain ⟨e, -, -, rfl⟩ := h
  exact n32_of (FP.Core.fmul_out (E8_fin e) (by rw [FP.Core.fin_bits32]; decide))
theorem td1_mag (e : Int) : (td1 e).toNat % 2 ^ 63 < 1055 * 2 ^ 52 := by
  have h := FP.Core.dmul_mag (a := FP.i2d (Int32.ofInt e)) (b := 4593671619917905920) (Ka := 1056) (Kb := 1021) (FP.Core.i2d_mag _) (by decide) (by decide) (by decide)
  exact h
theorem td1_fin (e : Int) : FP.Core.DFin (td1 e) := by
  have h := td1_mag e
  rw [FP.Core.fin_bits]; omega
theorem okv_td' {v : UInt32} (h : v.toNat ≤ 1241513984) (hm : (FP.f2d v).toNat % 2 ^ 63 < 1200 * 2 ^ 52) {e : Int} : vf_n64 (td1 e) ∧ vf_n64 (td v e) ∧ vf_n32 (tf v e) ∧ DF (td v e) ∧ FF (tf v e) := by
  have h1 := td1_mag e
  have h2 := FP.Core.dsub_mag (a := FP.f2d v) (b := td1 e) (K := 1200) hm (by omega) (by decide)
  have h3 : FP.Core.DFin (td v e) := by
    rw [FP.Core.fin_bits]
    have h4 : (td v e).toNat % 2 ^ 63 < (1200 + 2) * 2 ^ 52 := h2
    omega
  have h5 := E8_mag e
  have h6 := FP.Core.fsub_mag (a := v) (b := E8 e) (K := 159) (by omega) h5 (by decide)
  have h7 : FP.Core.FFin (tf v e) := by
    rw [FP.Core.fin_bits32]
    have h8 : (tf v e).toNat % 2 ^ 31 < (159 + 2) * 2 ^ 23 := h6
    omega
  exact ⟨n64_fin (td1_fin e), n64_fin h3, n32_fin h7, h3, h7⟩
theorem dm_num' {d : UInt64} (h : DF d) : vf_n64 (dm d) := n64_of (FP.Core.dsub_out (DFin.nn h) (FP.Core.l2d_fin _))
theorem DFmul8' {d : UInt64} (h : DF d) : vf_n64 (FP.dmul 4620693217682128896 d) := n64_of (FP.Core.dmul_out (by rw [FP.Core.fin_bits]; decide) h)
theorem FFmul8' {d : UInt32} (h : FF d) : vf_n32 (FP.fmul 1090519040 d) := n32_of (FP.Core.fmul_out (by rw [FP.Core.fin_bits32]; decide) h)
theorem DFneg' {d : UInt64} (h : DF d) : DF (FP.dneg d) := by
  obtain ⟨s, c, q, e⟩ := h
  exact ⟨!s, c, q, by rw [FP.val64_dneg, e]; rfl⟩
theorem FFneg' {d : UInt32} (h : FF d) : FF (FP.fneg d) := by
  obtain ⟨s, c, q, e⟩ := h
  exact ⟨!s, c, q, by rw [FP.val32_fneg, e]; rfl⟩
theorem DFq' : DF 4598175219545276416 := by
  show FP.Core.DFin _
  rw [FP.Core.fin_bits]; decide
theorem FFq' : FF 1048576000 := by
  show FP.Core.FFin _
  rw [FP.Core.fin_bits32]; decide
theorem fkey_ok {v : UInt32} (h : v.toNat ≤ 1241513984) : FP.Core.fkey v = (v.toNat : Int) := if_neg (by omega)
theorem okv_nn {v : UInt32} (h : v.toNat ≤ 1241513984) : FP.Core.val32 v ≠ .nan := (FP.Core.notNaN_iff32 v).mp (FFin.nn (okv_fin h))
theorem zfc_v (o : Ordering) (op : CmpOp) : zfc (some o) op = match o with | .lt => -1 | .eq => 0 | .gt => 1 := by
  cases o <;> cases op <;> rfl
theorem fc_ok {u v : UInt32} (hu : u.toNat ≤ 1241513984) (hv : v.toNat ≤ 1241513984) (op : CmpOp) : (zfc (FP.fcmp u v) op < 0 ↔ u.toNat < v.toNat) ∧ (0 < zfc (FP.fcmp u v) op ↔ v.toNat < u.toNat) := by
  show (zfc (FP.Core.fcmp u v) op < 0 ↔ u.toNat < v.toNat) ∧ (0 < zfc (FP.Core.fcmp u v) op ↔ v.toNat < u.toNat)
  rw [FP.Core.fcmp_key (okv_nn hu) (okv_nn hv), fkey_ok hu, fkey_ok hv, zfc_v]
  rcases Int.lt_trichotomy (u.toNat : Int) (v.toNat : Int) with c | c | c
  · rw [(FP.Core.compare_lt_iff _ _).mpr c]
    exact ⟨⟨fun _ => by omega, fun _ => by decide⟩, ⟨fun z => absurd z (by decide), fun z => by omega⟩⟩
  · rw [(FP.Core.compare_eq_iff _ _).mpr c]
    exact ⟨⟨fun z => absurd z (by decide), fun z => by omega⟩, ⟨fun z => absurd z (by decide), fun z => by omega⟩⟩
  · rw [(FP.Core.compare_gt_iff _ _).mpr c]
    exact ⟨⟨fun z => absurd z (by decide), fun z => by omega⟩, ⟨fun _ => by omega, fun _ => by decide⟩⟩
theorem fcg' {u v : UInt32} (hu : u.toNat ≤ 1241513984) (hv : v.toNat ≤ 1241513984) : zfc (FP.fcmp u v) CmpOp.g < 0 ↔ u.toNat < v.toNat := (fc_ok hu hv _).1
theorem fcl' {u v : UInt32} (hu : u.toNat ≤ 1241513984) (hv : v.toNat ≤ 1241513984) : (zfc (FP.fcmp u v) CmpOp.l < 0 ↔ u.toNat < v.toNat) ∧ (0 < zfc (FP.fcmp u v) CmpOp.l ↔ v.toNat < u.toNat) := fc_ok hu hv _
end NU
/-! DOUBLES BY THEIR VALUES: v64 counts by 2^-1074 -/
section DV
def v64 (a : UInt64) : Int := FP.Core.zval FP.Core.b64 (FP.Core.val64 a)
/-- finite, and not below nought (nor minus nought) -/
def DP (a : UInt64) : Prop := FP.Core.DFin a ∧ FP.Core.sgn (FP.Core.val64 a) = false
theorem DP.ge {a : UInt64} (h : DP a) : 0 ≤ v64 a := by
  unfold v64 FP.Core.zval
  rw [h.2]
  exact Int.natCast_nonneg _
theorem DP.v {a : UInt64} (h : DP a) : v64 a = (FP.Core.zmag FP.Core.b64 (FP.Core.val64 a) : Int) := by
  unfold v64 FP.Core.zval
  rw [h.2]; rfl
theorem DP.inj {a b : UInt64} (ha : DP a) (hb : DP b) (h : v64 a = v64 b) : a = b := by
  have na := (FP.Core.notNaN_iff a).mp (DFin.nn ha.1)
  have nb := (FP.Core.notNaN_iff b).mp (DFin.nn hb.1)
  have sa := FP.Core.sgn_bits na
  have sb := FP.Core.sgn_bits nb
  rw [ha.2] at sa
  rw [hb.2] at sb
  have la := of_decide_eq_false sa.symm
  have lb := of_decide_eq_false sb.symm
  rw [ha.v, hb.v, FP.Core.zmag_bits na, FP.Core.zmag_bits nb] at h
  have h2 : FP.Core.unitsOf FP.Core.b64 (a.toNat % 2 ^ 63) = FP.Core.unitsOf FP.Core.b64 (b.toNat % 2 ^ 63) := by omega
  have h3 : a.toNat % 2 ^ 63 = b.toNat % 2 ^ 63 := by
    have l1 := (FP.Core.unitsOf_le_iff (f := FP.Core.b64) (m := a.toNat % 2 ^ 63) (k := b.toNat % 2 ^ 63)).mp (by omega)
    have l2 := (FP.Core.unitsOf_le_iff (f := FP.Core.b64) (m := b.toNat % 2 ^ 63) (k := a.toNat % 2 ^ 63)).mp (by omega)
    omega
  exact UInt64.toNat_inj.mp (by omega)
theorem sgn_fin {s : Bool} {c : Nat} {q : Int} : FP.Core.sgn (.fin s c q) = s := rfl
/-- what is rounded and is itself a number -/
theorem rd_exact {x V : UInt64} {s : Bool} {c : Nat} {q e0 : Int} (h : FP.Core.val64 x = FP.Core.round FP.Core.b64 (.fin s c q)) (hV : FP.Core.DFin V) (h0 : e0 ≤ FP.Core.b64.qmin) (h0e : e0 ≤ q) (hu : FP.Core.signed s (FP.Core.inUnits c q e0) = v64 V * ((2 ^ (FP.Core.b64.qmin - e0).toNat : Nat) : Int)) : v64 x = v64 V ∧ FP.Core.DFin x ∧ FP.Core.sgn (FP.Core.val64 x) = s := by
  have nV := (FP.Core.notNaN_iff V).mp (DFin.nn hV)
  have h1 : v64 x ≤ v64 V := by
    unfold v64; rw [h]
    exact FP.Core.zval_round_le FP.Core.good_b64 (FP.Core.val64_fits V) nV h0 h0e (Int.le_of_eq hu)
  have h2 : v64 V ≤ v64 x := by
    unfold v64; rw [h]
    exact FP.Core.zval_round_ge FP.Core.good_b64 (FP.Core.val64_fits V) nV h0 h0e (Int.le_of_eq hu.symm)
  have he : v64 x = v64 V := Int.le_antisymm h1 h2
  have hs : FP.Core.sgn (FP.Core.val64 x) = s := by rw [h]; exact FP.Core.sgn_roundRatio _ _ _ _ _
  refine ⟨he, ?_, hs⟩
  have hn : FP.Core.val64 x ≠ .nan := by rw [h]; exact FP.Core.roundRatio_ne_nan _ _ _ _ _
  cases hx : FP.Core.val64 x with
  | nan => exact absurd hx hn
  | inf s' =>
    exfalso
    have e2 := FP.Core.DFin.zval_lt hV
    have e1 : (v64 x).natAbs = FP.Core.b64.tails * 2 ^ (FP.Core.b64.exps - 2) := by
      unfold v64 FP.Core.zval
      rw [hx, FP.Core.natAbs_signed]; rfl
    have e3 : (v64 V).natAbs = FP.Core.zmag FP.Core.b64 (FP.Core.val64 V) := by
      unfold v64 FP.Core.zval
      rw [FP.Core.natAbs_signed]
    rw [he, e3] at e1
    omega
  | fin s' c' q' => exact ⟨s', c', q', hx⟩
/-- the double c times 2^k units -/
def dD (s : Bool) (c k : Nat) : UInt64 := FP.Core.of64 (FP.Core.round FP.Core.b64 (.fin s c ((k : Int) - 1074)))
theorem dD_v {s : Bool} {c k : Nat} (hc : c < 2 ^ 53) (hk : k ≤ 2045) : FP.Core.DFin (dD s c k) ∧ v64 (dD s c k) = FP.Core.signed s (c * 2 ^ k) ∧ FP.Core.sgn (FP.Core.val64 (dD s c k)) = s := by
  have hv : FP.Core.val64 (dD s c k) = FP.Core.round FP.Core.b64 (.fin s c ((k : Int) - 1074)) := FP.Core.val64_of64 (FP.Core.round_fits FP.Core.good_b64 _)
  have hm : FP.Core.b64.qmax = 971 := by decide
  obtain ⟨c', q', e, u⟩ := FP.Core.round_exact FP.Core.good_b64 s (c := c) (q := (k : Int) - 1074) hc (by rw [FP.Core.qmin_b64]; omega) (by rw [hm]; omega)
  rw [e] at hv
  refine ⟨⟨s, c', q', hv⟩, ?_, by rw [hv]; rfl⟩
  unfold v64 FP.Core.zval
  rw [hv]
  show FP.Core.signed s (FP.Core.inUnits c' q' FP.Core.b64.qmin) = _
  rw [u]
  unfold FP.Core.inUnits
  rw [FP.Core.qmin_b64, show ((k : Int) - 1074 - -1074).toNat = k by omega]
theorem dD_P {c k : Nat} (hc : c < 2 ^ 53) (hk : k ≤ 2045) : DP (dD false c k) ∧ v64 (dD false c k) = ((c * 2 ^ k : Nat) : Int) := by
  obtain ⟨h1, h2, h3⟩ := dD_v (s := false) hc hk
  exact ⟨⟨h1, h3⟩, h2⟩
theorem v64_fin {a : UInt64} {s : Bool} {c : Nat} {q : Int} (h : FP.Core.val64 a = .fin s c q) : v64 a = FP.Core.zval FP.Core.b64 (.fin s c q) := by unfold v64; rw [h]
/-- a product that is a double -/
theorem dmul_v {a b V : UInt64} (ha : FP.Core.DFin a) (hb : FP.Core.DFin b) (hV : FP.Core.DFin V) (h : v64 a * v64 b = v64 V * (FP.Core.one64 : Int)) : v64 (FP.dmul a b) = v64 V ∧ FP.Core.DFin (FP.dmul a b) ∧ FP.Core.sgn (FP.Core.val64 (FP.dmul a b)) = (FP.Core.sgn (FP.Core.val64 a) != FP.Core.sgn (FP.Core.val64 b)) := by
  obtain ⟨s, c, q, ea⟩ := ha
  obtain ⟨t, d, r, eb⟩ := hb
  have fa := FP.Core.val64_fits a
  have fb := FP.Core.val64_fits b
  rw [ea] at fa
  rw [eb] at fb
  obtain ⟨h1, h2, h3⟩ := FP.Core.product_units fa fb
  have hm := FP.Core.val64_dmul a b
  rw [ea, eb, h1] at hm
  have hq : FP.Core.b64.qmin - 2 * FP.Core.b64.qmin = -FP.Core.b64.qmin := by omega
  have hqn : 2 * FP.Core.b64.qmin ≤ FP.Core.b64.qmin := by have := FP.Core.qmin_b64; omega
  rw [ea, eb]
  refine rd_exact hm hV hqn h2 ?_
  rw [h3, FP.Core.signed_xor, hq, FP.Core.pow_qmin64, ← h, v64_fin ea, v64_fin eb]
  rfl
/-- a difference that is a double -/
theorem dsub_v {a b V : UInt64} (ha : DP a) (hb : DP b) (hV : FP.Core.DFin V) (h : v64 a - v64 b = v64 V) (h0 : 0 ≤ v64 V) : v64 (FP.dsub a b) = v64 V ∧ DP (FP.dsub a b) := by
  obtain ⟨⟨s, c, q, ea⟩, sa⟩ := ha
  obtain ⟨⟨t, d, r, eb⟩, sb⟩ := hb
  have fa := FP.Core.val64_fits a
  have fb := FP.Core.negate_fits (FP.Core.val64_fits b)
  rw [ea] at fa sa
  rw [eb] at fb sb
  have hs : s = false := sa
  have ht : t = false := sb
  subst hs; subst ht
  obtain ⟨sg, n, e, h1, h2, h3⟩ := FP.Core.sum_units (f := FP.Core.b64) (t := !false) (d := d) (r := r) fa fb
  have hsum := FP.Core.val64_dsub a b
  have en : FP.Core.negate (.fin false d r) = .fin (!false) d r := rfl
  rw [ea, eb, en, h1] at hsum
  have hz : FP.Core.zval FP.Core.b64 (.fin false c q) + FP.Core.zval FP.Core.b64 (.fin (!false) d r) = v64 V := by
    rw [← h, v64_fin ea, v64_fin eb]
    have := FP.Core.zval_negate FP.Core.b64 (.fin false d r)
    rw [en] at this
    rw [this]; omega
  have hsg : sg = false := by
    have h4 : FP.Core.sgn (FP.Core.exactSum (.fin false c q) (.fin (!false) d r)) = sg := by rw [h1]; rfl
    cases hsg : sg with
    | false => rfl
    | true =>
      exfalso
      rw [hsg] at h3 h4
      have h5 : FP.Core.sumSign false (!false) (FP.Core.sumUnits false c q (!false) d r (min q r)) = true := h4
      unfold FP.Core.sumSign at h5
      have h6 : FP.Core.signed true (FP.Core.inUnits n e FP.Core.b64.qmin) ≤ 0 := by
        show -(_ : Int) ≤ 0
        omega
      have h7 : (FP.Core.inUnits n e FP.Core.b64.qmin) = 0 := by
        have h8 : FP.Core.signed true (FP.Core.inUnits n e FP.Core.b64.qmin) = -((FP.Core.inUnits n e FP.Core.b64.qmin : Nat) : Int) := rfl
        omega
      have h9 : n = 0 := by
        unfold FP.Core.inUnits at h7
        rcases Nat.mul_eq_zero.mp h7 with z | z
        · exact z
        · have := Nat.two_pow_pos (e - FP.Core.b64.qmin).toNat; omega
      have h10 : n = (FP.Core.sumUnits false c q (!false) d r (min q r)).natAbs := by
        have h11 : FP.Core.exactSum (.fin false c q) (.fin (!false) d r) = .fin (FP.Core.sumSign false (!false) (FP.Core.sumUnits false c q (!false) d r (min q r))) (FP.Core.sumUnits false c q (!false) d r (min q r)).natAbs (min q r) := rfl
        rw [h11] at h1
        injection h1 with _ z _
        exact z.symm
      rw [if_pos (by omega)] at h5
      exact absurd h5 (by decide)
  subst hsg
  obtain ⟨r1, r2, r3⟩ := rd_exact (e0 := FP.Core.b64.qmin) hsum hV (Int.le_refl _) h2 (by
    rw [h3, hz, Int.sub_self]
    show v64 V = v64 V * ((1 : Nat) : Int)
    omega)
  exact ⟨r1, r2, r3⟩
/-- a float as a double -/
theorem f2d_v {a : UInt32} (ha : FP.Core.FFin a) : v64 (FP.f2d a) = v32 a * ((2 ^ 925 : Nat) : Int) ∧ FP.Core.DFin (FP.f2d a) ∧ FP.Core.sgn (FP.Core.val64 (FP.f2d a)) = FP.Core.sgn (FP.Core.val32 a) := by
  rw [FP.f2d_core (FFin.nn ha)]
  obtain ⟨s, c, q, ea⟩ := ha
  have fa := FP.Core.val32_fits a
  rw [ea] at fa
  have hv := FP.Core.val64_f2d a
  rw [ea] at hv
  have hm : FP.Core.b64.qmax = 971 := by decide
  have hm2 : FP.Core.b32.qmax = 104 := by decide
  have hq1 : -149 ≤ q := by have := fa.2.1; rw [FP.Core.qmin_b32] at this; exact this
  have hq2 : q ≤ 104 := by have := fa.2.2.1; rw [hm2] at this; exact this
  have hc : c < 2 ^ 24 := fa.1
  obtain ⟨c', q', e, u⟩ := FP.Core.round_exact FP.Core.good_b64 s (c := c) (q := q) (Nat.lt_trans hc (by decide)) (by rw [FP.Core.qmin_b64]; omega) (by rw [hm]; omega)
  rw [e] at hv
  refine ⟨?_, ⟨s, c', q', hv⟩, by rw [hv, ea]; rfl⟩
  have e1 : v64 (FP.Core.f2d a) = FP.Core.signed s (FP.Core.inUnits c' q' FP.Core.b64.qmin) := by unfold v64 FP.Core.zval; rw [hv]; rfl
  have e2 : v32 a = FP.Core.signed s (FP.Core.inUnits c q FP.Core.b32.qmin) := by unfold v32 FP.Core.zval; rw [ea]; rfl
  have hu : FP.Core.inUnits c q FP.Core.b64.qmin = FP.Core.inUnits c q FP.Core.b32.qmin * 2 ^ 925 := by
    unfold FP.Core.inUnits
    rw [FP.Core.qmin_b64, FP.Core.qmin_b32, Nat.mul_assoc, ← Nat.pow_add, show (q - -1074).toNat = (q - -149).toNat + 925 by omega]
  rw [e1, e2, u, hu, FP.Core.signed_mul]
end DV
/-! QUOTIENTS AND REMAINDERS OF WHOLE MULTIPLES OF A UNIT -/
section DQ
/-- the FP.Core.quotient, against a number -/
theorem ddiv_cmp {w s V : UInt64} (hw : DP w) (hs : DP s) (h0 : 0 < v64 s) (hV : DP V) : (v64 V * v64 s ≤ v64 w * (FP.Core.one64 : Int) → v64 V ≤ v64 (FP.ddiv w s)) ∧ (v64 w * (FP.Core.one64 : Int) ≤ v64 V * v64 s → v64 (FP.ddiv w s) ≤ v64 V) ∧ FP.Core.val64 (FP.ddiv w s) ≠ .nan ∧ FP.Core.sgn (FP.Core.val64 (FP.ddiv w s)) = false := by
  have ew0 := hw.v
  have es0 := hs.v
  have eV := hV.v
  obtain ⟨⟨sw, c, q, ea⟩, sa⟩ := hw
  obtain ⟨⟨ss, d, r, eb⟩, sb⟩ := hs
  have fa := FP.Core.val64_fits w
  have fb := FP.Core.val64_fits s
  rw [ea] at fa sa
  rw [eb] at fb sb
  have h1 : sw = false := sa
  have h2 : ss = false := sb
  subst h1; subst h2
  have hm : FP.Core.b64.qmax = 971 := by decide
  have q1 : -1074 ≤ q := by have := fa.2.1; rw [FP.Core.qmin_b64] at this; exact this
  have r1 : -1074 ≤ r := by have := fb.2.1; rw [FP.Core.qmin_b64] at this; exact this
  have r2 : r ≤ 971 := by have := fb.2.2.1; rw [hm] at this; exact this
  have ew : v64 w = ((c * 2 ^ (q + 1074).toNat : Nat) : Int) := by
    rw [ew0, ea]; show ((c * 2 ^ (q - FP.Core.b64.qmin).toNat : Nat) : Int) = _
    rw [FP.Core.qmin_b64, show q - -1074 = q + 1074 by omega]
  have es : v64 s = ((d * 2 ^ (r + 1074).toNat : Nat) : Int) := by
    rw [es0, eb]; show ((d * 2 ^ (r - FP.Core.b64.qmin).toNat : Nat) : Int) = _
    rw [FP.Core.qmin_b64, show r - -1074 = r + 1074 by omega]
  have hd : d ≠ 0 := fun z => by
    rw [z, Nat.zero_mul] at es
    rw [es] at h0
    exact absurd h0 (by decide)
  have hq := FP.Core.val64_ddiv w s
  rw [ea, eb] at hq
  have hq2 : FP.Core.val64 (FP.ddiv w s) = FP.Core.roundRatio FP.Core.b64 false c d (q - r) := hq.trans (if_neg hd)
  have hsg : FP.Core.sgn (FP.Core.val64 (FP.ddiv w s)) = false := by rw [hq2]; exact FP.Core.sgn_roundRatio _ _ _ _ _
  have hn : FP.Core.val64 (FP.ddiv w s) ≠ .nan := by rw [hq2]; exact FP.Core.roundRatio_ne_nan _ _ _ _ _
  have eQ : v64 (FP.ddiv w s) = (FP.Core.zmag FP.Core.b64 (FP.Core.val64 (FP.ddiv w s)) : Int) := by
    unfold v64 FP.Core.zval
    rw [hsg]; rfl
  have hk : (q - r + 2200).toNat + (r + 1074).toNat = (q + 1074).toNat + (1074 + 1126) := by omega
  have hp2 := Nat.two_pow_pos (r + 1074).toNat
  have e16 : (FP.Core.b64.qmin - -2200).toNat = 1126 := by rw [FP.Core.qmin_b64]; decide
  have one : FP.Core.one64 = 2 ^ 1074 := rfl
  have kky : ∀ z : Nat, ((z * 2 ^ 1126 * d) * 2 ^ (r + 1074).toNat = (z * (d * 2 ^ (r + 1074).toNat)) * 2 ^ 1126) ∧ ((c * 2 ^ (q - r + 2200).toNat) * 2 ^ (r + 1074).toNat = ((c * 2 ^ (q + 1074).toNat) * FP.Core.one64) * 2 ^ 1126) := fun z => by
    constructor
    · simp only [Nat.mul_assoc, Nat.mul_left_comm, Nat.mul_comm]
    · rw [one, Nat.mul_assoc, ← Nat.pow_add, hk, Nat.pow_add, Nat.pow_add]
      simp only [Nat.mul_assoc]
  refine ⟨fun h => ?_, fun h => ?_, hn, hsg⟩
  · rw [ew, es, eV] at h
    rw [← Int.natCast_mul, ← Int.natCast_mul] at h
    have h' : FP.Core.zmag FP.Core.b64 (FP.Core.val64 V) * (d * 2 ^ (r + 1074).toNat) ≤ c * 2 ^ (q + 1074).toNat * FP.Core.one64 := Int.ofNat_le.mp h
    have g : FP.Core.zmag FP.Core.b64 (FP.Core.val64 V) ≤ FP.Core.zmag FP.Core.b64 (FP.Core.roundRatio FP.Core.b64 false c d (q - r)) := by
      refine FP.Core.zmag_roundRatio_ge FP.Core.good_b64 (e0 := -2200) (Nat.pos_of_ne_zero hd) (FP.Core.val64_fits V) (by rw [FP.Core.qmin_b64]; decide) (by omega) ?_
      rw [e16]
      show _ ≤ c * 2 ^ (q - r - -2200).toNat
      rw [show q - r - -2200 = q - r + 2200 by omega]
      refine Nat.le_of_mul_le_mul_right ?_ hp2
      rw [(kky (FP.Core.zmag FP.Core.b64 (FP.Core.val64 V))).1, (kky 0).2]
      exact Nat.mul_le_mul_right _ h'
    rw [eQ, eV, hq2]
    exact_mod_cast g
  · rw [ew, es, eV] at h
    rw [← Int.natCast_mul, ← Int.natCast_mul] at h
    have h' : c * 2 ^ (q + 1074).toNat * FP.Core.one64 ≤ FP.Core.zmag FP.Core.b64 (FP.Core.val64 V) * (d * 2 ^ (r + 1074).toNat) := Int.ofNat_le.mp h
    have g : FP.Core.zmag FP.Core.b64 (FP.Core.roundRatio FP.Core.b64 false c d (q - r)) ≤ FP.Core.zmag FP.Core.b64 (FP.Core.val64 V) := by
      refine FP.Core.zmag_roundRatio_le FP.Core.good_b64 (e0 := -2200) (Nat.pos_of_ne_zero hd) (FP.Core.val64_fits V) ((FP.Core.notNaN_iff V).mp (DFin.nn hV.1)) (by rw [FP.Core.qmin_b64]; decide) (by omega) ?_
      rw [e16]
      show c * 2 ^ (q - r - -2200).toNat ≤ _
      rw [show q - r - -2200 = q - r + 2200 by omega]
      refine Nat.le_of_mul_le_mul_right ?_ hp2
      rw [(kky (FP.Core.zmag FP.Core.b64 (FP.Core.val64 V))).1, (kky 0).2]
      exact Nat.mul_le_mul_right _ h'
    rw [eQ, eV, hq2]
    exact_mod_cast g
/-- the whole part -/
theorem dl_v {x : UInt64} (hn : FP.Core.val64 x ≠ .nan) (hs : FP.Core.sgn (FP.Core.val64 x) = false) {n : Nat} (h1 : ((n : Nat) : Int) * (FP.Core.one64 : Int) ≤ v64 x) (h2 : v64 x < ((n + 1 : Nat) : Int) * (FP.Core.one64 : Int)) (hb : n < 9007199254740992) : dl x = n := by
  have e := FP.Core.d2l_val hn
  have ev : v64 x = (FP.Core.zmag FP.Core.b64 (FP.Core.val64 x) : Int) := by unfold v64 FP.Core.zval; rw [hs]; rfl
  rw [ev] at h1 h2
  have g1 : n * FP.Core.one64 ≤ FP.Core.zmag FP.Core.b64 (FP.Core.val64 x) := by exact_mod_cast h1
  have g2 : FP.Core.zmag FP.Core.b64 (FP.Core.val64 x) < (n + 1) * FP.Core.one64 := by exact_mod_cast h2
  have hd : FP.Core.zmag FP.Core.b64 (FP.Core.val64 x) / FP.Core.one64 = n := by
    have p := FP.Core.one64_pos
    apply Nat.le_antisymm
    · exact Nat.le_of_lt_succ ((Nat.div_lt_iff_lt_mul p).mpr g2)
    · exact (Nat.le_div_iff_mul_le p).mpr g1
  unfold dl
  rw [e, hs, hd]
  show max (-2 ^ 63) (min (2 ^ 63 - 1) ((n : Nat) : Int)) = n
  omega
theorem ld_P {n : Nat} (hb : n < 9007199254740992) : DP (ld (n : Int)) ∧ v64 (ld (n : Int)) = (n : Int) * (FP.Core.one64 : Int) := by
  have e : (Int64.ofInt (n : Int)).toInt = n := Int64.toInt_ofInt_of_le (by omega) (by omega)
  have h := FP.Core.l2d_int (a := Int64.ofInt (n : Int)) (by rw [e]; omega)
  rw [e] at h
  have hv := FP.Core.val64_l2d (Int64.ofInt (n : Int))
  rw [e] at hv
  have hd : FP.Core.ofInt (n : Int) = .fin false n 0 := by
    unfold FP.Core.ofInt
    rw [decide_eq_false (by omega)]; rfl
  rw [hd] at hv
  refine ⟨⟨FP.Core.l2d_fin _, ?_⟩, FP.Core.DInt_zval h⟩
  show FP.Core.sgn (FP.Core.val64 (FP.l2d (Int64.ofInt (n : Int)))) = false
  rw [hv]; exact FP.Core.sgn_roundRatio _ _ _ _ _
/-- w and s are a and b units: the quotient's whole part -/
theorem quo_v {w s : UInt64} {a b k : Nat} (hw : DP w) (hs : DP s) (ha : a < 2 ^ 32) (hb : 0 < b) (ew : v64 w = ((a * 2 ^ k : Nat) : Int)) (es : v64 s = ((b * 2 ^ k : Nat) : Int)) : dl (FP.ddiv w s) = ((a / b : Nat) : Int) ∧ FP.Core.val64 (FP.ddiv w s) ≠ .nan := by
  have hk := Nat.two_pow_pos k
  have hsp : 0 < v64 s := by
    rw [es]
    exact_mod_cast Nat.mul_pos hb hk
  have hnb : a / b * b ≤ a := Nat.div_mul_le_self a b
  have hna : a / b ≤ a := Nat.div_le_self a b
  have hlt : a < (a / b + 1) * b := by
    have := Nat.lt_div_mul_add (a := a) hb
    rw [Nat.add_mul, Nat.one_mul]; exact this
  generalize hn : a / b = n at hnb hna hlt ⊢
  obtain ⟨lP, lv⟩ := ld_P (n := n) (by omega)
  obtain ⟨c1, -, cn, cs⟩ := ddiv_cmp hw hs hsp lP
  have low : (n : Int) * (FP.Core.one64 : Int) ≤ v64 (FP.ddiv w s) := by
    rw [← lv]
    refine c1 ?_
    rw [lv, es, ew]
    have : n * FP.Core.one64 * (b * 2 ^ k) ≤ a * 2 ^ k * FP.Core.one64 := by
      have e1 : n * FP.Core.one64 * (b * 2 ^ k) = (n * b) * (2 ^ k * FP.Core.one64) := by simp only [Nat.mul_assoc, Nat.mul_left_comm, Nat.mul_comm]
      have e2 : a * 2 ^ k * FP.Core.one64 = a * (2 ^ k * FP.Core.one64) := Nat.mul_assoc _ _ _
      rw [e1, e2]
      exact Nat.mul_le_mul_right _ hnb
    exact_mod_cast this
  -- a number below n + 1 that the FP.Core.quotient isn't above
  obtain ⟨j, hj1, hj2, hj3⟩ : ∃ j : Nat, j ≤ 33 ∧ (n + 1) * 2 ^ j ≤ 2 ^ 34 ∧ a * 2 ^ j ≤ ((n + 1) * 2 ^ j - 1) * b := by
    by_cases c : b ≤ a
    · have l1 := Nat.lt_log2_self (n := b)
      have l2 := Nat.log2_self_le (n := b) (by omega)
      have e1 : 2 ^ (b.log2 + 1) = 2 * 2 ^ b.log2 := by rw [Nat.pow_succ, Nat.mul_comm]
      have hn1 : 1 ≤ n := by rw [← hn]; exact (Nat.one_le_div_iff hb).mpr c
      have hlog : b.log2 < 32 := (Nat.pow_lt_pow_iff_right (by decide : 1 < 2)).mp (Nat.lt_of_le_of_lt l2 (Nat.lt_of_le_of_lt c ha))
      refine ⟨b.log2 + 1, by omega, ?_, ?_⟩
      · have h1 : (n + 1) * 2 ^ (b.log2 + 1) ≤ (n + 1) * (2 * b) := Nat.mul_le_mul_left _ (by omega)
        have h2 : (n + 1) * (2 * b) = 2 * (n * b) + 2 * b := by
          rw [Nat.add_mul, Nat.one_mul, Nat.mul_left_comm]
        omega
      · generalize 2 ^ (b.log2 + 1) = T at l1
        have h1 : (a + 1) * T ≤ (n + 1) * b * T := Nat.mul_le_mul_right _ hlt
        have h2 : ((n + 1) * T - 1) * b = (n + 1) * b * T - b := by
          rw [Nat.sub_mul, Nat.one_mul, Nat.mul_assoc, Nat.mul_assoc, Nat.mul_comm T b]
        rw [h2]
        rw [Nat.add_mul, Nat.one_mul] at h1
        omega
    · have hn0 : n = 0 := by rw [← hn]; exact Nat.div_eq_of_lt (by omega)
      subst hn0
      refine ⟨32, by decide, by decide, ?_⟩
      have h1 : a + 1 ≤ b := by omega
      have h2 : ((0 + 1) * 2 ^ 32 - 1) * (a + 1) ≤ ((0 + 1) * 2 ^ 32 - 1) * b := Nat.mul_le_mul_left _ h1
      refine Nat.le_trans ?_ h2
      omega
  have hp : 1 ≤ (n + 1) * 2 ^ j := Nat.mul_pos (Nat.succ_pos n) (Nat.two_pow_pos j)
  obtain ⟨VP, Vv⟩ := dD_P (c := (n + 1) * 2 ^ j - 1) (k := 1074 - j) (by omega) (by omega)
  obtain ⟨-, c2, -, -⟩ := ddiv_cmp hw hs hsp VP
  have one : FP.Core.one64 = 2 ^ j * 2 ^ (1074 - j) := by
    rw [← Nat.pow_add, show j + (1074 - j) = 1074 by omega]; rfl
  have high : v64 (FP.ddiv w s) ≤ (((((n + 1) * 2 ^ j - 1) * 2 ^ (1074 - j) : Nat)) : Int) := by
    rw [← Vv]
    refine c2 ?_
    rw [Vv, es, ew]
    have : a * 2 ^ k * FP.Core.one64 ≤ ((n + 1) * 2 ^ j - 1) * 2 ^ (1074 - j) * (b * 2 ^ k) := by
      rw [one]
      have e1 : a * 2 ^ k * (2 ^ j * 2 ^ (1074 - j)) = (a * 2 ^ j) * (2 ^ (1074 - j) * 2 ^ k) := by simp only [Nat.mul_assoc, Nat.mul_left_comm, Nat.mul_comm]
      have e2 : ((n + 1) * 2 ^ j - 1) * 2 ^ (1074 - j) * (b * 2 ^ k) = (((n + 1) * 2 ^ j - 1) * b) * (2 ^ (1074 - j) * 2 ^ k) := by simp only [Nat.mul_assoc, Nat.mul_left_comm, Nat.mul_comm]
      rw [e1, e2]
      exact Nat.mul_le_mul_right _ hj3
    exact_mod_cast this
  refine ⟨dl_v cn cs low ?_ (by omega), cn⟩
  refine Int.lt_of_le_of_lt high ?_
  have : ((n + 1) * 2 ^ j - 1) * 2 ^ (1074 - j) < (n + 1) * FP.Core.one64 := by
    rw [one, ← Nat.mul_assoc]
    exact Nat.mul_lt_mul_of_pos_right (by omega) (Nat.two_pow_pos _)
  exact_mod_cast this
/-- what is left over -/
theorem rmd_v {w s : UInt64} {a b k : Nat} (hw : DP w) (hs : DP s) (ha : a < 2 ^ 32) (hb : 0 < b) (hk : k ≤ 2045) (ew : v64 w = ((a * 2 ^ k : Nat) : Int)) (es : v64 s = ((b * 2 ^ k : Nat) : Int)) : rmok w s ∧ DP (rmd w s) ∧ v64 (rmd w s) = ((a % b * 2 ^ k : Nat) : Int) := by
  obtain ⟨q1, q2⟩ := quo_v hw hs ha hb ew es
  have hnb : a / b * b ≤ a := Nat.div_mul_le_self a b
  have hna : a / b ≤ a := Nat.div_le_self a b
  have hmod : a % b = a - a / b * b := by
    have := Nat.div_add_mod a b
    rw [Nat.mul_comm] at this; omega
  obtain ⟨lP, lv⟩ := ld_P (n := a / b) (by omega)
  obtain ⟨pP, pv⟩ := dD_P (c := a / b * b) (k := k) (by omega) hk
  obtain ⟨mP, mv⟩ := dD_P (c := a % b) (k := k) (by omega) hk
  have hm := dmul_v (a := ld (dl (FP.ddiv w s))) (b := s) (V := dD false (a / b * b) k) (by rw [q1]; exact lP.1) hs.1 pP.1 (by
    rw [q1, lv, es, pv]
    have : a / b * FP.Core.one64 * (b * 2 ^ k) = a / b * b * 2 ^ k * FP.Core.one64 := by simp only [Nat.mul_assoc, Nat.mul_left_comm, Nat.mul_comm]
    exact_mod_cast this)
  have hmP : DP (FP.dmul (ld (dl (FP.ddiv w s))) s) := ⟨hm.2.1, by rw [hm.2.2, q1, lP.2, hs.2]; rfl⟩
  have hr := dsub_v hw hmP mP.1 (by
    rw [ew, hm.1, pv, mv, hmod, Nat.sub_mul]
    have := Nat.mul_le_mul_right (2 ^ k) hnb
    omega) mP.ge
  have h0 : 0 < v64 s := by
    rw [es]
    exact_mod_cast Nat.mul_pos hb (Nat.two_pow_pos k)
  refine ⟨⟨?_, n64_of ((FP.Core.notNaN_iff _).mpr q2), n64_fin hm.2.1, n64_fin hr.2.1⟩, hr.2, hr.1.trans mv⟩
  have hz : FP.dcmp s 0 = some .gt := FP.Core.dcmp_gt.mpr ⟨(FP.Core.notNaN_iff s).mp (DFin.nn hs.1), by rw [FP.Core.val64_zero]; exact fun z => (by cases z), by rw [FP.Core.zval64_zero]; exact h0⟩
  rw [hz, zfc_v]; decide
theorem drem_v {w s : UInt64} {a b k : Nat} (hw : DP w) (hs : DP s) (hb : 0 < b) (ew : v64 w = ((a * 2 ^ k : Nat) : Int)) (es : v64 s = ((b * 2 ^ k : Nat) : Int)) : DP (FP.drem w s) ∧ v64 (FP.drem w s) = ((a % b * 2 ^ k : Nat) : Int) := by
  have ew0 := hw.v
  have es0 := hs.v
  obtain ⟨⟨sw, c, q, ea⟩, sa⟩ := hw
  obtain ⟨⟨ss, d, r, eb⟩, sb⟩ := hs
  rw [ea] at sa
  have h1 : sw = false := sa
  subst h1
  rw [ea] at ew0
  rw [eb] at es0
  have hk := Nat.two_pow_pos k
  have e1 : FP.Core.inUnits c q FP.Core.b64.qmin = a * 2 ^ k := by
    have z : (FP.Core.inUnits c q FP.Core.b64.qmin : Int) = ((a * 2 ^ k : Nat) : Int) := ew0.symm.trans ew
    exact_mod_cast z
  have e2 : FP.Core.inUnits d r FP.Core.b64.qmin = b * 2 ^ k := by
    have z : (FP.Core.inUnits d r FP.Core.b64.qmin : Int) = ((b * 2 ^ k : Nat) : Int) := es0.symm.trans es
    exact_mod_cast z
  have hd : d ≠ 0 := fun z => by
    unfold FP.Core.inUnits at e2
    rw [z, Nat.zero_mul] at e2
    have := Nat.mul_pos hb hk
    omega
  obtain ⟨c', q', hv, hu⟩ := FP.Core.drem_exact ea eb hd
  refine ⟨⟨⟨false, c', q', hv⟩, by rw [hv]; rfl⟩, ?_⟩
  unfold v64 FP.Core.zval
  rw [hv]
  show ((FP.Core.inUnits c' q' FP.Core.b64.qmin : Nat) : Int) = _
  rw [hu, e1, e2, Nat.mul_mod_mul_right]
end DQ
/-! WHAT IS LEFT OVER, BOTH WAYS -/
section RS
/-- a float that is rounded and is itself a number -/
theorem rd_exact32 {x V : UInt32} {s : Bool} {c : Nat} {q e0 : Int} (h : FP.Core.val32 x = FP.Core.round FP.Core.b32 (.fin s c q)) (hV : FP.Core.FFin V) (h0 : e0 ≤ FP.Core.b32.qmin) (h0e : e0 ≤ q) (hu : FP.Core.signed s (FP.Core.inUnits c q e0) = v32 V * ((2 ^ (FP.Core.b32.qmin - e0).toNat : Nat) : Int)) : v32 x = v32 V ∧ FP.Core.sgn (FP.Core.val32 x) = s := by
  have nV := (FP.Core.notNaN_iff32 V).mp (FFin.nn hV)
  have h1 : v32 x ≤ v32 V := by
    unfold v32; rw [h]
    exact FP.Core.zval_round_le FP.Core.good_b32 (FP.Core.val32_fits V) nV h0 h0e (Int.le_of_eq hu)
  have h2 : v32 V ≤ v32 x := by
    unfold v32; rw [h]
    exact FP.Core.zval_round_ge FP.Core.good_b32 (FP.Core.val32_fits V) nV h0 h0e (Int.le_of_eq hu.symm)
  exact ⟨Int.le_antisymm h1 h2, by rw [h]; exact FP.Core.sgn_roundRatio _ _ _ _ _⟩
def fD (c k : Nat) : UInt32 := FP.Core.of32 (FP.Core.round FP.Core.b32 (.fin false c ((k : Int) - 149)))
theorem fD_v {c k : Nat} (hc : c < 2 ^ 24) (hk : k ≤ 253) : FP.Core.FFin (fD c k) ∧ v32 (fD c k) = ((c * 2 ^ k : Nat) : Int) := by
  have hv : FP.Core.val32 (fD c k) = FP.Core.round FP.Core.b32 (.fin false c ((k : Int) - 149)) := FP.Core.val32_of32 (FP.Core.round_fits FP.Core.good_b32 _)
  have hm : FP.Core.b32.qmax = 104 := by decide
  obtain ⟨c', q', e, u⟩ := FP.Core.round_exact FP.Core.good_b32 false (c := c) (q := (k : Int) - 149) hc (by rw [FP.Core.qmin_b32]; omega) (by rw [hm]; omega)
  rw [e] at hv
  refine ⟨⟨false, c', q', hv⟩, ?_⟩
  unfold v32 FP.Core.zval
  rw [hv]
  show ((FP.Core.inUnits c' q' FP.Core.b32.qmin : Nat) : Int) = _
  rw [u]
  unfold FP.Core.inUnits
  rw [FP.Core.qmin_b32, show ((k : Int) - 149 - -149).toNat = k by omega]
/-- an eighth of a whole number -/
theorem E8_v {e : Nat} (he : e < 2 ^ 24) : v32 (E8 (e : Int)) = ((e * 2 ^ 146 : Nat) : Int) ∧ FP.Core.sgn (FP.Core.val32 (E8 (e : Int))) = false := by
  have ha := fI_IB (n := (e : Int)) (by omega) (by omega)
  have va := fI_v (n := (e : Int)) (by omega) (by omega)
  have hb := IB_8
  obtain ⟨VF, Vv⟩ := fD_v (c := e) (k := 146) he (by decide)
  obtain ⟨s, c, q, ea⟩ := ha.fin
  obtain ⟨t, d, r, eb⟩ := hb.fin
  have fa := FP.Core.val32_fits (fI (e : Int))
  have fb := FP.Core.val32_fits 1040187392
  have sa := ha.sgn
  have sb := hb.sgn
  have za : v32 (fI (e : Int)) = FP.Core.zval FP.Core.b32 (.fin s c q) := by unfold v32; rw [ea]
  have zb : v32 1040187392 = FP.Core.zval FP.Core.b32 (.fin t d r) := by unfold v32; rw [eb]
  rw [ea] at fa sa
  rw [eb] at fb sb
  have hs : s = false := sa
  have ht : t = false := sb
  obtain ⟨h1, h2, h3⟩ := FP.Core.product_units fa fb
  have hm := FP.Core.val32_fmul (fI (e : Int)) 1040187392
  rw [ea, eb, h1] at hm
  subst hs; subst ht
  have hq : FP.Core.b32.qmin - 2 * FP.Core.b32.qmin = -FP.Core.b32.qmin := by omega
  have hqn : 2 * FP.Core.b32.qmin ≤ FP.Core.b32.qmin := by have := FP.Core.qmin_b32; omega
  have hr := rd_exact32 (x := E8 (e : Int)) (e0 := 2 * FP.Core.b32.qmin) hm VF hqn h2 (by
    rw [h3, hq, FP.Core.pow_qmin32]
    have e1 : v32 (fI (e : Int)) = (FP.Core.zmag FP.Core.b32 (.fin false c q) : Int) := za
    have e2 : v32 1040187392 = (FP.Core.zmag FP.Core.b32 (.fin false d r) : Int) := zb
    show ((FP.Core.zmag FP.Core.b32 (.fin false c q) * FP.Core.zmag FP.Core.b32 (.fin false d r) : Nat) : Int) = v32 (fD e 146) * (FP.Core.one32 : Int)
    rw [Int.natCast_mul, ← e1, ← e2, va, Vv]
    have h8 : v32 1040187392 = ((2 ^ 146 : Nat) : Int) := by unfold v32; decide +kernel
    rw [h8, Int.natCast_mul]
    generalize ((2 ^ 146 : Nat) : Int) = K
    rw [Int.mul_assoc, Int.mul_assoc, Int.mul_comm K (FP.Core.one32 : Int)])
  exact ⟨hr.1.trans Vv, hr.2⟩
theorem f2d_mag {a : UInt32} (ha : FP.Core.FFin a) : (FP.f2d a).toNat % 2 ^ 63 < 1200 * 2 ^ 52 := by
  obtain ⟨h1, h2, -⟩ := f2d_v ha
  have hz := FP.Core.FFin.zval_lt ha
  have e1 : (v64 (FP.f2d a)).natAbs = FP.Core.unitsOf FP.Core.b64 ((FP.f2d a).toNat % 2 ^ 63) := by
    unfold v64 FP.Core.zval
    rw [FP.Core.natAbs_signed]
    exact FP.Core.zmag_bits ((FP.Core.notNaN_iff _).mp (DFin.nn h2))
  have e2 : (v32 a).natAbs = FP.Core.zmag FP.Core.b32 (FP.Core.val32 a) := by
    unfold v32 FP.Core.zval
    rw [FP.Core.natAbs_signed]
  rw [h1, Int.natAbs_mul, Int.natAbs_natCast, e2] at e1
  have e3 := FP.Core.unitsOf_start (f := FP.Core.b64) (K := 1200) (by decide)
  have t64 : FP.Core.b64.tails = 2 ^ 52 := FP.Core.tails_b64
  rw [t64] at e3
  have hlt : FP.Core.unitsOf FP.Core.b64 ((FP.f2d a).toNat % 2 ^ 63) < FP.Core.unitsOf FP.Core.b64 (1200 * 2 ^ 52) := by
    rw [← e1, e3]
    have p925 := Nat.two_pow_pos 925
    have l1 : FP.Core.zmag FP.Core.b32 (FP.Core.val32 a) * 2 ^ 925 < (FP.Core.b32.tails * 2 ^ (FP.Core.b32.exps - 2)) * 2 ^ 925 := Nat.mul_lt_mul_of_pos_right hz p925
    refine Nat.lt_of_lt_of_le l1 ?_
    decide +kernel
  exact FP.Core.unitsOf_lt_iff.mp hlt
/-- a float's value and a step are whole multiples of a unit -/
theorem units_of {c e m t : Nat} (hc : c < 2 ^ 24) (he : 0 < e) (ht : 1064 ≤ t ∧ t ≤ 1071) (hv : c * 2 ^ m ≤ 2 ^ 1095) : ∃ a b k : Nat, a < 2 ^ 32 ∧ 0 < b ∧ k ≤ 2045 ∧ c * 2 ^ m = a * 2 ^ k ∧ e * 2 ^ t = b * 2 ^ k := by
  by_cases h : m ≤ t
  · refine ⟨c, e * 2 ^ (t - m), m, by omega, Nat.mul_pos he (Nat.two_pow_pos _), by omega, rfl, ?_⟩
    rw [Nat.mul_assoc, ← Nat.pow_add, show t - m + m = t by omega]
  · have e1 : c * 2 ^ m = c * 2 ^ (m - t) * 2 ^ t := by
      rw [Nat.mul_assoc, ← Nat.pow_add, show m - t + t = m by omega]
    refine ⟨c * 2 ^ (m - t), e, t, ?_, he, by omega, e1, rfl⟩
    have e2 : (2 : Nat) ^ 1095 = 2 ^ (1095 - t) * 2 ^ t := by rw [← Nat.pow_add, show 1095 - t + t = 1095 by omega]
    rw [e1, e2] at hv
    have h3 := Nat.le_of_mul_le_mul_right hv (Nat.two_pow_pos t)
    have h4 : (2 : Nat) ^ (1095 - t) ≤ 2 ^ 31 := Nat.pow_le_pow_right (by decide) (by omega)
    omega
theorem okv_IB {v : UInt32} (h : v.toNat ≤ 1241513984) : IB v ((2097152 : Int) * (FP.Core.one32 : Int)) := by
  refine ⟨by omega, ?_⟩
  have e : (2097152 : Int) * (FP.Core.one32 : Int) = v32 1241513984 := by unfold v32; decide +kernel
  rw [e, unI (by omega), unI (by decide)]
  have := (FP.Core.unitsOf_le_iff (f := FP.Core.b32)).mpr h
  exact Int.ofNat_le.mpr this
/-- a float, as a double: c times 2^m units -/
theorem okv_w {v : UInt32} (h : v.toNat ≤ 1241513984) : ∃ c m : Nat, c < 2 ^ 24 ∧ c * 2 ^ m ≤ 2 ^ 1095 ∧ v64 (FP.f2d v) = ((c * 2 ^ m : Nat) : Int) ∧ DP (FP.f2d v) ∧ 925 ≤ m ∧ v32 v = ((c * 2 ^ (m - 925) : Nat) : Int) := by
  have hI := okv_IB h
  obtain ⟨s, c, q, ea⟩ := hI.fin
  have fa := FP.Core.val32_fits v
  have sa := hI.sgn
  have h2 := hI.2
  obtain ⟨e1, e2, e3⟩ := f2d_v hI.fin
  rw [ea] at fa sa
  have hs : s = false := sa
  subst hs
  have hq1 : -149 ≤ q := by have := fa.2.1; rw [FP.Core.qmin_b32] at this; exact this
  have e4 : v32 v = ((c * 2 ^ (q + 149).toNat : Nat) : Int) := by
    unfold v32 FP.Core.zval
    rw [ea]
    show ((c * 2 ^ (q - FP.Core.b32.qmin).toNat : Nat) : Int) = _
    rw [FP.Core.qmin_b32, show q - -149 = q + 149 by omega]
  have e5 : c * 2 ^ ((q + 149).toNat + 925) = (c * 2 ^ (q + 149).toNat) * 2 ^ 925 := by rw [Nat.pow_add, Nat.mul_assoc]
  refine ⟨c, (q + 149).toNat + 925, fa.1, ?_, ?_, ⟨e2, by rw [e3, ea]; rfl⟩, by omega, ?_⟩
  · rw [e5]
    rw [e4] at h2
    have h3 : c * 2 ^ (q + 149).toNat ≤ 2097152 * FP.Core.one32 := by
      have e6 : ((2097152 : Int) * (FP.Core.one32 : Int)) = ((2097152 * FP.Core.one32 : Nat) : Int) := rfl
      rw [e6] at h2
      exact Int.ofNat_le.mp h2
    refine Nat.le_trans (Nat.mul_le_mul_right (2 ^ 925) h3) ?_
    decide +kernel
  · rw [e1, e4, e5]
    exact (Int.natCast_mul _ _).symm
  · rw [e4, show (q + 149).toNat + 925 - 925 = (q + 149).toNat by omega]
theorem E8_d {e : Nat} (he : e < 2 ^ 24) : v64 (FP.f2d (E8 (e : Int))) = ((e * 2 ^ 1071 : Nat) : Int) ∧ DP (FP.f2d (E8 (e : Int))) := by
  obtain ⟨h1, h2⟩ := E8_v he
  obtain ⟨e1, e2, e3⟩ := f2d_v (E8_fin (e : Int))
  refine ⟨?_, e2, by rw [e3, h2]⟩
  rw [e1, h1, ← Int.natCast_mul, Nat.mul_assoc, ← Nat.pow_add]
theorem i2d_P {e : Nat} (he : e < 2 ^ 31) : DP (FP.i2d (Int32.ofInt (e : Int))) ∧ v64 (FP.i2d (Int32.ofInt (e : Int))) = (e : Int) * (FP.Core.one64 : Int) := by
  have z : (Int32.ofInt (e : Int)).toInt = e := zi_toInt ⟨by omega, by omega⟩
  have h := FP.Core.i2d_int (Int32.ofInt (e : Int))
  rw [z] at h
  have hv := FP.Core.val64_i2d (Int32.ofInt (e : Int))
  rw [z] at hv
  have hd : FP.Core.ofInt (e : Int) = .fin false e 0 := by
    unfold FP.Core.ofInt
    rw [decide_eq_false (by omega)]; rfl
  rw [hd] at hv
  refine ⟨⟨FP.Core.i2d_fin _, ?_⟩, FP.Core.DInt_zval h⟩
  show FP.Core.sgn (FP.Core.val64 (FP.i2d (Int32.ofInt (e : Int)))) = false
  rw [hv]; exact FP.Core.sgn_roundRatio _ _ _ _ _
theorem E10_d {e : Nat} (he : e < 2 ^ 24) : v64 (E10 (e : Int)) = ((e * 2 ^ 1064 : Nat) : Int) ∧ DP (E10 (e : Int)) := by
  obtain ⟨iP, iv⟩ := i2d_P (e := e) (by omega)
  obtain ⟨VP, Vv⟩ := dD_P (c := e) (k := 1064) (by omega) (by decide)
  have cF : FP.Core.DFin 4562146422526312448 := by rw [FP.Core.fin_bits]; decide
  have cv : v64 4562146422526312448 = ((2 ^ 1064 : Nat) : Int) := by unfold v64; decide +kernel
  have cs : FP.Core.sgn (FP.Core.val64 4562146422526312448) = false := by decide +kernel
  have h := dmul_v iP.1 cF VP.1 (by
    rw [iv, cv, Vv, Int.natCast_mul]
    generalize ((2 ^ 1064 : Nat) : Int) = K
    rw [Int.mul_assoc, Int.mul_assoc, Int.mul_comm K (FP.Core.one64 : Int)])
  exact ⟨h.1.trans Vv, h.2.1, h.2.2.trans (by rw [iP.2, cs]; rfl)⟩
theorem left_n' {v : UInt32} (hv : v.toNat ≤ 1241513984) {e : Int} (h1 : 1 ≤ e) (h2 : e ≤ 1000000) : rmok (FP.f2d v) (E10 e) ∧ rmd (FP.f2d v) (E10 e) = FP.drem (FP.f2d v) (E10 e) ∧ vf_n64 (E10 e) ∧ vf_n64 (FP.drem (FP.f2d v) (E10 e)) := by
  obtain ⟨n, rfl⟩ : ∃ n : Nat, e = n := ⟨e.toNat, by omega⟩
  obtain ⟨c, m, c1, c2, c3, c4, -, -⟩ := okv_w hv
  obtain ⟨d1, d2⟩ := E10_d (e := n) (by omega)
  obtain ⟨a, b, k, a1, a2, a3, a4, a5⟩ := units_of (e := n) (t := 1064) c1 (by omega) (by decide) c2
  rw [a4] at c3
  rw [a5] at d1
  obtain ⟨r1, r2, r3⟩ := rmd_v c4 d2 a1 a2 a3 c3 d1
  obtain ⟨s1, s2⟩ := drem_v c4 d2 a2 c3 d1
  exact ⟨r1, r2.inj s1 (r3.trans s2.symm), n64_fin d2.1, n64_fin s1.1⟩
theorem rest_n' {v : UInt32} (hv : v.toNat ≤ 1241513984) {e : Int} (h1 : 1 ≤ e) (h2 : e ≤ 80000) : vf_n64 (FP.f2d (E8 e)) ∧ rmok (FP.f2d v) (FP.f2d (E8 e)) ∧ rmd (FP.f2d v) (FP.f2d (E8 e)) = FP.f2d (FP.frem v (E8 e)) ∧ vf_n32 (FP.frem v (E8 e)) ∧ vf_n64 (FP.f2d (FP.frem v (E8 e))) := by
  obtain ⟨n, rfl⟩ : ∃ n : Nat, e = n := ⟨e.toNat, by omega⟩
  obtain ⟨c, m, c1, c2, c3, c4, c5, c6⟩ := okv_w hv
  obtain ⟨d1, d2⟩ := E8_d (e := n) (by omega)
  obtain ⟨g1, g2⟩ := E8_v (e := n) (by omega)
  obtain ⟨a, b, k, a1, a2, a3, a4, a5⟩ := units_of (e := n) (t := 1071) c1 (by omega) (by decide) c2
  have c3' := c3
  have d1' := d1
  rw [a4] at c3'
  rw [a5] at d1'
  obtain ⟨r1, r2, r3⟩ := rmd_v c4 d2 a1 a2 a3 c3' d1'
  have hI := okv_IB hv
  have sv := hI.sgn
  obtain ⟨s, x, q, ea⟩ := hI.fin
  obtain ⟨t, d, r, eb⟩ := E8_fin (n : Int)
  rw [ea] at sv
  have hs : s = false := sv
  subst hs
  rw [eb] at g2
  have ht : t = false := g2
  subst ht
  have u1 : FP.Core.inUnits x q FP.Core.b32.qmin = c * 2 ^ (m - 925) := by
    have z : v32 v = ((FP.Core.inUnits x q FP.Core.b32.qmin : Nat) : Int) := by unfold v32 FP.Core.zval; rw [ea]; rfl
    rw [c6] at z
    exact Int.ofNat.inj z.symm
  have u2 : FP.Core.inUnits d r FP.Core.b32.qmin = n * 2 ^ 146 := by
    have z : v32 (E8 (n : Int)) = ((FP.Core.inUnits d r FP.Core.b32.qmin : Nat) : Int) := by unfold v32 FP.Core.zval; rw [eb]; rfl
    rw [g1] at z
    exact Int.ofNat.inj z.symm
  have hd : d ≠ 0 := fun z => by
    unfold FP.Core.inUnits at u2
    rw [z, Nat.zero_mul] at u2
    have := Nat.mul_pos (show 0 < n by omega) (Nat.two_pow_pos 146)
    omega
  obtain ⟨c', q', hf, hu⟩ := FP.Core.frem_exact ea eb hd
  have hF : FP.Core.FFin (FP.frem v (E8 (n : Int))) := ⟨false, c', q', hf⟩
  obtain ⟨f1, f2, f3⟩ := f2d_v hF
  have fP : DP (FP.f2d (FP.frem v (E8 (n : Int)))) := ⟨f2, f3.trans (by
    have : FP.Core.sgn (FP.Core.val32 (FP.Core.frem v (E8 (n : Int)))) = false := by rw [hf]; rfl
    exact this)⟩
  have f4 : v64 (FP.f2d (FP.frem v (E8 (n : Int)))) = ((a % b * 2 ^ k : Nat) : Int) := by
    have z : v32 (FP.frem v (E8 (n : Int))) = ((c * 2 ^ (m - 925) % (n * 2 ^ 146) : Nat) : Int) := by
      have z1 : v32 (FP.Core.frem v (E8 (n : Int))) = ((FP.Core.inUnits c' q' FP.Core.b32.qmin : Nat) : Int) := by unfold v32 FP.Core.zval; rw [hf]; rfl
      rw [hu, u1, u2] at z1
      exact z1
    rw [f1, z, ← Int.natCast_mul, ← Nat.mul_mod_mul_right, ← Nat.mul_mod_mul_right, Nat.mul_assoc, ← Nat.pow_add, show m - 925 + 925 = m by omega, a4, Nat.mul_assoc n, ← Nat.pow_add, a5]
  exact ⟨n64_fin d2.1, r1, r2.inj fP (r3.trans f4.symm), n32_fin hF, n64_fin f2⟩
end RS
/-! WHOLE NUMBERS NEAR A DOUBLE -/
section NE
theorem dsub_le {a b V : UInt64} (ha : FP.Core.DFin a) (hb : FP.Core.DFin b) (hV : FP.Core.DFin V) : (v64 a - v64 b ≤ v64 V → v64 (FP.dsub a b) ≤ v64 V) ∧ (v64 V ≤ v64 a - v64 b → v64 V ≤ v64 (FP.dsub a b)) := by
  obtain ⟨s, c, q, ea⟩ := ha
  obtain ⟨t, d, r, eb⟩ := hb
  have fa := FP.Core.val64_fits a
  have fb := FP.Core.negate_fits (FP.Core.val64_fits b)
  rw [ea] at fa
  rw [eb] at fb
  obtain ⟨sg, n, e, h1, h2, h3⟩ := FP.Core.sum_units (f := FP.Core.b64) (t := !t) (d := d) (r := r) fa fb
  have hsum := FP.Core.val64_dsub a b
  have en : FP.Core.negate (.fin t d r) = .fin (!t) d r := rfl
  rw [ea, eb, en, h1] at hsum
  have hz : FP.Core.zval FP.Core.b64 (.fin s c q) + FP.Core.zval FP.Core.b64 (.fin (!t) d r) = v64 a - v64 b := by
    rw [v64_fin ea, v64_fin eb]
    have := FP.Core.zval_negate FP.Core.b64 (.fin t d r)
    rw [en] at this
    rw [this]; omega
  have nV := (FP.Core.notNaN_iff V).mp (DFin.nn hV)
  have hx : v64 (FP.dsub a b) = FP.Core.zval FP.Core.b64 (FP.Core.round FP.Core.b64 (.fin sg n e)) := by
    show FP.Core.zval FP.Core.b64 (FP.Core.val64 (FP.Core.dsub a b)) = _
    rw [hsum]
  rw [hx]
  constructor
  · intro h
    refine FP.Core.zval_round_le FP.Core.good_b64 (e0 := FP.Core.b64.qmin) (FP.Core.val64_fits V) nV (Int.le_refl _) h2 ?_
    rw [h3, hz, Int.sub_self]
    show v64 a - v64 b ≤ v64 V * ((1 : Nat) : Int)
    omega
  · intro h
    refine FP.Core.zval_round_ge FP.Core.good_b64 (e0 := FP.Core.b64.qmin) (FP.Core.val64_fits V) nV (Int.le_refl _) h2 ?_
    rw [h3, hz, Int.sub_self]
    show v64 V * ((1 : Nat) : Int) ≤ v64 a - v64 b
    omega
theorem zd {x y : UInt64} (hx : FP.Core.val64 x ≠ .nan) (hy : FP.Core.val64 y ≠ .nan) (op : CmpOp) : (zfc (FP.dcmp x y) op < 0 ↔ v64 x < v64 y) ∧ (0 < zfc (FP.dcmp x y) op ↔ v64 y < v64 x) ∧ (zfc (FP.dcmp x y) op = 0 ↔ v64 x = v64 y) := by
  have e : FP.dcmp x y = some (compare (v64 x) (v64 y)) := FP.Core.dcmp_zval hx hy
  rw [e, zfc_v]
  rcases Int.lt_trichotomy (v64 x) (v64 y) with c | c | c
  · rw [(FP.Core.compare_lt_iff _ _).mpr c]
    exact ⟨⟨fun _ => c, fun _ => by decide⟩, ⟨fun z => absurd z (by decide), fun z => by omega⟩, ⟨fun z => absurd z (by decide), fun z => by omega⟩⟩
  · rw [(FP.Core.compare_eq_iff _ _).mpr c]
    exact ⟨⟨fun z => absurd z (by decide), fun z => by omega⟩, ⟨fun z => absurd z (by decide), fun z => by omega⟩, ⟨fun _ => c, fun _ => rfl⟩⟩
  · rw [(FP.Core.compare_gt_iff _ _).mpr c]
    exact ⟨⟨fun z => absurd z (by decide), fun z => by omega⟩, ⟨fun _ => c, fun _ => by decide⟩, ⟨fun z => absurd z (by decide), fun z => by omega⟩⟩
theorem Upos : 0 < (FP.Core.one64 : Int) := Int.ofNat_lt.mpr FP.Core.one64_pos
theorem ubelow {a b X : Int} (h1 : a * (FP.Core.one64 : Int) ≤ X) (h2 : X < (b + 1) * (FP.Core.one64 : Int)) : a ≤ b := by
  have h := Int.lt_of_mul_lt_mul_right (Int.lt_of_le_of_lt h1 h2) (Int.le_of_lt Upos)
  omega
theorem ld_v {n : Int} (h : n.natAbs ≤ 9007199254740992) : v64 (ld n) = n * (FP.Core.one64 : Int) ∧ FP.Core.DFin (ld n) := by
  have e : (Int64.ofInt n).toInt = n := Int64.toInt_ofInt_of_le (by omega) (by omega)
  have h2 := FP.Core.l2d_int (a := Int64.ofInt n) (by rw [e]; omega)
  rw [e] at h2
  exact ⟨FP.Core.DInt_zval h2, FP.Core.l2d_fin _⟩
/-- finite and below 2^34 -/
def DS (d : UInt64) : Prop := FP.Core.DFin d ∧ (v64 d).natAbs < 17179869184 * FP.Core.one64
theorem DS.neg {d : UInt64} (h : DS d) : DS (FP.dneg d) ∧ v64 (FP.dneg d) = -(v64 d) ∧ FP.Core.sgn (FP.Core.val64 (FP.dneg d)) = !(FP.Core.sgn (FP.Core.val64 d)) := by
  obtain ⟨⟨s, c, q, e⟩, h2⟩ := h
  have hv := FP.val64_dneg d
  have e2 : v64 (FP.dneg d) = -(v64 d) := by
    unfold v64
    rw [hv]; exact FP.Core.zval_negate _ _
  rw [e] at hv
  refine ⟨⟨⟨!s, c, q, hv⟩, by rw [e2, Int.natAbs_neg]; exact h2⟩, e2, ?_⟩
  rw [hv, e]; rfl
theorem DS.nn {d : UInt64} (h : DS d) : FP.Core.val64 d ≠ .nan := (FP.Core.notNaN_iff d).mp (DFin.nn h.1)
/-- the whole part, towards nought -/
theorem dl_t {d : UInt64} (h : DS d) : ∃ n : Nat, n < 17179869184 ∧ (FP.Core.sgn (FP.Core.val64 d) = false → dl d = n ∧ (n : Int) * (FP.Core.one64 : Int) ≤ v64 d ∧ v64 d < ((n : Int) + 1) * (FP.Core.one64 : Int)) ∧ (FP.Core.sgn (FP.Core.val64 d) = true → dl d = -(n : Int) ∧ (n : Int) * (FP.Core.one64 : Int) ≤ -(v64 d) ∧ -(v64 d) < ((n : Int) + 1) * (FP.Core.one64 : Int)) := by
  have e := FP.Core.d2l_val h.nn
  have hz : (v64 d).natAbs = FP.Core.zmag FP.Core.b64 (FP.Core.val64 d) := by unfold v64 FP.Core.zval; rw [FP.Core.natAbs_signed]
  have hb := h.2
  rw [hz] at hb
  have hp := FP.Core.one64_pos
  have h1 : FP.Core.zmag FP.Core.b64 (FP.Core.val64 d) / FP.Core.one64 * FP.Core.one64 ≤ FP.Core.zmag FP.Core.b64 (FP.Core.val64 d) := Nat.div_mul_le_self _ _
  have h2 : FP.Core.zmag FP.Core.b64 (FP.Core.val64 d) < (FP.Core.zmag FP.Core.b64 (FP.Core.val64 d) / FP.Core.one64 + 1) * FP.Core.one64 := by
    have := Nat.lt_div_mul_add (a := FP.Core.zmag FP.Core.b64 (FP.Core.val64 d)) hp
    rw [Nat.add_mul, Nat.one_mul]; exact this
  have hn : FP.Core.zmag FP.Core.b64 (FP.Core.val64 d) / FP.Core.one64 < 17179869184 := (Nat.div_lt_iff_lt_mul hp).mpr hb
  generalize FP.Core.zmag FP.Core.b64 (FP.Core.val64 d) / FP.Core.one64 = n at e h1 h2 hn
  have g1 : (n : Int) * (FP.Core.one64 : Int) ≤ (FP.Core.zmag FP.Core.b64 (FP.Core.val64 d) : Int) := by
    rw [← Int.natCast_mul]; exact Int.ofNat_le.mpr h1
  have g2 : (FP.Core.zmag FP.Core.b64 (FP.Core.val64 d) : Int) < ((n : Int) + 1) * (FP.Core.one64 : Int) := by
    have : ((n : Int) + 1) * (FP.Core.one64 : Int) = (((n + 1) * FP.Core.one64 : Nat) : Int) := by rw [Int.natCast_mul]; rfl
    rw [this]; exact Int.ofNat_lt.mpr h2
  refine ⟨n, hn, fun hs => ?_, fun hs => ?_⟩
  · have ev : v64 d = (FP.Core.zmag FP.Core.b64 (FP.Core.val64 d) : Int) := by unfold v64 FP.Core.zval; rw [hs]; rfl
    rw [hs] at e
    refine ⟨?_, by rw [ev]; exact g1, by rw [ev]; exact g2⟩
    unfold dl
    rw [e]
    show max (-2 ^ 63) (min (2 ^ 63 - 1) ((n : Nat) : Int)) = n
    omega
  · have ev : v64 d = -(FP.Core.zmag FP.Core.b64 (FP.Core.val64 d) : Int) := by unfold v64 FP.Core.zval; rw [hs]; rfl
    rw [hs] at e
    refine ⟨?_, by rw [ev, Int.neg_neg]; exact g1, by rw [ev, Int.neg_neg]; exact g2⟩
    unfold dl
    rw [e]
    show max (-2 ^ 63) (min (2 ^ 63 - 1) (-((n : Nat) : Int))) = -(n : Int)
    omega
theorem flo_v {d : UInt64} (h : DS d) : flo d * (FP.Core.one64 : Int) ≤ v64 d ∧ v64 d < (flo d + 1) * (FP.Core.one64 : Int) ∧ (flo d).natAbs ≤ 17179869185 ∧ (FP.Core.sgn (FP.Core.val64 d) = false → flo d = dl d) := by
  obtain ⟨n, hn, hf, ht⟩ := dl_t h
  have hU := Upos
  unfold flo
  by_cases hs : FP.Core.sgn (FP.Core.val64 d) = false
  · obtain ⟨e, h1, h2⟩ := hf hs
    rw [e]
    obtain ⟨l1, l2⟩ := ld_v (n := (n : Int)) (by omega)
    have hz := (zd ((FP.Core.notNaN_iff _).mp (DFin.nn l2)) h.nn CmpOp.l).2.1
    rw [l1] at hz
    rw [if_neg (fun z => by have := hz.mp z; omega)]
    exact ⟨h1, h2, by omega, fun _ => rfl⟩
  · have hs' : FP.Core.sgn (FP.Core.val64 d) = true := by
      cases hq : FP.Core.sgn (FP.Core.val64 d)
      · exact absurd hq hs
      · rfl
    obtain ⟨e, h1, h2⟩ := ht hs'
    rw [e]
    obtain ⟨l1, l2⟩ := ld_v (n := -(n : Int)) (by omega)
    have hz := (zd ((FP.Core.notNaN_iff _).mp (DFin.nn l2)) h.nn CmpOp.l).2.1
    rw [l1, Int.neg_mul] at hz
    have hm : ((n : Int) + 1) * (FP.Core.one64 : Int) = (n : Int) * (FP.Core.one64 : Int) + (FP.Core.one64 : Int) := by rw [Int.add_mul, Int.one_mul]
    rw [hm] at h2
    generalize hP : (n : Int) * (FP.Core.one64 : Int) = Pn at *
    by_cases c : 0 < zfc (FP.dcmp (ld (-(n : Int))) d) CmpOp.l
    · have c2 := hz.mp c
      rw [if_pos c]
      refine ⟨?_, ?_, by omega, fun z => absurd z hs⟩
      · rw [Int.sub_mul, Int.neg_mul, Int.one_mul, hP]; omega
      · rw [show -(n : Int) - 1 + 1 = -(n : Int) by omega, Int.neg_mul, hP]; omega
    · have c2 : ¬ (v64 d < -Pn) := fun z => c (hz.mpr z)
      rw [if_neg c]
      refine ⟨?_, ?_, by omega, fun z => absurd z hs⟩
      · rw [Int.neg_mul, hP]; omega
      · rw [Int.add_mul, Int.neg_mul, Int.one_mul, hP]; omega
theorem ceil_d {d : UInt64} (h : DS d) : -(flo (FP.dneg d)) = if zfc (FP.dcmp (ld (flo d)) d) CmpOp.g < 0 then flo d + 1 else flo d := by
  obtain ⟨n1, n2, -⟩ := h.neg
  obtain ⟨f1, f2, f3, -⟩ := flo_v h
  obtain ⟨g1, g2, g3, -⟩ := flo_v n1
  rw [n2] at g1 g2
  obtain ⟨l1, l2⟩ := ld_v (n := flo d) (by omega)
  have hz := (zd ((FP.Core.notNaN_iff _).mp (DFin.nn l2)) h.nn CmpOp.g).1
  rw [l1] at hz
  generalize flo (FP.dneg d) = g at g1 g2
  generalize hf : flo d = f at f1 f2 hz
  have hU := Upos
  by_cases c : zfc (FP.dcmp (ld f) d) CmpOp.g < 0
  · rw [if_pos c]
    have c2 := hz.mp c
    have a1 : f < -g := by
      refine Int.lt_of_mul_lt_mul_right (a := (FP.Core.one64 : Int)) ?_ (Int.le_of_lt hU)
      rw [Int.neg_mul]; omega
    have a2 : -g < f + 1 + 1 := by
      refine Int.lt_of_mul_lt_mul_right (a := (FP.Core.one64 : Int)) ?_ (Int.le_of_lt hU)
      rw [Int.add_mul g, Int.one_mul] at g2
      rw [Int.add_mul (f + 1), Int.one_mul, Int.neg_mul]; omega
    omega
  · rw [if_neg c]
    have c2 : ¬ f * (FP.Core.one64 : Int) < v64 d := fun z => c (hz.mpr z)
    have a1 : g < -f + 1 := by
      refine Int.lt_of_mul_lt_mul_right (a := (FP.Core.one64 : Int)) ?_ (Int.le_of_lt hU)
      rw [Int.add_mul, Int.neg_mul, Int.one_mul]; omega
    have a2 : -f < g + 1 := by
      refine Int.lt_of_mul_lt_mul_right (a := (FP.Core.one64 : Int)) ?_ (Int.le_of_lt hU)
      rw [Int.neg_mul]; omega
    omega
end NE
/-! THE NEAREST WHOLE NUMBER, BOTH WAYS -/
section NR
theorem if_cg {α : Type} {p q : Prop} [hp : Decidable p] [hq : Decidable q] (h : p ↔ q) (a b : α) : (if p then a else b) = if q then a else b := by
  by_cases c : p
  · rw [if_pos c, if_pos (h.mp c)]
  · rw [if_neg c, if_neg (fun z => c (h.mpr z))]
theorem half_v : v64 4602678819172646912 = ((2 ^ 1073 : Nat) : Int) ∧ FP.Core.DFin 4602678819172646912 := by
  refine ⟨?_, by rw [FP.Core.fin_bits]; decide⟩
  unfold v64; decide +kernel
theorem nea_same {d : UInt64} (h : flo d = dl d) : neaC d = nea d := by
  unfold nea dm neaC
  rw [h]
/-- a magnitude's whole part and its rest, in units -/
theorem parts_of {c k t : Nat} (hc : c < 2 ^ 53) (h1 : t * FP.Core.one64 ≤ c * 2 ^ k) (h2 : c * 2 ^ k < (t + 1) * FP.Core.one64) : ∃ r kk T : Nat, kk ≤ 1073 ∧ FP.Core.one64 = 2 * T * 2 ^ kk ∧ r < 2 ^ 53 ∧ r < 2 * T ∧ c * 2 ^ k = t * FP.Core.one64 + r * 2 ^ kk ∧ (1 ≤ t → 0 < r → 2 * T < 2 ^ 53) := by
  by_cases hk : k < 1074
  · have one : FP.Core.one64 = 2 * 2 ^ (1073 - k) * 2 ^ k := by
      have e : (2 : Nat) * 2 ^ (1073 - k) = 2 ^ (1073 - k + 1) := by rw [Nat.pow_succ, Nat.mul_comm]
      rw [e, ← Nat.pow_add, show 1073 - k + 1 + k = 1074 by omega]; rfl
    generalize 2 ^ (1073 - k) = T at one
    have hp := Nat.two_pow_pos k
    rw [one, ← Nat.mul_assoc] at h1 h2
    have g1 := Nat.le_of_mul_le_mul_right h1 hp
    have g2 := Nat.lt_of_mul_lt_mul_right h2
    rw [Nat.add_mul, Nat.one_mul] at g2
    refine ⟨c - t * (2 * T), k, T, by omega, one, by omega, by omega, ?_, fun ht _ => ?_⟩
    · rw [one, ← Nat.mul_assoc, ← Nat.add_mul, show t * (2 * T) + (c - t * (2 * T)) = c by omega]
    · have := Nat.mul_le_mul_right (2 * T) ht
      omega
  · have e : c * 2 ^ k = c * 2 ^ (k - 1074) * FP.Core.one64 := by
      have one : FP.Core.one64 = 2 ^ 1074 := rfl
      rw [one, Nat.mul_assoc, ← Nat.pow_add, show k - 1074 + 1074 = k by omega]
    rw [e] at h1 h2
    have g1 := Nat.le_of_mul_le_mul_right h1 FP.Core.one64_pos
    have g2 := Nat.lt_of_mul_lt_mul_right h2
    have et : c * 2 ^ (k - 1074) = t := by omega
    refine ⟨0, 1073, 1, Nat.le_refl _, ?_, by decide, by decide, ?_, fun _ h => absurd h (by decide)⟩
    · have e1 : (2 : Nat) * 1 * 2 ^ 1073 = 2 ^ 1074 := by rw [Nat.mul_one, ← Nat.pow_succ']
      rw [e1]; rfl
    · rw [e, et, Nat.zero_mul, Nat.add_zero]
theorem near_neg {d : UInt64} (h : DS d) (hs : FP.Core.sgn (FP.Core.val64 d) = true) : -(neaC (FP.dneg d)) = nea d := by
  obtain ⟨n1, n2, n3⟩ := h.neg
  rw [hs] at n3
  obtain ⟨t, ht, hd, -⟩ := dl_t n1
  obtain ⟨d1, d2, d3⟩ := hd n3
  obtain ⟨f1, f2, f3, -⟩ := flo_v h
  obtain ⟨hH, hHF⟩ := half_v
  have hU := Upos
  -- the magnitude
  obtain ⟨s, c, q, ed⟩ := h.1
  have fd := FP.Core.val64_fits d
  rw [ed] at fd hs
  have hs2 : s = true := hs
  subst hs2
  have vX : v64 d = -((c * 2 ^ (q - FP.Core.b64.qmin).toNat : Nat) : Int) := by
    unfold v64 FP.Core.zval
    rw [ed]; rfl
  rw [n2, vX, Int.neg_neg] at d2 d3
  have hp := parts_of (c := c) (k := (q - FP.Core.b64.qmin).toNat) (t := t) fd.1 (by
    rw [← Int.natCast_mul] at d2
    exact Int.ofNat_le.mp d2) (by
    have e : ((t : Int) + 1) * (FP.Core.one64 : Int) = (((t + 1) * FP.Core.one64 : Nat) : Int) := by rw [Int.natCast_mul]; rfl
    rw [e] at d3
    exact Int.ofNat_lt.mp d3)
  obtain ⟨r, kk, T, k1, one, r1, r2, eX, rT⟩ := hp
  rw [eX] at vX
  have hpk := Nat.two_pow_pos kk
  have e1073 : (2 : Nat) ^ 1073 = T * 2 ^ kk := by
    have e1 : FP.Core.one64 = 2 * 2 ^ 1073 := by
      have : FP.Core.one64 = 2 ^ 1074 := rfl
      rw [this, ← Nat.pow_succ']
    have e2 : 2 * 2 ^ 1073 = 2 * (T * 2 ^ kk) := by rw [← e1, one, Nat.mul_assoc]
    exact Nat.eq_of_mul_eq_mul_left (by decide) e2
  rw [e1073] at hH
  -- the rest, as the class takes it
  have hDP : DP (FP.dneg d) := ⟨n1.1, n3⟩
  obtain ⟨lP, lv⟩ := ld_P (n := t) (by omega)
  obtain ⟨VP, Vv⟩ := dD_P (c := r) (k := kk) r1 (by omega)
  have hr := dsub_v hDP lP VP.1 (by
    rw [n2, vX, lv, Vv, Int.natCast_add, Int.natCast_mul]
    omega) VP.ge
  have hr1 : v64 (FP.dsub (FP.dneg d) (ld (t : Int))) = ((r * 2 ^ kk : Nat) : Int) := hr.1.trans Vv
  have zr := zd ((FP.Core.notNaN_iff _).mp (DFin.nn hr.2.1)) ((FP.Core.notNaN_iff _).mp (DFin.nn hHF)) CmpOp.l
  rw [hr1, hH] at zr
  -- as the reference does
  obtain ⟨l1, l2⟩ := ld_v (n := flo d) (by omega)
  have hm := fun V hV => dsub_le (a := d) (b := ld (flo d)) (V := V) h.1 l2 hV
  have hmn : FP.Core.val64 (FP.dsub d (ld (flo d))) ≠ .nan := (FP.Core.notNaN_iff _).mp (FP.Core.dsub_out (DFin.nn h.1) l2)
  have zm := zd hmn ((FP.Core.notNaN_iff _).mp (DFin.nn hHF)) CmpOp.l
  rw [hH] at zm
  have eC : neaC (FP.dneg d) = if T * 2 ^ kk < r * 2 ^ kk ∨ (r * 2 ^ kk = T * 2 ^ kk ∧ (t : Int) % 2 = 1) then (t : Int) + 1 else (t : Int) := by
    unfold neaC
    rw [d1]
    have z1 : (0 < zfc (FP.dcmp (FP.dsub (FP.dneg d) (ld (t : Int))) 4602678819172646912) CmpOp.l) ↔ T * 2 ^ kk < r * 2 ^ kk := zr.2.1.trans Int.ofNat_lt
    have z2 : (zfc (FP.dcmp (FP.dsub (FP.dneg d) (ld (t : Int))) 4602678819172646912) CmpOp.l = 0) ↔ r * 2 ^ kk = T * 2 ^ kk := zr.2.2.trans Int.ofNat_inj
    exact if_cg (or_congr z1 (and_congr z2 Iff.rfl)) _ _
  have eN : nea d = if ((T * 2 ^ kk : Nat) : Int) < v64 (FP.dsub d (ld (flo d))) ∨ (v64 (FP.dsub d (ld (flo d))) = ((T * 2 ^ kk : Nat) : Int) ∧ flo d % 2 = 1) then flo d + 1 else flo d := by
    unfold nea dm
    exact if_cg (or_congr zm.2.1 (and_congr zm.2.2 Iff.rfl)) _ _
  rw [eC, eN]
  generalize v64 (FP.dsub d (ld (flo d))) = mu at hm ⊢
  have hTp : 0 < T := by omega
  have hTk := Nat.mul_pos hTp hpk
  have hU2 : (FP.Core.one64 : Int) = 2 * ((T * 2 ^ kk : Nat) : Int) := by rw [one, Nat.mul_assoc, Int.natCast_mul 2]; rfl
  have hXi : v64 d = -((t : Int) * (FP.Core.one64 : Int) + ((r * 2 ^ kk : Nat) : Int)) := by rw [vX, Int.natCast_add, Int.natCast_mul]
  have hrT : r * 2 ^ kk < 2 * (T * 2 ^ kk) := by
    rw [← Nat.mul_assoc]
    exact Nat.mul_lt_mul_of_pos_right r2 hpk
  by_cases r0 : r = 0
  · -- a whole number
    subst r0
    rw [Nat.zero_mul] at hXi hrT ⊢
    have hf : flo d = -(t : Int) := by
      rw [hXi] at f1 f2
      have a1 := ubelow (a := flo d) (b := -(t : Int)) (X := -((t : Int) * (FP.Core.one64 : Int) + ((0 : Nat) : Int))) f1 (by rw [Int.add_mul, Int.neg_mul, Int.one_mul]; omega)
      have a2 := ubelow (a := -(t : Int)) (b := flo d) (X := -((t : Int) * (FP.Core.one64 : Int) + ((0 : Nat) : Int))) (by rw [Int.neg_mul]; omega) f2
      omega
    obtain ⟨ZP, Zv⟩ := dD_P (c := 0) (k := 0) (by decide) (by decide)
    have g := (hm _ ZP.1).1 (by rw [Zv, l1, hf, hXi, Int.neg_mul]; omega)
    rw [Zv] at g
    have g2 : mu ≤ 0 := g
    rw [if_neg (by omega), if_neg (by omega), hf]
  · have hrp : 0 < r * 2 ^ kk := Nat.mul_pos (by omega) hpk
    have hf : flo d = -((t : Int) + 1) := by
      rw [hXi] at f1 f2
      have a1 := ubelow (a := flo d) (b := -((t : Int) + 1)) f1 (by rw [show -((t : Int) + 1) + 1 = -(t : Int) by omega, Int.neg_mul]; omega)
      have a2 := ubelow (a := -((t : Int) + 1)) (b := flo d) (X := -((t : Int) * (FP.Core.one64 : Int) + ((r * 2 ^ kk : Nat) : Int))) (by rw [Int.neg_mul, Int.add_mul, Int.one_mul]; omega) f2
      omega
    have hD : v64 d - v64 (ld (flo d)) = 2 * ((T * 2 ^ kk : Nat) : Int) - ((r * 2 ^ kk : Nat) : Int) := by
      rw [l1, hf, hXi, Int.neg_mul, Int.add_mul, Int.one_mul, hU2]; omega
    rw [hD] at hm
    have hex : 2 * T - r < 2 ^ 53 → mu = 2 * ((T * 2 ^ kk : Nat) : Int) - ((r * 2 ^ kk : Nat) : Int) := fun hb => by
      obtain ⟨WP, Wv⟩ := dD_P (c := 2 * T - r) (k := kk) hb (by omega)
      have e : (((2 * T - r) * 2 ^ kk : Nat) : Int) = 2 * ((T * 2 ^ kk : Nat) : Int) - ((r * 2 ^ kk : Nat) : Int) := by
        rw [Nat.sub_mul, Nat.mul_assoc]; omega
      rw [e] at Wv
      have g := hm _ WP.1
      rw [Wv] at g
      have g1 := g.1 (Int.le_refl _)
      have g2 := g.2 (Int.le_refl _)
      omega
    have gH := hm _ hHF
    rw [hH] at gH
    rcases Nat.lt_trichotomy r T with c1 | c1 | c1
    · have c2 : r * 2 ^ kk < T * 2 ^ kk := Nat.mul_lt_mul_of_pos_right c1 hpk
      have g := gH.2 (by omega)
      rw [if_neg (by omega), hf]
      by_cases t0 : t = 0
      · subst t0
        by_cases e : ((T * 2 ^ kk : Nat) : Int) < mu
        · rw [if_pos (Or.inl e)]; omega
        · rw [if_pos (Or.inr ⟨by omega, by decide⟩)]; omega
      · have e := hex (by have := rT (by omega) (by omega); omega)
        rw [if_pos (Or.inl (by omega))]; omega
    · subst c1
      have g1 := gH.1 (by omega)
      have g2 := gH.2 (by omega)
      have e : mu = ((r * 2 ^ kk : Nat) : Int) := by omega
      rw [hf, e]
      by_cases t2 : (t : Int) % 2 = 1
      · rw [if_pos (Or.inr ⟨rfl, t2⟩), if_neg (by omega)]
      · rw [if_neg (by omega), if_pos (Or.inr ⟨rfl, by omega⟩)]; omega
    · have c2 : T * 2 ^ kk < r * 2 ^ kk := Nat.mul_lt_mul_of_pos_right c1 hpk
      have e := hex (by omega)
      rw [if_pos (Or.inl c2), if_neg (by omega), hf]
theorem near_d {d : UInt64} (h : DS d) : vf_n64 (FP.dsub d (ld (dl d))) ∧ vf_n64 (FP.dsub (FP.dneg d) (ld (dl (FP.dneg d)))) ∧ (if zfc (FP.dcmp d 0) CmpOp.g < 0 then -(neaC (FP.dneg d)) else neaC d) = nea d := by
  refine ⟨n64_of (FP.Core.dsub_out (DFin.nn h.1) (FP.Core.l2d_fin _)), n64_of (FP.Core.dsub_out (DFin.nn h.neg.1.1) (FP.Core.l2d_fin _)), ?_⟩
  have z0 := (zd h.nn (show FP.Core.val64 0 ≠ .nan by rw [FP.Core.val64_zero]; exact fun z => (by cases z)) CmpOp.g).1
  have e0 : v64 0 = 0 := FP.Core.zval64_zero
  rw [e0] at z0
  by_cases hs : FP.Core.sgn (FP.Core.val64 d) = false
  · have h0 : 0 ≤ v64 d := DP.ge ⟨h.1, hs⟩
    rw [if_neg (fun z => by have := z0.mp z; omega)]
    exact nea_same ((flo_v h).2.2.2 hs)
  · have hs' : FP.Core.sgn (FP.Core.val64 d) = true := by
      cases hq : FP.Core.sgn (FP.Core.val64 d)
      · exact absurd hq hs
      · rfl
    by_cases c : zfc (FP.dcmp d 0) CmpOp.g < 0
    · rw [if_pos c]; exact near_neg h hs'
    · rw [if_neg c]
      refine nea_same ?_
      have hU := Upos
      have hx : ¬ v64 d < 0 := fun z => c (z0.mpr z)
      obtain ⟨n, -, -, hn⟩ := dl_t h
      obtain ⟨n1, n2, n3⟩ := hn hs'
      obtain ⟨f1, f2, -⟩ := flo_v h
      have p0 : 0 ≤ (n : Int) * (FP.Core.one64 : Int) := Int.mul_nonneg (by omega) (by omega)
      have a1 := ubelow (a := (n : Int)) (b := 0) (X := 0) (by omega) (by omega)
      have a2 := ubelow (a := flo d) (b := 0) (X := 0) (by omega) (by omega)
      have a3 := ubelow (a := 0) (b := flo d) (X := 0) (by omega) (by omega)
      rw [n1]; omega
end NR
/-! WHAT TURNED TURNS -/
section TDS
theorem mag_of_v {a : UInt64} {K : Nat} (ha : FP.Core.DFin a) (hK : 1 ≤ K) (h : (v64 a).natAbs < 2 ^ 52 * 2 ^ (K - 1)) : a.toNat % 2 ^ 63 < K * 2 ^ 52 := by
  have e1 : (v64 a).natAbs = FP.Core.unitsOf FP.Core.b64 (a.toNat % 2 ^ 63) := by
    unfold v64 FP.Core.zval
    rw [FP.Core.natAbs_signed]
    exact FP.Core.zmag_bits ((FP.Core.notNaN_iff _).mp (DFin.nn ha))
  have e3 := FP.Core.unitsOf_start (f := FP.Core.b64) (K := K) hK
  rw [FP.Core.tails_b64] at e3
  rw [e1, ← e3] at h
  exact FP.Core.unitsOf_lt_iff.mp h
theorem v_of_mag {a : UInt64} {K : Nat} (ha : FP.Core.DFin a) (hK : 1 ≤ K) (h : a.toNat % 2 ^ 63 < K * 2 ^ 52) : (v64 a).natAbs < 2 ^ 52 * 2 ^ (K - 1) := by
  have e1 : (v64 a).natAbs = FP.Core.unitsOf FP.Core.b64 (a.toNat % 2 ^ 63) := by
    unfold v64 FP.Core.zval
    rw [FP.Core.natAbs_signed]
    exact FP.Core.zmag_bits ((FP.Core.notNaN_iff _).mp (DFin.nn ha))
  have e3 := FP.Core.unitsOf_start (f := FP.Core.b64) (K := K) hK
  rw [FP.Core.tails_b64] at e3
  rw [e1, ← e3]
  exact FP.Core.unitsOf_lt_iff.mpr h
theorem td_DS {v : UInt32} (hv : v.toNat ≤ 1241513984) (e : Int) : DS (td v e) := by
  obtain ⟨c, m, c1, c2, c3, c4, -, -⟩ := okv_w hv
  have hm : (FP.f2d v).toNat % 2 ^ 63 < 1055 * 2 ^ 52 := by
    refine mag_of_v c4.1 (by decide) ?_
    rw [c3, Int.natAbs_natCast]
    refine Nat.lt_of_le_of_lt c2 ?_
    decide +kernel
  have h2 := FP.Core.dsub_mag (a := FP.f2d v) (b := td1 e) (K := 1055) hm (td1_mag e) (by decide)
  have h4 : (td v e).toNat % 2 ^ 63 < 1057 * 2 ^ 52 := h2
  have hF : FP.Core.DFin (td v e) := by rw [FP.Core.fin_bits]; omega
  refine ⟨hF, ?_⟩
  have h5 := v_of_mag hF (by decide) h4
  refine Nat.lt_of_lt_of_le h5 ?_
  decide +kernel
theorem okv_td'' {v : UInt32} (h : v.toNat ≤ 1241513984) (e : Int) : vf_n64 (td1 e) ∧ vf_n64 (td v e) ∧ vf_n32 (tf v e) ∧ DF (td v e) ∧ FF (tf v e) := okv_td' h (f2d_mag (okv_fin h))
end TDS
theorem okv_f2d {v : UInt32} (h : okv v) : vf_n64 (FP.f2d v) := okv_f2d' h
theorem okv_g {v : UInt32} (h : okv v) : vf_n32 (FP.fmul v 1148846080) := okv_g' h
theorem okv_rem {v : UInt32} (h : okv v) {e : Int} (h1 : 1 ≤ e) (h2 : e ≤ 80000) : vf_n32 (FP.frem v (E8 e)) ∧ vf_n64 (FP.f2d (FP.frem v (E8 e))) := ⟨(rest_n' h h1 h2).2.2.2.1, (rest_n' h h1 h2).2.2.2.2⟩
theorem okv_left {v : UInt32} (h : okv v) {e : Int} (h1 : 1 ≤ e) (h2 : e ≤ 1000000) : vf_n64 (E10 e) ∧ vf_n64 (FP.drem (FP.f2d v) (E10 e)) := ⟨(left_n' h h1 h2).2.2.1, (left_n' h h1 h2).2.2.2⟩
theorem okv_td {v : UInt32} (h : okv v) {e : Int} (h1 : 0 ≤ e) (h2 : e ≤ 80000) : vf_n64 (td1 e) ∧ vf_n64 (td v e) ∧ vf_n32 (tf v e) ∧ DF (td v e) ∧ FF (tf v e) := okv_td'' h e
theorem dm_num {d : UInt64} (h : DF d) : vf_n64 (dm d) := dm_num' h
theorem DF.mul8 {d : UInt64} (h : DF d) : vf_n64 (FP.dmul 4620693217682128896 d) := DFmul8' h
theorem DF.neg {d : UInt64} (h : DF d) : DF (FP.dneg d) := DFneg' h
theorem FF.mul8 {d : UInt32} (h : FF d) : vf_n32 (FP.fmul 1090519040 d) := FFmul8' h
theorem FF.neg {d : UInt32} (h : FF d) : FF (FP.fneg d) := FFneg' h
theorem DF.q : DF 4598175219545276416 := DFq'
theorem FF.q : FF 1048576000 := FFq'
def turn (d : UInt64) (g : UInt32) (u : Int) : Int :=
  if u = 0 then flo d
  else if u = 1 then (if zfc (FP.dcmp (ld (flo d)) d) CmpOp.g < 0 then flo d + 1 else flo d)
  else if u = 2 then nea d
  else if u = 3 then (if zfc (FP.dcmp d 0) CmpOp.g < 0 then -1 else if 0 < zfc (FP.dcmp d 0) CmpOp.l then 1 else 0)
  else if u = 4 then dl (FP.dmul 4620693217682128896 (if zfc (FP.dcmp d 0) CmpOp.g < 0 then FP.dneg d else d))
  else if u = 5 then dl (FP.dmul 4620693217682128896 (if 0 < zfc (FP.dcmp d 4598175219545276416) CmpOp.l then d else 4598175219545276416))
  else if u = 6 then dl (FP.dmul 4620693217682128896 (if zfc (FP.dcmp d 4598175219545276416) CmpOp.g < 0 then d else 4598175219545276416))
  else if u = 7 then (if zfc (FP.dcmp d 0) CmpOp.g < 0 then -2 else 2)
  else if u = 8 then (if zfc (FP.fcmp g 0) CmpOp.g < 0 then -1 else if 0 < zfc (FP.fcmp g 0) CmpOp.l then 1 else 0)
  else if u = 9 then fl (FP.fmul 1090519040 (if zfc (FP.fcmp g 0) CmpOp.g < 0 then FP.fneg g else g))
  else if u = 10 then fl (FP.fmul 1090519040 (if 0 < zfc (FP.fcmp g 1048576000) CmpOp.l then g else 1048576000))
  else if u = 11 then fl (FP.fmul 1090519040 (if zfc (FP.fcmp g 1048576000) CmpOp.g < 0 then g else 1048576000))
  else (if zfc (FP.fcmp g 0) CmpOp.g < 0 then -2 else 2)
noncomputable def a_bears (m : Nat → Int → Int) (f : Nat → Int → UInt32) (p w : Int) : UInt64 := cif (¬ there m p ∨ w < 0 ∨ w ≥ m 2 p) 13835058055282163712 (FP.f2d (B m f p w))
noncomputable def a_least (m : Nat → Int → Int) (f : Nat → Int → UInt32) (p : Int) : UInt64 := cif (there m p) (FP.f2d (leastv m f p)) 13835058055282163712
noncomputable def a_where (m : Nat → Int → Int) (f : Nat → Int → UInt32) (p : Int) : Int := cif (there m p) (weak m f p) (-2)
noncomputable def a_grams (m : Nat → Int → Int) (f : Nat → Int → UInt32) (p : Int) : Int := cif (there m p) (fl (FP.fmul (leastv m f p) 1148846080)) (-2)
noncomputable def a_rest (m : Nat → Int → Int) (f : Nat → Int → UInt32) (p e : Int) : UInt64 := cif (¬ there m p ∨ e < 1 ∨ e > 80000) 13835058055282163712 (FP.f2d (FP.frem (leastv m f p) (E8 e)))
noncomputable def a_left (m : Nat → Int → Int) (f : Nat → Int → UInt32) (p e : Int) : UInt64 := cif (¬ there m p ∨ e < 1 ∨ e > 1000000) 13835058055282163712 (FP.drem (FP.f2d (leastv m f p)) (E10 e))
noncomputable def a_turned (m : Nat → Int → Int) (f : Nat → Int → UInt32) (p e u : Int) : Int := cif (¬ there m p ∨ e < 0 ∨ e > 80000 ∨ u < 0 ∨ u > 12) (-1000000) (turn (td (leastv m f p) e) (tf (leastv m f p) e) u)
