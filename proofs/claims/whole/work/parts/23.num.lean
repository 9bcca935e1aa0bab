
/-! NUMBERS -/
/-- +0 to 2^21 -/
def okv (v : UInt32) : Prop := v.toNat ≤ 1241513984
theorem B_ok {m : Nat → Int → Int} {f : Nat → Int → UInt32} (h : WF m f) {q z : Int} (hq : live m q) (hz : 0 ≤ z) (hz2 : z < m 2 q) : okv (B m f q z) := sorry
theorem weak_b {m : Nat → Int → Int} {f : Nat → Int → UInt32} (h : WF m f) {q : Int} (hq : live m q) : 0 ≤ weak m f q ∧ weak m f q < m 2 q := by
  have hb := h.b hq.1 hq.2.1
  have hk := wk_b (m := m) (f := f) (p := q) (n := (m 2 q - 1).toNat)
  unfold weak
  omega
theorem least_ok {m : Nat → Int → Int} {f : Nat → Int → UInt32} (h : WF m f) {q : Int} (hq : live m q) : okv (leastv m f q) := B_ok h hq (weak_b h hq).1 (weak_b h hq).2
def DF (d : UInt64) : Prop := FP.Core.DFin d
def FF (d : UInt32) : Prop := FP.Core.FFin d
theorem okv_f2d {v : UInt32} (h : okv v) : vf_n64 (FP.f2d v) := sorry
theorem okv_g {v : UInt32} (h : okv v) : vf_n32 (FP.fmul v 1148846080) := sorry
theorem okv_rem {v : UInt32} (h : okv v) {e : Int} (h1 : 1 ≤ e) (h2 : e ≤ 80000) : vf_n32 (FP.frem v (E8 e)) ∧ vf_n64 (FP.f2d (FP.frem v (E8 e))) := sorry
def E10 (n : Int) : UInt64 := FP.dmul (FP.i2d (Int32.ofInt n)) 4562146422526312448
theorem okv_left {v : UInt32} (h : okv v) {e : Int} (h1 : 1 ≤ e) (h2 : e ≤ 1000000) : vf_n64 (E10 e) ∧ vf_n64 (FP.drem (FP.f2d v) (E10 e)) := sorry
def td1 (e : Int) : UInt64 := FP.dmul (FP.i2d (Int32.ofInt e)) 4593671619917905920
def td (v : UInt32) (e : Int) : UInt64 := FP.dsub (FP.f2d v) (td1 e)
def tf (v : UInt32) (e : Int) : UInt32 := FP.fsub v (E8 e)
theorem okv_td {v : UInt32} (h : okv v) {e : Int} (h1 : 0 ≤ e) (h2 : e ≤ 80000) : vf_n64 (td1 e) ∧ vf_n64 (td v e) ∧ vf_n32 (tf v e) ∧ DF (td v e) ∧ FF (tf v e) := sorry
def dl (d : UInt64) : Int := (FP.d2l d).toInt
theorem dl_eq (d : UInt64) : FP.d2l d = Int64.ofInt (dl d) := (Int64.ofInt_toInt _).symm
theorem dl_b (d : UInt64) : zj (dl d) := by
  have h1 := Int64.le_toInt (FP.d2l d)
  have h2 := Int64.toInt_lt (FP.d2l d)
  unfold dl
  exact ⟨by omega, by omega⟩
def fl (d : UInt32) : Int := (FP.f2l d).toInt
theorem fl_eq (d : UInt32) : FP.f2l d = Int64.ofInt (fl d) := (Int64.ofInt_toInt _).symm
def ld (n : Int) : UInt64 := FP.l2d (Int64.ofInt n)
/-- the greatest whole number not above d -/
def flo (d : UInt64) : Int := if 0 < zfc (FP.dcmp (ld (dl d)) d) CmpOp.l then dl d - 1 else dl d
theorem land1 (n : Int) : Int64.ofInt n &&& Int64.ofInt 1 = Int64.ofInt (n % 2) := by
  apply Int64.toBitVec_inj.mp
  apply BitVec.eq_of_toNat_eq
  simp only [Int64.toBitVec_and, Int64.toBitVec_ofInt, BitVec.toNat_and, BitVec.toNat_ofInt]
  have h1 : ((1 : Int) % (2 : Nat) ^ 64).toNat = 1 := by decide
  have e : ((2 : Nat) ^ 64 : Int) = 18446744073709551616 := by decide
  rw [show ((1 : Int) % ((2 ^ 64 : Nat) : Int)).toNat = 1 from by decide, Nat.and_one_is_mod]
  have e2 : ((2 ^ 64 : Nat) : Int) = 18446744073709551616 := by decide
  rw [e2]
  omega
def dm (d : UInt64) : UInt64 := FP.dsub d (ld (flo d))
def nea (d : UInt64) : Int := if 0 < zfc (FP.dcmp (dm d) 4602678819172646912) CmpOp.l ∨ (zfc (FP.dcmp (dm d) 4602678819172646912) CmpOp.l = 0 ∧ flo d % 2 = 1) then flo d + 1 else flo d
theorem dm_num {d : UInt64} (h : DF d) : vf_n64 (dm d) := sorry
theorem DF.mul8 {d : UInt64} (h : DF d) : vf_n64 (FP.dmul 4620693217682128896 d) := sorry
theorem DF.neg {d : UInt64} (h : DF d) : DF (FP.dneg d) := sorry
theorem FF.mul8 {d : UInt32} (h : FF d) : vf_n32 (FP.fmul 1090519040 d) := sorry
theorem FF.neg {d : UInt32} (h : FF d) : FF (FP.fneg d) := sorry
theorem DF.q : DF 4598175219545276416 := sorry
theorem FF.q : FF 1048576000 := sorry
def turn (d : UInt64) (g : UInt32) (u : Int) : Int :=
  if u = 0 then flo d
  else if u = 1 then (if zfc (FP.dcmp (ld (flo d)) d) CmpOp.g < 0 then flo d + 1 else flo d)
  else if u = 2 then nea d
  else if u = 3 then (if zfc (FP.dcmp d 0) CmpOp.g < 0 then -1 else if 0 < zfc (FP.dcmp d 0) CmpOp.l then 1 else 0)
  else if u = 4 then dl (FP.dmul 4620693217682128896 (if zfc (FP.dcmp d 0) CmpOp.g < 0 then FP.dneg d else d))
  else if u = 5 then dl (FP.dmul 4620693217682128896 (if 0 < zfc (FP.dcmp d 4598175219545276416) CmpOp.l then d else 4598175219545276416))
  else if u = 6 then dl (FP.dmul 4620693217682128896 (if zfc (FP.dcmp d 4598175219545276416) CmpOp.g < 0 then d else 4598175219545276416))
  else if u = 7 then (if zfc (FP.dcmp d 0) CmpOp.g < 0 then -2 else 2)
  else if u = 8 then (if zfc (FP.fcmp g 0) CmpOp.g < 0 then -1 else if 0 < zfc (FP.fcmp g 0) CmpOp.l then 1 else 0)
  else if u = 9 then fl (FP.fmul 1090519040 (if zfc (FP.fcmp g 0) CmpOp.g < 0 then FP.fneg g else g))
  else if u = 10 then fl (FP.fmul 1090519040 (if 0 < zfc (FP.fcmp g 1048576000) CmpOp.l then g else 1048576000))
  else if u = 11 then fl (FP.fmul 1090519040 (if zfc (FP.fcmp g 1048576000) CmpOp.g < 0 then g else 1048576000))
  else (if zfc (FP.fcmp g 0) CmpOp.g < 0 then -2 else 2)
noncomputable def a_bears (m : Nat → Int → Int) (f : Nat → Int → UInt32) (p w : Int) : UInt64 := cif (¬ there m p ∨ w < 0 ∨ w ≥ m 2 p) 13835058055282163712 (FP.f2d (B m f p w))
noncomputable def a_least (m : Nat → Int → Int) (f : Nat → Int → UInt32) (p : Int) : UInt64 := cif (there m p) (FP.f2d (leastv m f p)) 13835058055282163712
noncomputable def a_where (m : Nat → Int → Int) (f : Nat → Int → UInt32) (p : Int) : Int := cif (there m p) (weak m f p) (-2)
noncomputable def a_grams (m : Nat → Int → Int) (f : Nat → Int → UInt32) (p : Int) : Int := cif (there m p) (fl (FP.fmul (leastv m f p) 1148846080)) (-2)
noncomputable def a_rest (m : Nat → Int → Int) (f : Nat → Int → UInt32) (p e : Int) : UInt64 := cif (¬ there m p ∨ e < 1 ∨ e > 80000) 13835058055282163712 (FP.f2d (FP.frem (leastv m f p) (E8 e)))
noncomputable def a_left (m : Nat → Int → Int) (f : Nat → Int → UInt32) (p e : Int) : UInt64 := cif (¬ there m p ∨ e < 1 ∨ e > 1000000) 13835058055282163712 (FP.drem (FP.f2d (leastv m f p)) (E10 e))
noncomputable def a_turned (m : Nat → Int → Int) (f : Nat → Int → UInt32) (p e u : Int) : Int := cif (¬ there m p ∨ e < 0 ∨ e > 80000 ∨ u < 0 ∨ u > 12) (-1000000) (turn (td (leastv m f p) e) (tf (leastv m f p) e) u)
