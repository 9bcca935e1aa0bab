/-! THE NUMBERS THAT NEED NO VALUE -/
section NU
theorem n64_of {a : UInt64} (h : FP.Core.dIsNaN a = false) : vf_n64 a := by
  unfold vf_n64
  rw [UInt64.le_iff_toNat_le, FP.Core.mask_toNat]
  have h1 : ¬ (9218868437227405312 < a.toNat % 2 ^ 63) := fun q => by rw [(FP.Core.isNaN_bits a).mpr q] at h; cases h
  show a.toNat % 2 ^ 63 ≤ 9218868437227405312
  omega
theorem DFin.nn {a : UInt64} (h : FP.Core.DFin a) : FP.Core.dIsNaN a = false := by
  refine (FP.Core.notNaN_iff a).mpr ?_
  obtain ⟨s, c, q, e⟩ := h
  rw [e]; exact fun z => by cases z
theorem n64_fin {a : UInt64} (h : FP.Core.DFin a) : vf_n64 a := n64_of (DFin.nn h)
theorem okv_fin {v : UInt32} (h : v.toNat ≤ 1241513984) : FP.Core.FFin v := by rw [FP.Core.fin_bits32]; omega
theorem c8_fin : FP.Core.FFin 1040187392 := by rw [FP.Core.fin_bits32]; decide
theorem E8_mag (e : Int) : (E8 e).toNat % 2 ^ 31 < 159 * 2 ^ 23 := by
  have h := FP.Core.fmul_mag (a := FP.i2f (Int32.ofInt e)) (b := 1040187392) (Ka := 160) (Kb := 125) (FP.Core.i2f_mag _) (by decide) (by decide) (by decide)
  have h2 : (E8 e).toNat % 2 ^ 31 < (160 + 125 - 129 + 3) * 2 ^ 23 := h
  omega
theorem E8_fin (e : Int) : FP.Core.FFin (E8 e) := by
  have h := E8_mag e
  rw [FP.Core.fin_bits32]; omega
theorem E8_num' (e : Int) : vf_n32 (E8 e) := n32_fin (E8_fin e)
theorem okv_f2d' {v : UInt32} (h : v.toNat ≤ 1241513984) : vf_n64 (FP.f2d v) := by
  rw [FP.f2d_core (FFin.nn (okv_fin h))]
  exact n64_fin (FP.Core.f2d_fin (okv_fin h))
theorem okv_g' {v : UInt32} (h : v.toNat ≤ 1241513984) : vf_n32 (FP.fmul v 1148846080) := n32_of (FP.Core.fmul_out (okv_fin h) (by rw [FP.Core.fin_bits32]; decide))
theorem tape_num' {v : UInt32} (h : ∃ e, 0 ≤ e ∧ e ≤ 80000 ∧ v = E8 e) : vf_n32 (FP.fmul v 1056964608) := by
  obtain ⟨e, -, -, rfl⟩ := h
  exact n32_of (FP.Core.fmul_out (E8_fin e) (by rw [FP.Core.fin_bits32]; decide))
theorem td1_mag (e : Int) : (td1 e).toNat % 2 ^ 63 < 1055 * 2 ^ 52 := by
  have h := FP.Core.dmul_mag (a := FP.i2d (Int32.ofInt e)) (b := 4593671619917905920) (Ka := 1056) (Kb := 1021) (FP.Core.i2d_mag _) (by decide) (by decide) (by decide)
  exact h
theorem td1_fin (e : Int) : FP.Core.DFin (td1 e) := by
  have h := td1_mag e
  rw [FP.Core.fin_bits]; omega
theorem okv_td' {v : UInt32} (h : v.toNat ≤ 1241513984) (hm : (FP.f2d v).toNat % 2 ^ 63 < 1200 * 2 ^ 52) {e : Int} : vf_n64 (td1 e) ∧ vf_n64 (td v e) ∧ vf_n32 (tf v e) ∧ DF (td v e) ∧ FF (tf v e) := by
  have h1 := td1_mag e
  have h2 := FP.Core.dsub_mag (a := FP.f2d v) (b := td1 e) (K := 1200) hm (by omega) (by decide)
  have h3 : FP.Core.DFin (td v e) := by
    rw [FP.Core.fin_bits]
    have h4 : (td v e).toNat % 2 ^ 63 < (1200 + 2) * 2 ^ 52 := h2
    omega
  have h5 := E8_mag e
  have h6 := FP.Core.fsub_mag (a := v) (b := E8 e) (K := 159) (by omega) h5 (by decide)
  have h7 : FP.Core.FFin (tf v e) := by
    rw [FP.Core.fin_bits32]
    have h8 : (tf v e).toNat % 2 ^ 31 < (159 + 2) * 2 ^ 23 := h6
    omega
  exact ⟨n64_fin (td1_fin e), n64_fin h3, n32_fin h7, h3, h7⟩
theorem dm_num' {d : UInt64} (h : DF d) : vf_n64 (dm d) := n64_of (FP.Core.dsub_out (DFin.nn h) (FP.Core.l2d_fin _))
theorem DFmul8' {d : UInt64} (h : DF d) : vf_n64 (FP.dmul 4620693217682128896 d) := n64_of (FP.Core.dmul_out (by rw [FP.Core.fin_bits]; decide) h)
theorem FFmul8' {d : UInt32} (h : FF d) : vf_n32 (FP.fmul 1090519040 d) := n32_of (FP.Core.fmul_out (by rw [FP.Core.fin_bits32]; decide) h)
theorem DFneg' {d : UInt64} (h : DF d) : DF (FP.dneg d) := by
  obtain ⟨s, c, q, e⟩ := h
  exact ⟨!s, c, q, by rw [FP.val64_dneg, e]; rfl⟩
theorem FFneg' {d : UInt32} (h : FF d) : FF (FP.fneg d) := by
  obtain ⟨s, c, q, e⟩ := h
  exact ⟨!s, c, q, by rw [FP.val32_fneg, e]; rfl⟩
theorem DFq' : DF 4598175219545276416 := by
  show FP.Core.DFin _
  rw [FP.Core.fin_bits]; decide
theorem FFq' : FF 1048576000 := by
  show FP.Core.FFin _
  rw [FP.Core.fin_bits32]; decide
theorem fkey_ok {v : UInt32} (h : v.toNat ≤ 1241513984) : FP.Core.fkey v = (v.toNat : Int) := if_neg (by omega)
theorem okv_nn {v : UInt32} (h : v.toNat ≤ 1241513984) : FP.Core.val32 v ≠ .nan := (FP.Core.notNaN_iff32 v).mp (FFin.nn (okv_fin h))
theorem zfc_v (o : Ordering) (op : CmpOp) : zfc (some o) op = match o with | .lt => -1 | .eq => 0 | .gt => 1 := by
  cases o <;> cases op <;> rfl
theorem fc_ok {u v : UInt32} (hu : u.toNat ≤ 1241513984) (hv : v.toNat ≤ 1241513984) (op : CmpOp) : (zfc (FP.fcmp u v) op < 0 ↔ u.toNat < v.toNat) ∧ (0 < zfc (FP.fcmp u v) op ↔ v.toNat < u.toNat) := by
  show (zfc (FP.Core.fcmp u v) op < 0 ↔ u.toNat < v.toNat) ∧ (0 < zfc (FP.Core.fcmp u v) op ↔ v.toNat < u.toNat)
  rw [FP.Core.fcmp_key (okv_nn hu) (okv_nn hv), fkey_ok hu, fkey_ok hv, zfc_v]
  rcases Int.lt_trichotomy (u.toNat : Int) (v.toNat : Int) with c | c | c
  · rw [(FP.Core.compare_lt_iff _ _).mpr c]
    exact ⟨⟨fun _ => by omega, fun _ => by decide⟩, ⟨fun z => absurd z (by decide), fun z => by omega⟩⟩
  · rw [(FP.Core.compare_eq_iff _ _).mpr c]
    exact ⟨⟨fun z => absurd z (by decide), fun z => by omega⟩, ⟨fun z => absurd z (by decide), fun z => by omega⟩⟩
  · rw [(FP.Core.compare_gt_iff _ _).mpr c]
    exact ⟨⟨fun z => absurd z (by decide), fun z => by omega⟩, ⟨fun _ => by omega, fun _ => by decide⟩⟩
theorem fcg' {u v : UInt32} (hu : u.toNat ≤ 1241513984) (hv : v.toNat ≤ 1241513984) : zfc (FP.fcmp u v) CmpOp.g < 0 ↔ u.toNat < v.toNat := (fc_ok hu hv _).1
theorem fcl' {u v : UInt32} (hu : u.toNat ≤ 1241513984) (hv : v.toNat ≤ 1241513984) : (zfc (FP.fcmp u v) CmpOp.l < 0 ↔ u.toNat < v.toNat) ∧ (0 < zfc (FP.fcmp u v) CmpOp.l ↔ v.toNat < u.toNat) := fc_ok hu hv _
end NU
