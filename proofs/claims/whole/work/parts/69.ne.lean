/-! WHOLE NUMBERS NEAR A DOUBLE -/
section NE
theorem dsub_le {a b V : UInt64} (ha : FP.Core.DFin a) (hb : FP.Core.DFin b) (hV : FP.Core.DFin V) : (v64 a - v64 b ≤ v64 V → v64 (FP.dsub a b) ≤ v64 V) ∧ (v64 V ≤ v64 a - v64 b → v64 V ≤ v64 (FP.dsub a b)) := by
  obtain ⟨s, c, q, ea⟩ := ha
  obtain ⟨t, d, r, eb⟩ := hb
  have fa := FP.Core.val64_fits a
  have fb := FP.Core.negate_fits (FP.Core.val64_fits b)
  rw [ea] at fa
  rw [eb] at fb
  obtain ⟨sg, n, e, h1, h2, h3⟩ := FP.Core.sum_units (f := FP.Core.b64) (t := !t) (d := d) (r := r) fa fb
  have hsum := FP.Core.val64_dsub a b
  have en : FP.Core.negate (.fin t d r) = .fin (!t) d r := rfl
  rw [ea, eb, en, h1] at hsum
  have hz : FP.Core.zval FP.Core.b64 (.fin s c q) + FP.Core.zval FP.Core.b64 (.fin (!t) d r) = v64 a - v64 b := by
    rw [v64_fin ea, v64_fin eb]
    have := FP.Core.zval_negate FP.Core.b64 (.fin t d r)
    rw [en] at this
    rw [this]; omega
  have nV := (FP.Core.notNaN_iff V).mp (DFin.nn hV)
  have hx : v64 (FP.dsub a b) = FP.Core.zval FP.Core.b64 (FP.Core.round FP.Core.b64 (.fin sg n e)) := by
    show FP.Core.zval FP.Core.b64 (FP.Core.val64 (FP.Core.dsub a b)) = _
    rw [hsum]
  rw [hx]
  constructor
  · intro h
    refine FP.Core.zval_round_le FP.Core.good_b64 (e0 := FP.Core.b64.qmin) (FP.Core.val64_fits V) nV (Int.le_refl _) h2 ?_
    rw [h3, hz, Int.sub_self]
    show v64 a - v64 b ≤ v64 V * ((1 : Nat) : Int)
    omega
  · intro h
    refine FP.Core.zval_round_ge FP.Core.good_b64 (e0 := FP.Core.b64.qmin) (FP.Core.val64_fits V) nV (Int.le_refl _) h2 ?_
    rw [h3, hz, Int.sub_self]
    show v64 V * ((1 : Nat) : Int) ≤ v64 a - v64 b
    omega
theorem zd {x y : UInt64} (hx : FP.Core.val64 x ≠ .nan) (hy : FP.Core.val64 y ≠ .nan) (op : CmpOp) : (zfc (FP.dcmp x y) op < 0 ↔ v64 x < v64 y) ∧ (0 < zfc (FP.dcmp x y) op ↔ v64 y < v64 x) ∧ (zfc (FP.dcmp x y) op = 0 ↔ v64 x = v64 y) := by
  have e : FP.dcmp x y = some (compare (v64 x) (v64 y)) := FP.Core.dcmp_zval hx hy
  rw [e, zfc_v]
  rcases Int.lt_trichotomy (v64 x) (v64 y) with c | c | c
  · rw [(FP.Core.compare_lt_iff _ _).mpr c]
    exact ⟨⟨fun _ => c, fun _ => by decide⟩, ⟨fun z => absurd z (by decide), fun z => by omega⟩, ⟨fun z => absurd z (by decide), fun z => by omega⟩⟩
  · rw [(FP.Core.compare_eq_iff _ _).mpr c]
    exact ⟨⟨fun z => absurd z (by decide), fun z => by omega⟩, ⟨fun z => absurd z (by decide), fun z => by omega⟩, ⟨fun _ => c, fun _ => rfl⟩⟩
  · rw [(FP.Core.compare_gt_iff _ _).mpr c]
    exact ⟨⟨fun z => absurd z (by decide), fun z => by omega⟩, ⟨fun _ => c, fun _ => by decide⟩, ⟨fun z => absurd z (by decide), fun z => by omega⟩⟩
theorem Upos : 0 < (FP.Core.one64 : Int) := Int.ofNat_lt.mpr FP.Core.one64_pos
theorem ubelow {a b X : Int} (h1 : a * (FP.Core.one64 : Int) ≤ X) (h2 : X < (b + 1) * (FP.Core.one64 : Int)) : a ≤ b := by
  have h := Int.lt_of_mul_lt_mul_right (Int.lt_of_le_of_lt h1 h2) (Int.le_of_lt Upos)
  omega
theorem ld_v {n : Int} (h : n.natAbs ≤ 9007199254740992) : v64 (ld n) = n * (FP.Core.one64 : Int) ∧ FP.Core.DFin (ld n) := by
  have e : (Int64.ofInt n).toInt = n := Int64.toInt_ofInt_of_le (by omega) (by omega)
  have h2 := FP.Core.l2d_int (a := Int64.ofInt n) (by rw [e]; omega)
  rw [e] at h2
  exact ⟨FP.Core.DInt_zval h2, FP.Core.l2d_fin _⟩
/-- finite and below 2^34 -/
def DS (d : UInt64) : Prop := FP.Core.DFin d ∧ (v64 d).natAbs < 17179869184 * FP.Core.one64
theorem DS.neg {d : UInt64} (h : DS d) : DS (FP.dneg d) ∧ v64 (FP.dneg d) = -(v64 d) ∧ FP.Core.sgn (FP.Core.val64 (FP.dneg d)) = !(FP.Core.sgn (FP.Core.val64 d)) := by
  obtain ⟨⟨s, c, q, e⟩, h2⟩ := h
  have hv := FP.val64_dneg d
  have e2 : v64 (FP.dneg d) = -(v64 d) := by
    unfold v64
    rw [hv]; exact FP.Core.zval_negate _ _
  rw [e] at hv
  refine ⟨⟨⟨!s, c, q, hv⟩, by rw [e2, Int.natAbs_neg]; exact h2⟩, e2, ?_⟩
  rw [hv, e]; rfl
theorem DS.nn {d : UInt64} (h : DS d) : FP.Core.val64 d ≠ .nan := (FP.Core.notNaN_iff d).mp (DFin.nn h.1)
/-- the whole part, towards nought -/
theorem dl_t {d : UInt64} (h : DS d) : ∃ n : Nat, n < 17179869184 ∧ (FP.Core.sgn (FP.Core.val64 d) = false → dl d = n ∧ (n : Int) * (FP.Core.one64 : Int) ≤ v64 d ∧ v64 d < ((n : Int) + 1) * (FP.Core.one64 : Int)) ∧ (FP.Core.sgn (FP.Core.val64 d) = true → dl d = -(n : Int) ∧ (n : Int) * (FP.Core.one64 : Int) ≤ -(v64 d) ∧ -(v64 d) < ((n : Int) + 1) * (FP.Core.one64 : Int)) := by
  have e := FP.Core.d2l_val h.nn
  have hz : (v64 d).natAbs = FP.Core.zmag FP.Core.b64 (FP.Core.val64 d) := by unfold v64 FP.Core.zval; rw [FP.Core.natAbs_signed]
  have hb := h.2
  rw [hz] at hb
  have hp := FP.Core.one64_pos
  have h1 : FP.Core.zmag FP.Core.b64 (FP.Core.val64 d) / FP.Core.one64 * FP.Core.one64 ≤ FP.Core.zmag FP.Core.b64 (FP.Core.val64 d) := Nat.div_mul_le_self _ _
  have h2 : FP.Core.zmag FP.Core.b64 (FP.Core.val64 d) < (FP.Core.zmag FP.Core.b64 (FP.Core.val64 d) / FP.Core.one64 + 1) * FP.Core.one64 := by
    have := Nat.lt_div_mul_add (a := FP.Core.zmag FP.Core.b64 (FP.Core.val64 d)) hp
    rw [Nat.add_mul, Nat.one_mul]; exact this
  have hn : FP.Core.zmag FP.Core.b64 (FP.Core.val64 d) / FP.Core.one64 < 17179869184 := (Nat.div_lt_iff_lt_mul hp).mpr hb
  generalize FP.Core.zmag FP.Core.b64 (FP.Core.val64 d) / FP.Core.one64 = n at e h1 h2 hn
  have g1 : (n : Int) * (FP.Core.one64 : Int) ≤ (FP.Core.zmag FP.Core.b64 (FP.Core.val64 d) : Int) := by
    rw [← Int.natCast_mul]; exact Int.ofNat_le.mpr h1
  have g2 : (FP.Core.zmag FP.Core.b64 (FP.Core.val64 d) : Int) < ((n : Int) + 1) * (FP.Core.one64 : Int) := by
    have : ((n : Int) + 1) * (FP.Core.one64 : Int) = (((n + 1) * FP.Core.one64 : Nat) : Int) := by rw [Int.natCast_mul]; rfl
    rw [this]; exact Int.ofNat_lt.mpr h2
  refine ⟨n, hn, fun hs => ?_, fun hs => ?_⟩
  · have ev : v64 d = (FP.Core.zmag FP.Core.b64 (FP.Core.val64 d) : Int) := by unfold v64 FP.Core.zval; rw [hs]; rfl
    rw [hs] at e
    refine ⟨?_, by rw [ev]; exact g1, by rw [ev]; exact g2⟩
    unfold dl
    rw [e]
    show max (-2 ^ 63) (min (2 ^ 63 - 1) ((n : Nat) : Int)) = n
    omega
  · have ev : v64 d = -(FP.Core.zmag FP.Core.b64 (FP.Core.val64 d) : Int) := by unfold v64 FP.Core.zval; rw [hs]; rfl
    rw [hs] at e
    refine ⟨?_, by rw [ev, Int.neg_neg]; exact g1, by rw [ev, Int.neg_neg]; exact g2⟩
    unfold dl
    rw [e]
    show max (-2 ^ 63) (min (2 ^ 63 - 1) (-((n : Nat) : Int))) = -(n : Int)
    omega
theorem flo_v {d : UInt64} (h : DS d) : flo d * (FP.Core.one64 : Int) ≤ v64 d ∧ v64 d < (flo d + 1) * (FP.Core.one64 : Int) ∧ (flo d).natAbs ≤ 17179869185 ∧ (FP.Core.sgn (FP.Core.val64 d) = false → flo d = dl d) := by
  obtain ⟨n, hn, hf, ht⟩ := dl_t h
  have hU := Upos
  unfold flo
  by_cases hs : FP.Core.sgn (FP.Core.val64 d) = false
  · obtain ⟨e, h1, h2⟩ := hf hs
    rw [e]
    obtain ⟨l1, l2⟩ := ld_v (n := (n : Int)) (by omega)
    have hz := (zd ((FP.Core.notNaN_iff _).mp (DFin.nn l2)) h.nn CmpOp.l).2.1
    rw [l1] at hz
    rw [if_neg (fun z => by have := hz.mp z; omega)]
    exact ⟨h1, h2, by omega, fun _ => rfl⟩
  · have hs' : FP.Core.sgn (FP.Core.val64 d) = true := by
      cases hq : FP.Core.sgn (FP.Core.val64 d)
      · exact absurd hq hs
      · rfl
    obtain ⟨e, h1, h2⟩ := ht hs'
    rw [e]
    obtain ⟨l1, l2⟩ := ld_v (n := -(n : Int)) (by omega)
    have hz := (zd ((FP.Core.notNaN_iff _).mp (DFin.nn l2)) h.nn CmpOp.l).2.1
    rw [l1, Int.neg_mul] at hz
    have hm : ((n : Int) + 1) * (FP.Core.one64 : Int) = (n : Int) * (FP.Core.one64 : Int) + (FP.Core.one64 : Int) := by rw [Int.add_mul, Int.one_mul]
    rw [hm] at h2
    generalize hP : (n : Int) * (FP.Core.one64 : Int) = Pn at *
    by_cases c : 0 < zfc (FP.dcmp (ld (-(n : Int))) d) CmpOp.l
    · have c2 := hz.mp c
      rw [if_pos c]
      refine ⟨?_, ?_, by omega, fun z => absurd z hs⟩
      · rw [Int.sub_mul, Int.neg_mul, Int.one_mul, hP]; omega
      · rw [show -(n : Int) - 1 + 1 = -(n : Int) by omega, Int.neg_mul, hP]; omega
    · have c2 : ¬ (v64 d < -Pn) := fun z => c (hz.mpr z)
      rw [if_neg c]
      refine ⟨?_, ?_, by omega, fun z => absurd z hs⟩
      · rw [Int.neg_mul, hP]; omega
      · rw [Int.add_mul, Int.neg_mul, Int.one_mul, hP]; omega
theorem ceil_d {d : UInt64} (h : DS d) : -(flo (FP.dneg d)) = if zfc (FP.dcmp (ld (flo d)) d) CmpOp.g < 0 then flo d + 1 else flo d := by
  obtain ⟨n1, n2, -⟩ := h.neg
  obtain ⟨f1, f2, f3, -⟩ := flo_v h
  obtain ⟨g1, g2, g3, -⟩ := flo_v n1
  rw [n2] at g1 g2
  obtain ⟨l1, l2⟩ := ld_v (n := flo d) (by omega)
  have hz := (zd ((FP.Core.notNaN_iff _).mp (DFin.nn l2)) h.nn CmpOp.g).1
  rw [l1] at hz
  generalize flo (FP.dneg d) = g at g1 g2
  generalize hf : flo d = f at f1 f2 hz
  have hU := Upos
  by_cases c : zfc (FP.dcmp (ld f) d) CmpOp.g < 0
  · rw [if_pos c]
    have c2 := hz.mp c
    have a1 : f < -g := by
      refine Int.lt_of_mul_lt_mul_right (a := (FP.Core.one64 : Int)) ?_ (Int.le_of_lt hU)
      rw [Int.neg_mul]; omega
    have a2 : -g < f + 1 + 1 := by
      refine Int.lt_of_mul_lt_mul_right (a := (FP.Core.one64 : Int)) ?_ (Int.le_of_lt hU)
      rw [Int.add_mul g, Int.one_mul] at g2
      rw [Int.add_mul (f + 1), Int.one_mul, Int.neg_mul]; omega
    omega
  · rw [if_neg c]
    have c2 : ¬ f * (FP.Core.one64 : Int) < v64 d := fun z => c (hz.mpr z)
    have a1 : g < -f + 1 := by
      refine Int.lt_of_mul_lt_mul_right (a := (FP.Core.one64 : Int)) ?_ (Int.le_of_lt hU)
      rw [Int.add_mul, Int.neg_mul, Int.one_mul]; omega
    have a2 : -f < g + 1 := by
      refine Int.lt_of_mul_lt_mul_right (a := (FP.Core.one64 : Int)) ?_ (Int.le_of_lt hU)
      rw [Int.neg_mul]; omega
    omega
end NE
