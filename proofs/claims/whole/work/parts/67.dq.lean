/-! QUOTIENTS AND REMAINDERS OF WHOLE MULTIPLES OF A UNIT -/
section DQ
/-- the FP.Core.quotient, against a number -/
theorem ddiv_cmp {w s V : UInt64} (hw : DP w) (hs : DP s) (h0 : 0 < v64 s) (hV : DP V) : (v64 V * v64 s ≤ v64 w * (FP.Core.one64 : Int) → v64 V ≤ v64 (FP.ddiv w s)) ∧ (v64 w * (FP.Core.one64 : Int) ≤ v64 V * v64 s → v64 (FP.ddiv w s) ≤ v64 V) ∧ FP.Core.val64 (FP.ddiv w s) ≠ .nan ∧ FP.Core.sgn (FP.Core.val64 (FP.ddiv w s)) = false := by
  have ew0 := hw.v
  have es0 := hs.v
  have eV := hV.v
  obtain ⟨⟨sw, c, q, ea⟩, sa⟩ := hw
  obtain ⟨⟨ss, d, r, eb⟩, sb⟩ := hs
  have fa := FP.Core.val64_fits w
  have fb := FP.Core.val64_fits s
  rw [ea] at fa sa
  rw [eb] at fb sb
  have h1 : sw = false := sa
  have h2 : ss = false := sb
  subst h1; subst h2
  have hm : FP.Core.b64.qmax = 971 := by decide
  have q1 : -1074 ≤ q := by have := fa.2.1; rw [FP.Core.qmin_b64] at this; exact this
  have r1 : -1074 ≤ r := by have := fb.2.1; rw [FP.Core.qmin_b64] at this; exact this
  have r2 : r ≤ 971 := by have := fb.2.2.1; rw [hm] at this; exact this
  have ew : v64 w = ((c * 2 ^ (q + 1074).toNat : Nat) : Int) := by
    rw [ew0, ea]; show ((c * 2 ^ (q - FP.Core.b64.qmin).toNat : Nat) : Int) = _
    rw [FP.Core.qmin_b64, show q - -1074 = q + 1074 by omega]
  have es : v64 s = ((d * 2 ^ (r + 1074).toNat : Nat) : Int) := by
    rw [es0, eb]; show ((d * 2 ^ (r - FP.Core.b64.qmin).toNat : Nat) : Int) = _
    rw [FP.Core.qmin_b64, show r - -1074 = r + 1074 by omega]
  have hd : d ≠ 0 := fun z => by
    rw [z, Nat.zero_mul] at es
    rw [es] at h0
    exact absurd h0 (by decide)
  have hq := FP.Core.val64_ddiv w s
  rw [ea, eb] at hq
  have hq2 : FP.Core.val64 (FP.ddiv w s) = FP.Core.roundRatio FP.Core.b64 false c d (q - r) := hq.trans (if_neg hd)
  have hsg : FP.Core.sgn (FP.Core.val64 (FP.ddiv w s)) = false := by rw [hq2]; exact FP.Core.sgn_roundRatio _ _ _ _ _
  have hn : FP.Core.val64 (FP.ddiv w s) ≠ .nan := by rw [hq2]; exact FP.Core.roundRatio_ne_nan _ _ _ _ _
  have eQ : v64 (FP.ddiv w s) = (FP.Core.zmag FP.Core.b64 (FP.Core.val64 (FP.ddiv w s)) : Int) := by
    unfold v64 FP.Core.zval
    rw [hsg]; rfl
  have hk : (q - r + 2200).toNat + (r + 1074).toNat = (q + 1074).toNat + (1074 + 1126) := by omega
  have hp2 := Nat.two_pow_pos (r + 1074).toNat
  have e16 : (FP.Core.b64.qmin - -2200).toNat = 1126 := by rw [FP.Core.qmin_b64]; decide
  have one : FP.Core.one64 = 2 ^ 1074 := rfl
  have kky : ∀ z : Nat, ((z * 2 ^ 1126 * d) * 2 ^ (r + 1074).toNat = (z * (d * 2 ^ (r + 1074).toNat)) * 2 ^ 1126) ∧ ((c * 2 ^ (q - r + 2200).toNat) * 2 ^ (r + 1074).toNat = ((c * 2 ^ (q + 1074).toNat) * FP.Core.one64) * 2 ^ 1126) := fun z => by
    constructor
    · simp only [Nat.mul_assoc, Nat.mul_left_comm, Nat.mul_comm]
    · rw [one, Nat.mul_assoc, ← Nat.pow_add, hk, Nat.pow_add, Nat.pow_add]
      simp only [Nat.mul_assoc]
  refine ⟨fun h => ?_, fun h => ?_, hn, hsg⟩
  · rw [ew, es, eV] at h
    rw [← Int.natCast_mul, ← Int.natCast_mul] at h
    have h' : FP.Core.zmag FP.Core.b64 (FP.Core.val64 V) * (d * 2 ^ (r + 1074).toNat) ≤ c * 2 ^ (q + 1074).toNat * FP.Core.one64 := Int.ofNat_le.mp h
    have g : FP.Core.zmag FP.Core.b64 (FP.Core.val64 V) ≤ FP.Core.zmag FP.Core.b64 (FP.Core.roundRatio FP.Core.b64 false c d (q - r)) := by
      refine FP.Core.zmag_roundRatio_ge FP.Core.good_b64 (e0 := -2200) (Nat.pos_of_ne_zero hd) (FP.Core.val64_fits V) (by rw [FP.Core.qmin_b64]; decide) (by omega) ?_
      rw [e16]
      show _ ≤ c * 2 ^ (q - r - -2200).toNat
      rw [show q - r - -2200 = q - r + 2200 by omega]
      refine Nat.le_of_mul_le_mul_right ?_ hp2
      rw [(kky (FP.Core.zmag FP.Core.b64 (FP.Core.val64 V))).1, (kky 0).2]
      exact Nat.mul_le_mul_right _ h'
    rw [eQ, eV, hq2]
    exact_mod_cast g
  · rw [ew, es, eV] at h
    rw [← Int.natCast_mul, ← Int.natCast_mul] at h
    have h' : c * 2 ^ (q + 1074).toNat * FP.Core.one64 ≤ FP.Core.zmag FP.Core.b64 (FP.Core.val64 V) * (d * 2 ^ (r + 1074).toNat) := Int.ofNat_le.mp h
    have g : FP.Core.zmag FP.Core.b64 (FP.Core.roundRatio FP.Core.b64 false c d (q - r)) ≤ FP.Core.zmag FP.Core.b64 (FP.Core.val64 V) := by
      refine FP.Core.zmag_roundRatio_le FP.Core.good_b64 (e0 := -2200) (Nat.pos_of_ne_zero hd) (FP.Core.val64_fits V) ((FP.Core.notNaN_iff V).mp (DFin.nn hV.1)) (by rw [FP.Core.qmin_b64]; decide) (by omega) ?_
      rw [e16]
      show c * 2 ^ (q - r - -2200).toNat ≤ _
      rw [show q - r - -2200 = q - r + 2200 by omega]
      refine Nat.le_of_mul_le_mul_right ?_ hp2
      rw [(kky (FP.Core.zmag FP.Core.b64 (FP.Core.val64 V))).1, (kky 0).2]
      exact Nat.mul_le_mul_right _ h'
    rw [eQ, eV, hq2]
    exact_mod_cast g
/-- the whole part -/
theorem dl_v {x : UInt64} (hn : FP.Core.val64 x ≠ .nan) (hs : FP.Core.sgn (FP.Core.val64 x) = false) {n : Nat} (h1 : ((n : Nat) : Int) * (FP.Core.one64 : Int) ≤ v64 x) (h2 : v64 x < ((n + 1 : Nat) : Int) * (FP.Core.one64 : Int)) (hb : n < 9007199254740992) : dl x = n := by
  have e := FP.Core.d2l_val hn
  have ev : v64 x = (FP.Core.zmag FP.Core.b64 (FP.Core.val64 x) : Int) := by unfold v64 FP.Core.zval; rw [hs]; rfl
  rw [ev] at h1 h2
  have g1 : n * FP.Core.one64 ≤ FP.Core.zmag FP.Core.b64 (FP.Core.val64 x) := by exact_mod_cast h1
  have g2 : FP.Core.zmag FP.Core.b64 (FP.Core.val64 x) < (n + 1) * FP.Core.one64 := by exact_mod_cast h2
  have hd : FP.Core.zmag FP.Core.b64 (FP.Core.val64 x) / FP.Core.one64 = n := by
    have p := FP.Core.one64_pos
    apply Nat.le_antisymm
    · exact Nat.le_of_lt_succ ((Nat.div_lt_iff_lt_mul p).mpr g2)
    · exact (Nat.le_div_iff_mul_le p).mpr g1
  unfold dl
  rw [e, hs, hd]
  show max (-2 ^ 63) (min (2 ^ 63 - 1) ((n : Nat) : Int)) = n
  omega
theorem ld_P {n : Nat} (hb : n < 9007199254740992) : DP (ld (n : Int)) ∧ v64 (ld (n : Int)) = (n : Int) * (FP.Core.one64 : Int) := by
  have e : (Int64.ofInt (n : Int)).toInt = n := Int64.toInt_ofInt_of_le (by omega) (by omega)
  have h := FP.Core.l2d_int (a := Int64.ofInt (n : Int)) (by rw [e]; omega)
  rw [e] at h
  have hv := FP.Core.val64_l2d (Int64.ofInt (n : Int))
  rw [e] at hv
  have hd : FP.Core.ofInt (n : Int) = .fin false n 0 := by
    unfold FP.Core.ofInt
    rw [decide_eq_false (by omega)]; rfl
  rw [hd] at hv
  refine ⟨⟨FP.Core.l2d_fin _, ?_⟩, FP.Core.DInt_zval h⟩
  show FP.Core.sgn (FP.Core.val64 (FP.l2d (Int64.ofInt (n : Int)))) = false
  rw [hv]; exact FP.Core.sgn_roundRatio _ _ _ _ _
/-- w and s are a and b units: the quotient's whole part -/
theorem quo_v {w s : UInt64} {a b k : Nat} (hw : DP w) (hs : DP s) (ha : a < 2 ^ 32) (hb : 0 < b) (ew : v64 w = ((a * 2 ^ k : Nat) : Int)) (es : v64 s = ((b * 2 ^ k : Nat) : Int)) : dl (FP.ddiv w s) = ((a / b : Nat) : Int) ∧ FP.Core.val64 (FP.ddiv w s) ≠ .nan := by
  have hk := Nat.two_pow_pos k
  have hsp : 0 < v64 s := by
    rw [es]
    exact_mod_cast Nat.mul_pos hb hk
  have hnb : a / b * b ≤ a := Nat.div_mul_le_self a b
  have hna : a / b ≤ a := Nat.div_le_self a b
  have hlt : a < (a / b + 1) * b := by
    have := Nat.lt_div_mul_add (a := a) hb
    rw [Nat.add_mul, Nat.one_mul]; exact this
  generalize hn : a / b = n at hnb hna hlt ⊢
  obtain ⟨lP, lv⟩ := ld_P (n := n) (by omega)
  obtain ⟨c1, -, cn, cs⟩ := ddiv_cmp hw hs hsp lP
  have low : (n : Int) * (FP.Core.one64 : Int) ≤ v64 (FP.ddiv w s) := by
    rw [← lv]
    refine c1 ?_
    rw [lv, es, ew]
    have : n * FP.Core.one64 * (b * 2 ^ k) ≤ a * 2 ^ k * FP.Core.one64 := by
      have e1 : n * FP.Core.one64 * (b * 2 ^ k) = (n * b) * (2 ^ k * FP.Core.one64) := by simp only [Nat.mul_assoc, Nat.mul_left_comm, Nat.mul_comm]
      have e2 : a * 2 ^ k * FP.Core.one64 = a * (2 ^ k * FP.Core.one64) := Nat.mul_assoc _ _ _
      rw [e1, e2]
      exact Nat.mul_le_mul_right _ hnb
    exact_mod_cast this
  -- a number below n + 1 that the FP.Core.quotient isn't above
  obtain ⟨j, hj1, hj2, hj3⟩ : ∃ j : Nat, j ≤ 33 ∧ (n + 1) * 2 ^ j ≤ 2 ^ 34 ∧ a * 2 ^ j ≤ ((n + 1) * 2 ^ j - 1) * b := by
    by_cases c : b ≤ a
    · have l1 := Nat.lt_log2_self (n := b)
      have l2 := Nat.log2_self_le (n := b) (by omega)
      have e1 : 2 ^ (b.log2 + 1) = 2 * 2 ^ b.log2 := by rw [Nat.pow_succ, Nat.mul_comm]
      have hn1 : 1 ≤ n := by rw [← hn]; exact (Nat.one_le_div_iff hb).mpr c
      have hlog : b.log2 < 32 := (Nat.pow_lt_pow_iff_right (by decide : 1 < 2)).mp (Nat.lt_of_le_of_lt l2 (Nat.lt_of_le_of_lt c ha))
      refine ⟨b.log2 + 1, by omega, ?_, ?_⟩
      · have h1 : (n + 1) * 2 ^ (b.log2 + 1) ≤ (n + 1) * (2 * b) := Nat.mul_le_mul_left _ (by omega)
        have h2 : (n + 1) * (2 * b) = 2 * (n * b) + 2 * b := by
          rw [Nat.add_mul, Nat.one_mul, Nat.mul_left_comm]
        omega
      · generalize 2 ^ (b.log2 + 1) = T at l1
        have h1 : (a + 1) * T ≤ (n + 1) * b * T := Nat.mul_le_mul_right _ hlt
        have h2 : ((n + 1) * T - 1) * b = (n + 1) * b * T - b := by
          rw [Nat.sub_mul, Nat.one_mul, Nat.mul_assoc, Nat.mul_assoc, Nat.mul_comm T b]
        rw [h2]
        rw [Nat.add_mul, Nat.one_mul] at h1
        omega
    · have hn0 : n = 0 := by rw [← hn]; exact Nat.div_eq_of_lt (by omega)
      subst hn0
      refine ⟨32, by decide, by decide, ?_⟩
      have h1 : a + 1 ≤ b := by omega
      have h2 : ((0 + 1) * 2 ^ 32 - 1) * (a + 1) ≤ ((0 + 1) * 2 ^ 32 - 1) * b := Nat.mul_le_mul_left _ h1
      refine Nat.le_trans ?_ h2
      omega
  have hp : 1 ≤ (n + 1) * 2 ^ j := Nat.mul_pos (Nat.succ_pos n) (Nat.two_pow_pos j)
  obtain ⟨VP, Vv⟩ := dD_P (c := (n + 1) * 2 ^ j - 1) (k := 1074 - j) (by omega) (by omega)
  obtain ⟨-, c2, -, -⟩ := ddiv_cmp hw hs hsp VP
  have one : FP.Core.one64 = 2 ^ j * 2 ^ (1074 - j) := by
    rw [← Nat.pow_add, show j + (1074 - j) = 1074 by omega]; rfl
  have high : v64 (FP.ddiv w s) ≤ (((((n + 1) * 2 ^ j - 1) * 2 ^ (1074 - j) : Nat)) : Int) := by
    rw [← Vv]
    refine c2 ?_
    rw [Vv, es, ew]
    have : a * 2 ^ k * FP.Core.one64 ≤ ((n + 1) * 2 ^ j - 1) * 2 ^ (1074 - j) * (b * 2 ^ k) := by
      rw [one]
      have e1 : a * 2 ^ k * (2 ^ j * 2 ^ (1074 - j)) = (a * 2 ^ j) * (2 ^ (1074 - j) * 2 ^ k) := by simp only [Nat.mul_assoc, Nat.mul_left_comm, Nat.mul_comm]
      have e2 : ((n + 1) * 2 ^ j - 1) * 2 ^ (1074 - j) * (b * 2 ^ k) = (((n + 1) * 2 ^ j - 1) * b) * (2 ^ (1074 - j) * 2 ^ k) := by simp only [Nat.mul_assoc, Nat.mul_left_comm, Nat.mul_comm]
      rw [e1, e2]
      exact Nat.mul_le_mul_right _ hj3
    exact_mod_cast this
  refine ⟨dl_v cn cs low ?_ (by omega), cn⟩
  refine Int.lt_of_le_of_lt high ?_
  have : ((n + 1) * 2 ^ j - 1) * 2 ^ (1074 - j) < (n + 1) * FP.Core.one64 := by
    rw [one, ← Nat.mul_assoc]
    exact Nat.mul_lt_mul_of_pos_right (by omega) (Nat.two_pow_pos _)
  exact_mod_cast this
/-- what is left over -/
theorem rmd_v {w s : UInt64} {a b k : Nat} (hw : DP w) (hs : DP s) (ha : a < 2 ^ 32) (hb : 0 < b) (hk : k ≤ 2045) (ew : v64 w = ((a * 2 ^ k : Nat) : Int)) (es : v64 s = ((b * 2 ^ k : Nat) : Int)) : rmok w s ∧ DP (rmd w s) ∧ v64 (rmd w s) = ((a % b * 2 ^ k : Nat) : Int) := by
  obtain ⟨q1, q2⟩ := quo_v hw hs ha hb ew es
  have hnb : a / b * b ≤ a := Nat.div_mul_le_self a b
  have hna : a / b ≤ a := Nat.div_le_self a b
  have hmod : a % b = a - a / b * b := by
    have := Nat.div_add_mod a b
    rw [Nat.mul_comm] at this; omega
  obtain ⟨lP, lv⟩ := ld_P (n := a / b) (by omega)
  obtain ⟨pP, pv⟩ := dD_P (c := a / b * b) (k := k) (by omega) hk
  obtain ⟨mP, mv⟩ := dD_P (c := a % b) (k := k) (by omega) hk
  have hm := dmul_v (a := ld (dl (FP.ddiv w s))) (b := s) (V := dD false (a / b * b) k) (by rw [q1]; exact lP.1) hs.1 pP.1 (by
    rw [q1, lv, es, pv]
    have : a / b * FP.Core.one64 * (b * 2 ^ k) = a / b * b * 2 ^ k * FP.Core.one64 := by simp only [Nat.mul_assoc, Nat.mul_left_comm, Nat.mul_comm]
    exact_mod_cast this)
  have hmP : DP (FP.dmul (ld (dl (FP.ddiv w s))) s) := ⟨hm.2.1, by rw [hm.2.2, q1, lP.2, hs.2]; rfl⟩
  have hr := dsub_v hw hmP mP.1 (by
    rw [ew, hm.1, pv, mv, hmod, Nat.sub_mul]
    have := Nat.mul_le_mul_right (2 ^ k) hnb
    omega) mP.ge
  have h0 : 0 < v64 s := by
    rw [es]
    exact_mod_cast Nat.mul_pos hb (Nat.two_pow_pos k)
  refine ⟨⟨?_, n64_of ((FP.Core.notNaN_iff _).mpr q2), n64_fin hm.2.1, n64_fin hr.2.1⟩, hr.2, hr.1.trans mv⟩
  have hz : FP.dcmp s 0 = some .gt := FP.Core.dcmp_gt.mpr ⟨(FP.Core.notNaN_iff s).mp (DFin.nn hs.1), by rw [FP.Core.val64_zero]; exact fun z => (by cases z), by rw [FP.Core.zval64_zero]; exact h0⟩
  rw [hz, zfc_v]; decide
theorem drem_v {w s : UInt64} {a b k : Nat} (hw : DP w) (hs : DP s) (hb : 0 < b) (ew : v64 w = ((a * 2 ^ k : Nat) : Int)) (es : v64 s = ((b * 2 ^ k : Nat) : Int)) : DP (FP.drem w s) ∧ v64 (FP.drem w s) = ((a % b * 2 ^ k : Nat) : Int) := by
  have ew0 := hw.v
  have es0 := hs.v
  obtain ⟨⟨sw, c, q, ea⟩, sa⟩ := hw
  obtain ⟨⟨ss, d, r, eb⟩, sb⟩ := hs
  rw [ea] at sa
  have h1 : sw = false := sa
  subst h1
  rw [ea] at ew0
  rw [eb] at es0
  have hk := Nat.two_pow_pos k
  have e1 : FP.Core.inUnits c q FP.Core.b64.qmin = a * 2 ^ k := by
    have z : (FP.Core.inUnits c q FP.Core.b64.qmin : Int) = ((a * 2 ^ k : Nat) : Int) := ew0.symm.trans ew
    exact_mod_cast z
  have e2 : FP.Core.inUnits d r FP.Core.b64.qmin = b * 2 ^ k := by
    have z : (FP.Core.inUnits d r FP.Core.b64.qmin : Int) = ((b * 2 ^ k : Nat) : Int) := es0.symm.trans es
    exact_mod_cast z
  have hd : d ≠ 0 := fun z => by
    unfold FP.Core.inUnits at e2
    rw [z, Nat.zero_mul] at e2
    have := Nat.mul_pos hb hk
    omega
  obtain ⟨c', q', hv, hu⟩ := FP.Core.drem_exact ea eb hd
  refine ⟨⟨⟨false, c', q', hv⟩, by rw [hv]; rfl⟩, ?_⟩
  unfold v64 FP.Core.zval
  rw [hv]
  show ((FP.Core.inUnits c' q' FP.Core.b64.qmin : Nat) : Int) = _
  rw [hu, e1, e2, Nat.mul_mod_mul_right]
end DQ
