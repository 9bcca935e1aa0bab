/-! THE NEAREST WHOLE NUMBER, BOTH WAYS -/
section NR
theorem if_cg {α : Type} {p q : Prop} [hp : Decidable p] [hq : Decidable q] (h : p ↔ q) (a b : α) : (if p then a else b) = if q then a else b := by
  by_cases c : p
  · rw [if_pos c, if_pos (h.mp c)]
  · rw [if_neg c, if_neg (fun z => c (h.mpr z))]
theorem half_v : v64 4602678819172646912 = ((2 ^ 1073 : Nat) : Int) ∧ FP.Core.DFin 4602678819172646912 := by
  refine ⟨?_, by rw [FP.Core.fin_bits]; decide⟩
  unfold v64; decide +kernel
theorem nea_same {d : UInt64} (h : flo d = dl d) : neaC d = nea d := by
  unfold nea dm neaC
  rw [h]
/-- a magnitude's whole part and its rest, in units -/
theorem parts_of {c k t : Nat} (hc : c < 2 ^ 53) (h1 : t * FP.Core.one64 ≤ c * 2 ^ k) (h2 : c * 2 ^ k < (t + 1) * FP.Core.one64) : ∃ r kk T : Nat, kk ≤ 1073 ∧ FP.Core.one64 = 2 * T * 2 ^ kk ∧ r < 2 ^ 53 ∧ r < 2 * T ∧ c * 2 ^ k = t * FP.Core.one64 + r * 2 ^ kk ∧ (1 ≤ t → 0 < r → 2 * T < 2 ^ 53) := by
  by_cases hk : k < 1074
  · have one : FP.Core.one64 = 2 * 2 ^ (1073 - k) * 2 ^ k := by
      have e : (2 : Nat) * 2 ^ (1073 - k) = 2 ^ (1073 - k + 1) := by rw [Nat.pow_succ, Nat.mul_comm]
      rw [e, ← Nat.pow_add, show 1073 - k + 1 + k = 1074 by omega]; rfl
    generalize 2 ^ (1073 - k) = T at one
    have hp := Nat.two_pow_pos k
    rw [one, ← Nat.mul_assoc] at h1 h2
    have g1 := Nat.le_of_mul_le_mul_right h1 hp
    have g2 := Nat.lt_of_mul_lt_mul_right h2
    rw [Nat.add_mul, Nat.one_mul] at g2
    refine ⟨c - t * (2 * T), k, T, by omega, one, by omega, by omega, ?_, fun ht _ => ?_⟩
    · rw [one, ← Nat.mul_assoc, ← Nat.add_mul, show t * (2 * T) + (c - t * (2 * T)) = c by omega]
    · have := Nat.mul_le_mul_right (2 * T) ht
      omega
  · have e : c * 2 ^ k = c * 2 ^ (k - 1074) * FP.Core.one64 := by
      have one : FP.Core.one64 = 2 ^ 1074 := rfl
      rw [one, Nat.mul_assoc, ← Nat.pow_add, show k - 1074 + 1074 = k by omega]
    rw [e] at h1 h2
    have g1 := Nat.le_of_mul_le_mul_right h1 FP.Core.one64_pos
    have g2 := Nat.lt_of_mul_lt_mul_right h2
    have et : c * 2 ^ (k - 1074) = t := by omega
    refine ⟨0, 1073, 1, Nat.le_refl _, ?_, by decide, by decide, ?_, fun _ h => absurd h (by decide)⟩
    · have e1 : (2 : Nat) * 1 * 2 ^ 1073 = 2 ^ 1074 := by rw [Nat.mul_one, ← Nat.pow_succ']
      rw [e1]; rfl
    · rw [e, et, Nat.zero_mul, Nat.add_zero]
theorem near_neg {d : UInt64} (h : DS d) (hs : FP.Core.sgn (FP.Core.val64 d) = true) : -(neaC (FP.dneg d)) = nea d := by
  obtain ⟨n1, n2, n3⟩ := h.neg
  rw [hs] at n3
  obtain ⟨t, ht, hd, -⟩ := dl_t n1
  obtain ⟨d1, d2, d3⟩ := hd n3
  obtain ⟨f1, f2, f3, -⟩ := flo_v h
  obtain ⟨hH, hHF⟩ := half_v
  have hU := Upos
  -- the magnitude
  obtain ⟨s, c, q, ed⟩ := h.1
  have fd := FP.Core.val64_fits d
  rw [ed] at fd hs
  have hs2 : s = true := hs
  subst hs2
  have vX : v64 d = -((c * 2 ^ (q - FP.Core.b64.qmin).toNat : Nat) : Int) := by
    unfold v64 FP.Core.zval
    rw [ed]; rfl
  rw [n2, vX, Int.neg_neg] at d2 d3
  have hp := parts_of (c := c) (k := (q - FP.Core.b64.qmin).toNat) (t := t) fd.1 (by
    rw [← Int.natCast_mul] at d2
    exact Int.ofNat_le.mp d2) (by
    have e : ((t : Int) + 1) * (FP.Core.one64 : Int) = (((t + 1) * FP.Core.one64 : Nat) : Int) := by rw [Int.natCast_mul]; rfl
    rw [e] at d3
    exact Int.ofNat_lt.mp d3)
  obtain ⟨r, kk, T, k1, one, r1, r2, eX, rT⟩ := hp
  rw [eX] at vX
  have hpk := Nat.two_pow_pos kk
  have e1073 : (2 : Nat) ^ 1073 = T * 2 ^ kk := by
    have e1 : FP.Core.one64 = 2 * 2 ^ 1073 := by
      have : FP.Core.one64 = 2 ^ 1074 := rfl
      rw [this, ← Nat.pow_succ']
    have e2 : 2 * 2 ^ 1073 = 2 * (T * 2 ^ kk) := by rw [← e1, one, Nat.mul_assoc]
    exact Nat.eq_of_mul_eq_mul_left (by decide) e2
  rw [e1073] at hH
  -- the rest, as the class takes it
  have hDP : DP (FP.dneg d) := ⟨n1.1, n3⟩
  obtain ⟨lP, lv⟩ := ld_P (n := t) (by omega)
  obtain ⟨VP, Vv⟩ := dD_P (c := r) (k := kk) r1 (by omega)
  have hr := dsub_v hDP lP VP.1 (by
    rw [n2, vX, lv, Vv, Int.natCast_add, Int.natCast_mul]
    omega) VP.ge
  have hr1 : v64 (FP.dsub (FP.dneg d) (ld (t : Int))) = ((r * 2 ^ kk : Nat) : Int) := hr.1.trans Vv
  have zr := zd ((FP.Core.notNaN_iff _).mp (DFin.nn hr.2.1)) ((FP.Core.notNaN_iff _).mp (DFin.nn hHF)) CmpOp.l
  rw [hr1, hH] at zr
  -- as the reference does
  obtain ⟨l1, l2⟩ := ld_v (n := flo d) (by omega)
  have hm := fun V hV => dsub_le (a := d) (b := ld (flo d)) (V := V) h.1 l2 hV
  have hmn : FP.Core.val64 (FP.dsub d (ld (flo d))) ≠ .nan := (FP.Core.notNaN_iff _).mp (FP.Core.dsub_out (DFin.nn h.1) l2)
  have zm := zd hmn ((FP.Core.notNaN_iff _).mp (DFin.nn hHF)) CmpOp.l
  rw [hH] at zm
  have eC : neaC (FP.dneg d) = if T * 2 ^ kk < r * 2 ^ kk ∨ (r * 2 ^ kk = T * 2 ^ kk ∧ (t : Int) % 2 = 1) then (t : Int) + 1 else (t : Int) := by
    unfold neaC
    rw [d1]
    have z1 : (0 < zfc (FP.dcmp (FP.dsub (FP.dneg d) (ld (t : Int))) 4602678819172646912) CmpOp.l) ↔ T * 2 ^ kk < r * 2 ^ kk := zr.2.1.trans Int.ofNat_lt
    have z2 : (zfc (FP.dcmp (FP.dsub (FP.dneg d) (ld (t : Int))) 4602678819172646912) CmpOp.l = 0) ↔ r * 2 ^ kk = T * 2 ^ kk := zr.2.2.trans Int.ofNat_inj
    exact if_cg (or_congr z1 (and_congr z2 Iff.rfl)) _ _
  have eN : nea d = if ((T * 2 ^ kk : Nat) : Int) < v64 (FP.dsub d (ld (flo d))) ∨ (v64 (FP.dsub d (ld (flo d))) = ((T * 2 ^ kk : Nat) : Int) ∧ flo d % 2 = 1) then flo d + 1 else flo d := by
    unfold nea dm
    exact if_cg (or_congr zm.2.1 (and_congr zm.2.2 Iff.rfl)) _ _
  rw [eC, eN]
  generalize v64 (FP.dsub d (ld (flo d))) = mu at hm ⊢
  have hTp : 0 < T := by omega
  have hTk := Nat.mul_pos hTp hpk
  have hU2 : (FP.Core.one64 : Int) = 2 * ((T * 2 ^ kk : Nat) : Int) := by rw [one, Nat.mul_assoc, Int.natCast_mul 2]; rfl
  have hXi : v64 d = -((t : Int) * (FP.Core.one64 : Int) + ((r * 2 ^ kk : Nat) : Int)) := by rw [vX, Int.natCast_add, Int.natCast_mul]
  have hrT : r * 2 ^ kk < 2 * (T * 2 ^ kk) := by
    rw [← Nat.mul_assoc]
    exact Nat.mul_lt_mul_of_pos_right r2 hpk
  by_cases r0 : r = 0
  · -- a whole number
    subst r0
    rw [Nat.zero_mul] at hXi hrT ⊢
    have hf : flo d = -(t : Int) := by
      rw [hXi] at f1 f2
      have a1 := ubelow (a := flo d) (b := -(t : Int)) (X := -((t : Int) * (FP.Core.one64 : Int) + ((0 : Nat) : Int))) f1 (by rw [Int.add_mul, Int.neg_mul, Int.one_mul]; omega)
      have a2 := ubelow (a := -(t : Int)) (b := flo d) (X := -((t : Int) * (FP.Core.one64 : Int) + ((0 : Nat) : Int))) (by rw [Int.neg_mul]; omega) f2
      omega
    obtain ⟨ZP, Zv⟩ := dD_P (c := 0) (k := 0) (by decide) (by decide)
    have g := (hm _ ZP.1).1 (by rw [Zv, l1, hf, hXi, Int.neg_mul]; omega)
    rw [Zv] at g
    have g2 : mu ≤ 0 := g
    rw [if_neg (by omega), if_neg (by omega), hf]
  · have hrp : 0 < r * 2 ^ kk := Nat.mul_pos (by omega) hpk
    have hf : flo d = -((t : Int) + 1) := by
      rw [hXi] at f1 f2
      have a1 := ubelow (a := flo d) (b := -((t : Int) + 1)) f1 (by rw [show -((t : Int) + 1) + 1 = -(t : Int) by omega, Int.neg_mul]; omega)
      have a2 := ubelow (a := -((t : Int) + 1)) (b := flo d) (X := -((t : Int) * (FP.Core.one64 : Int) + ((r * 2 ^ kk : Nat) : Int))) (by rw [Int.neg_mul, Int.add_mul, Int.one_mul]; omega) f2
      omega
    have hD : v64 d - v64 (ld (flo d)) = 2 * ((T * 2 ^ kk : Nat) : Int) - ((r * 2 ^ kk : Nat) : Int) := by
      rw [l1, hf, hXi, Int.neg_mul, Int.add_mul, Int.one_mul, hU2]; omega
    rw [hD] at hm
    have hex : 2 * T - r < 2 ^ 53 → mu = 2 * ((T * 2 ^ kk : Nat) : Int) - ((r * 2 ^ kk : Nat) : Int) := fun hb => by
      obtain ⟨WP, Wv⟩ := dD_P (c := 2 * T - r) (k := kk) hb (by omega)
      have e : (((2 * T - r) * 2 ^ kk : Nat) : Int) = 2 * ((T * 2 ^ kk : Nat) : Int) - ((r * 2 ^ kk : Nat) : Int) := by
        rw [Nat.sub_mul, Nat.mul_assoc]; omega
      rw [e] at Wv
      have g := hm _ WP.1
      rw [Wv] at g
      have g1 := g.1 (Int.le_refl _)
      have g2 := g.2 (Int.le_refl _)
      omega
    have gH := hm _ hHF
    rw [hH] at gH
    rcases Nat.lt_trichotomy r T with c1 | c1 | c1
    · have c2 : r * 2 ^ kk < T * 2 ^ kk := Nat.mul_lt_mul_of_pos_right c1 hpk
      have g := gH.2 (by omega)
      rw [if_neg (by omega), hf]
      by_cases t0 : t = 0
      · subst t0
        by_cases e : ((T * 2 ^ kk : Nat) : Int) < mu
        · rw [if_pos (Or.inl e)]; omega
        · rw [if_pos (Or.inr ⟨by omega, by decide⟩)]; omega
      · have e := hex (by have := rT (by omega) (by omega); omega)
        rw [if_pos (Or.inl (by omega))]; omega
    · subst c1
      have g1 := gH.1 (by omega)
      have g2 := gH.2 (by omega)
      have e : mu = ((r * 2 ^ kk : Nat) : Int) := by omega
      rw [hf, e]
      by_cases t2 : (t : Int) % 2 = 1
      · rw [if_pos (Or.inr ⟨rfl, t2⟩), if_neg (by omega)]
      · rw [if_neg (by omega), if_pos (Or.inr ⟨rfl, by omega⟩)]; omega
    · have c2 : T * 2 ^ kk < r * 2 ^ kk := Nat.mul_lt_mul_of_pos_right c1 hpk
      have e := hex (by omega)
      rw [if_pos (Or.inl c2), if_neg (by omega), hf]
theorem near_d {d : UInt64} (h : DS d) : vf_n64 (FP.dsub d (ld (dl d))) ∧ vf_n64 (FP.dsub (FP.dneg d) (ld (dl (FP.dneg d)))) ∧ (if zfc (FP.dcmp d 0) CmpOp.g < 0 then -(neaC (FP.dneg d)) else neaC d) = nea d := by
  refine ⟨n64_of (FP.Core.dsub_out (DFin.nn h.1) (FP.Core.l2d_fin _)), n64_of (FP.Core.dsub_out (DFin.nn h.neg.1.1) (FP.Core.l2d_fin _)), ?_⟩
  have z0 := (zd h.nn (show FP.Core.val64 0 ≠ .nan by rw [FP.Core.val64_zero]; exact fun z => (by cases z)) CmpOp.g).1
  have e0 : v64 0 = 0 := FP.Core.zval64_zero
  rw [e0] at z0
  by_cases hs : FP.Core.sgn (FP.Core.val64 d) = false
  · have h0 : 0 ≤ v64 d := DP.ge ⟨h.1, hs⟩
    rw [if_neg (fun z => by have := z0.mp z; omega)]
    exact nea_same ((flo_v h).2.2.2 hs)
  · have hs' : FP.Core.sgn (FP.Core.val64 d) = true := by
      cases hq : FP.Core.sgn (FP.Core.val64 d)
      · exact absurd hq hs
      · rfl
    by_cases c : zfc (FP.dcmp d 0) CmpOp.g < 0
    · rw [if_pos c]; exact near_neg h hs'
    · rw [if_neg c]
      refine nea_same ?_
      have hU := Upos
      have hx : ¬ v64 d < 0 := fun z => c (z0.mpr z)
      obtain ⟨n, -, -, hn⟩ := dl_t h
      obtain ⟨n1, n2, n3⟩ := hn hs'
      obtain ⟨f1, f2, -⟩ := flo_v h
      have p0 : 0 ≤ (n : Int) * (FP.Core.one64 : Int) := Int.mul_nonneg (by omega) (by omega)
      have a1 := ubelow (a := (n : Int)) (b := 0) (X := 0) (by omega) (by omega)
      have a2 := ubelow (a := flo d) (b := 0) (X := 0) (by omega) (by omega)
      have a3 := ubelow (a := 0) (b := flo d) (X := 0) (by omega) (by omega)
      rw [n1]; omega
end NR
