def spl (m : Nat → Int → Int) (f : Nat → Int → UInt32) (p w : Int) : Nat → UInt32
  | 0 => 0
  | k + 1 => if 0 ≤ plc m p k w then (if 0 < zfc (FP.fcmp (B m f (m 7 (9 * p + k)) (plc m p k w)) (spl m f p w k)) CmpOp.l then B m f (m 7 (9 * p + k)) (plc m p k w) else spl m f p w k) else spl m f p w k
theorem spl_bs {m : Nat → Int → Int} {f : Nat → Int → UInt32} (hW : WF m f) {p w : Int} (hp : live m p) (h0 : 0 ≤ w) (h1 : w < m 2 p) (h5 : m 1 p = 5) : spl m f p w 2 = bs m f (B m f) p w := by
  have h6 := ((hW.parts p hp.1 hp.2.1).2 h5)
  have hp5 := plc_5 hW hp.1 hp.2.1 h0 h1 h5
  have l0 := live_part hW hp (k := 0) (by omega) (by omega)
  have l1 := live_part hW hp (k := 1) (by omega) (by omega)
  have b0 := plc_b hW hp.1 hp.2.1 (k := 0) (by omega) (by omega) h0 h1
  have b1 := plc_b hW hp.1 hp.2.1 (k := 1) (by omega) (by omega) h0 h1
  rw [Int.add_zero] at l0 b0
  have e1 : spl m f p w 1 = if 0 ≤ plc m p 0 w then B m f (m 7 (9 * p)) (plc m p 0 w) else 0 := by
    show (if 0 ≤ plc m p ((0 : Nat) : Int) w then _ else _) = _
    rw [show ((0 : Nat) : Int) = 0 from rfl, Int.add_zero]
    by_cases c : 0 ≤ plc m p 0 w
    · rw [if_pos c, if_pos c]
      have ok := B_ok hW l0.1 c (by omega)
      by_cases c2 : 0 < zfc (FP.fcmp (B m f (m 7 (9 * p)) (plc m p 0 w)) (spl m f p w 0)) CmpOp.l
      · rw [if_pos c2]
      · rw [if_neg c2]
        have c3 : ¬ (0 : UInt32).toNat < (B m f (m 7 (9 * p)) (plc m p 0 w)).toNat := fun q => c2 ((fcl ok ok0).2.mpr q)
        apply UInt32.toNat_inj.mp
        show (0 : UInt32).toNat = _
        have z0 : (0 : UInt32).toNat = 0 := rfl
        rw [z0] at c3 ⊢
        omega
    · rw [if_neg c, if_neg c]; rfl
  show (if 0 ≤ plc m p ((1 : Nat) : Int) w then (if 0 < zfc (FP.fcmp (B m f (m 7 (9 * p + ((1 : Nat) : Int))) (plc m p ((1 : Nat) : Int) w)) (spl m f p w 1)) CmpOp.l then B m f (m 7 (9 * p + ((1 : Nat) : Int))) (plc m p ((1 : Nat) : Int) w) else spl m f p w 1) else spl m f p w 1) = _
  rw [show ((1 : Nat) : Int) = 1 from rfl, e1]
  unfold bs
  rw [if_neg (show ¬ m 1 p = 0 by omega), if_neg (show ¬ m 1 p = 4 by omega), if_pos h5]
  by_cases c0 : 0 ≤ plc m p 0 w
  · rw [if_pos c0, if_neg (show ¬ plc m p 0 w < 0 by omega)]
    by_cases c1 : 0 ≤ plc m p 1 w
    · rw [if_pos c1]
      have k0 := B_ok hW l0.1 c0 (by omega)
      have k1 := B_ok hW l1.1 c1 (by omega)
      by_cases c2 : 0 < zfc (FP.fcmp (B m f (m 7 (9 * p + 1)) (plc m p 1 w)) (B m f (m 7 (9 * p)) (plc m p 0 w))) CmpOp.l
      · have c3 := (fcl k0 k1).1.mpr ((fcl k1 k0).2.mp c2)
        rw [if_pos c2, if_neg (fun q => q.elim (fun q => by omega) (fun q => q c3))]
      · have c3 : ¬ zfc (FP.fcmp (B m f (m 7 (9 * p)) (plc m p 0 w)) (B m f (m 7 (9 * p + 1)) (plc m p 1 w))) CmpOp.l < 0 := fun q => c2 ((fcl k1 k0).2.mpr ((fcl k0 k1).1.mp q))
        rw [if_neg c2, if_pos (Or.inr c3)]
    · rw [if_neg c1, if_pos (Or.inl (by omega))]
  · have c1 : 0 ≤ plc m p 1 w := by omega
    rw [if_neg c0, if_pos c1, if_pos (show plc m p 0 w < 0 by omega)]
    have k1 := B_ok hW l1.1 c1 (by omega)
    by_cases c2 : 0 < zfc (FP.fcmp (B m f (m 7 (9 * p + 1)) (plc m p 1 w)) 0) CmpOp.l
    · rw [if_pos c2]
    · rw [if_neg c2]
      have c3 : ¬ (0 : UInt32).toNat < (B m f (m 7 (9 * p + 1)) (plc m p 1 w)).toNat := fun q => c2 ((fcl k1 ok0).2.mpr q)
      apply UInt32.toNat_inj.mp
      have z0 : (0 : UInt32).toNat = 0 := rfl
      rw [z0] at c3 ⊢
      omega
theorem plc_at {m : Nat → Int → Int} {p k y F : Int} (h5 : m 1 p = 5) (hF : F = if k = 0 then 0 else m 2 (m 7 (9 * p)) - m 9 p) : plc m p k y = if 0 ≤ y - F ∧ y - F < m 2 (m 7 (9 * p + k)) then y - F else -1 := by
  unfold plc
  rw [if_pos h5]
  have e : (if k = 0 then y else y - m 2 (m 7 (9 * p)) + m 9 p) = y - F := by rw [hF]; split <;> omega
  rw [e]
theorem steadk.mono {m : Nat → Int → Int} {f : Nat → Int → UInt32} {p k w s s1 : Int} (h : steadk m f p k w s) (hs : s1 ≤ s) : steadk m f p k w s1 := fun y a b c => h y a (by omega) c
theorem wk_steady {m : Nat → Int → Int} {f : Nat → Int → UInt32} (hW : WF m f) {p w s : Int} (hp : live m p) (h0 : 0 ≤ w) (hs : steady m f p w s) : wk m f p (s - 1).toNat = if zfc (FP.fcmp (B m f p w) (B m f p (wk m f p (w - 1).toNat))) CmpOp.g < 0 then w else wk m f p (w - 1).toNat := by
  obtain ⟨s1, s2, s3⟩ := hs
  have okw := B_ok hW hp h0 (by omega)
  have hwb := wk_b (m := m) (f := f) (p := p) (n := (w - 1).toNat)
  have okv' := B_ok hW hp hwb.1 (by omega)
  have key : ∀ n : Nat, w ≤ n → (n : Int) < s → wk m f p n = if zfc (FP.fcmp (B m f p w) (B m f p (wk m f p (w - 1).toNat))) CmpOp.g < 0 then w else wk m f p (w - 1).toNat := by
    intro n
    induction n with
    | zero =>
      intro a b
      have e : w = 0 := by omega
      subst e
      show (0 : Int) = if zfc (FP.fcmp (B m f p 0) (B m f p 0)) CmpOp.g < 0 then 0 else 0
      split <;> rfl
    | succ n ih =>
      intro a b
      show (if zfc (FP.fcmp (B m f p ((n : Int) + 1)) (B m f p (wk m f p n))) CmpOp.g < 0 then (n : Int) + 1 else wk m f p n) = _
      by_cases e : w = (n : Int) + 1
      · rw [show (w - 1).toNat = n by omega, ← e]
      · rw [ih (by omega) (by omega), s3 ((n : Int) + 1) (by omega) (by omega)]
        by_cases c : zfc (FP.fcmp (B m f p w) (B m f p (wk m f p (w - 1).toNat))) CmpOp.g < 0
        · simp only [if_pos c]
          rw [if_neg (fun q => by have := (fcg okw okw).mp q; omega)]
        · simp only [if_neg c]
  have := key (s - 1).toNat (by omega) (by omega)
  exact this
set_option maxRecDepth 20000 in
theorem c_worn {m : Nat → Int → Int} {f : Nat → Int → UInt32} {a : Nat → Int → Nat} {t : zT} (hR : CA m f a t) {p w : Int} (hW : WF m f) (hX : XI m f) (hp : live m p) (hw : 0 ≤ w ∧ w < m 2 p) : zM yX3_worn cX3_worn 5 (some .float) 0 0 0 [vR (rf a 6 p), vI w, vF (bs m f (B m f) p w)] t (fun r t1 => r = some (vF (B m f p w)) ∧ CA m f a t1) := by
  refine zM.of2 [(0, vR (rf a 6 p)), (1, vI w), (2, vF (bs m f (B m f) p w))] (by decide +kernel) rfl (Nat.le_of_ble_eq_true rfl) ?_
  have hn1 := hW.n.1
  have hn2 := hW.n.2
  have h60 := hX.1.1
  have h62 := hX.1.2.1
  have h64 := hX.1.2.2
  obtain ⟨hp1, hp2, hp3⟩ := id hp
  have hB := hW.b hp1 hp2
  have hNU := B_nums hW hp hw.1 hw.2
  have L5 : ∀ (fuel : Nat) (k : Nat) (t : zT) (hR : CA m f a t) (hk : (k : Int) ≤ m 10 p ∨ k = 0) (hf : 8 - (k : Int) < (fuel : Int)), zOK yX3_worn cX3_worn 5 (some .float) 0 0 0 (fun r t1 => r = some (vF (B m f p w)) ∧ CA m f a t1) 0 0 5 [(4, vI (k : Int)), (3, vF (wr m f p w (bs m f (B m f) p w) k)), (0, vR (rf a 6 p)), (1, vI w)] [] t := by
    intro fuel
    induction fuel with
    | zero => intro k t hR hk hf; exfalso; omega
    | succ fuel ih5 =>
      intro k t hR hk hf
      refine z_iload 7 dX3_worn_5 rfl rfl ?_
      refine z_aload_n 8 dX3_worn_7 rfl rfl ?_
      refine c_getI 11 10 hR fl_X3_137 (by decide) (show cLive m 6 p from lp ⟨by omega, by omega⟩) (show _ = m 10 p from rfl) dX3_worn_8 rfl ?_
      refine z_icmp_ge 73 14 dX3_worn_11 (by decide) rfl ⟨by omega, by omega⟩ ⟨by omega, by omega⟩ (fun h11 => ?_) (fun h11 => ?_)
      · refine z_fload_n 74 dX3_worn_73 rfl rfl ?_
        refine z_freturn rfl dX3_worn_74 (by decide) (by decide) ?_
        have hkk : k = (m 10 p).toNat := by omega
        subst hkk
        exact ⟨congrArg (fun z => some (vF z)) (B_eq hW.parts hp1 hp2 w).symm, hR⟩
      · refine z_iload 16 dX3_worn_14 rfl rfl ?_
        refine z_bipush 18 dX3_worn_16 rfl ⟨by decide, by decide⟩ ?_
        refine z_icmp_ge 73 21 dX3_worn_18 (by decide) rfl ⟨by omega, by omega⟩ ⟨by omega, by omega⟩ (fun h18 => ?_) (fun h18 => ?_)
        · refine z_fload_n 74 dX3_worn_73 rfl rfl ?_
          refine z_freturn rfl dX3_worn_74 (by decide) (by decide) ?_
          have hkk : k = (m 10 p).toNat := by omega
          subst hkk
          exact ⟨congrArg (fun z => some (vF z)) (B_eq hW.parts hp1 hp2 w).symm, hR⟩
        · obtain ⟨hs1, hs2, hs3, hs4⟩ := (hX.p hp1 hp2).2.2.2.2.2 k (by omega) (by omega)
          have hs5 := fun h => (hs4 h).1
          have hs6 := fun h => (hs4 h).2.1
          have hs7 := fun h => (hs4 h).2.2
          clear hs4
          obtain ⟨hq1, hq2, hq3, hq4, hq5, hq6, -⟩ := (hW.2.1 p hp1 hp2).2.2.2.2.2.1 k (by omega) (by omega)
          refine z_aload_n 22 dX3_worn_21 rfl rfl ?_
          refine c_getL 25 10 hR fl_X3_155 (by decide) (show cLive m 6 p from lp ⟨by omega, by omega⟩) dX3_worn_22 rfl ?_
          refine z_iload 27 dX3_worn_25 rfl rfl ?_
          refine c_iald 28 54 hR (c := 8) 8 (by decide) (show _ = 8 * p + ((k : Int)) from rfl) (show cLive m 10 p from lp ⟨by omega, by omega⟩) rfl rfl ⟨by omega, by omega⟩ (show _ = m 54 (8 * p + ((k : Int))) from rfl) dX3_worn_27 rfl ?_
          refine z_if_lt 67 31 dX3_worn_28 (by decide) rfl ⟨by omega, by omega⟩ (fun h28 => ?_) (fun h28 => ?_)
          · refine z_sub (lv' := [(3, vF (wr m f p w (bs m f (B m f) p w) (k + 1))), (4, _), (0, _), (1, _)]) ⟨congrArg (fun z => some (vF z)) ?_, rfl, rfl, rfl, trivial⟩ ?_
            · show _ = if m 11 (8 * p + (k : Int)) = 1 ∧ m 12 (8 * p + (k : Int)) ≤ w ∧ w ≤ m 13 (8 * p + (k : Int)) then FP.fmul (wr m f p w (bs m f (B m f) p w) k) (f 14 (8 * p + (k : Int))) else wr m f p w (bs m f (B m f) p w) k
              first | (rw [if_neg (by omega)]) | (rw [if_pos (by omega), hs7 (by omega)])
            refine z_iinc (lv' := [(4, _), (3, _), (0, _), (1, _)]) 70 dX3_worn_67 rfl rfl rfl rfl ?_
            refine z_goto 5 dX3_worn_70 (by decide) ?_
            refine z_sub (lv' := [(4, _), (3, _), (0, _), (1, _)]) ⟨rfl, rfl, rfl, rfl, trivial⟩ ?_
            exact ih5 (k + 1) _ hR (by omega) (by omega)
          · refine z_aload_n 32 dX3_worn_31 rfl rfl ?_
            refine c_getL 35 8 hR fl_X3_158 (by decide) (show cLive m 6 p from lp ⟨by omega, by omega⟩) dX3_worn_32 rfl ?_
            refine z_iload 37 dX3_worn_35 rfl rfl ?_
            refine c_iald 38 52 hR (c := 8) 8 (by decide) (show _ = 8 * p + ((k : Int)) from rfl) (show cLive m 8 p from lp ⟨by omega, by omega⟩) rfl rfl ⟨by omega, by omega⟩ (show _ = m 52 (8 * p + ((k : Int))) from rfl) dX3_worn_37 rfl ?_
            refine z_iload_n 39 dX3_worn_38 rfl rfl ?_
            refine z_icmp_gt 67 42 dX3_worn_39 (by decide) rfl ⟨by omega, by omega⟩ ⟨by omega, by omega⟩ (fun h39 => ?_) (fun h39 => ?_)
            · refine z_sub (lv' := [(3, vF (wr m f p w (bs m f (B m f) p w) (k + 1))), (4, _), (0, _), (1, _)]) ⟨congrArg (fun z => some (vF z)) ?_, rfl, rfl, rfl, trivial⟩ ?_
              · show _ = if m 11 (8 * p + (k : Int)) = 1 ∧ m 12 (8 * p + (k : Int)) ≤ w ∧ w ≤ m 13 (8 * p + (k : Int)) then FP.fmul (wr m f p w (bs m f (B m f) p w) k) (f 14 (8 * p + (k : Int))) else wr m f p w (bs m f (B m f) p w) k
                first | (rw [if_neg (by omega)]) | (rw [if_pos (by omega), hs7 (by omega)])
              refine z_iinc (lv' := [(4, _), (3, _), (0, _), (1, _)]) 70 dX3_worn_67 rfl rfl rfl rfl ?_
              refine z_goto 5 dX3_worn_70 (by decide) ?_
              refine z_sub (lv' := [(4, _), (3, _), (0, _), (1, _)]) ⟨rfl, rfl, rfl, rfl, trivial⟩ ?_
              exact ih5 (k + 1) _ hR (by omega) (by omega)
            · refine z_iload_n 43 dX3_worn_42 rfl rfl ?_
              refine z_aload_n 44 dX3_worn_43 rfl rfl ?_
              refine c_getL 47 9 hR fl_X3_161 (by decide) (show cLive m 6 p from lp ⟨by omega, by omega⟩) dX3_worn_44 rfl ?_
              refine z_iload 49 dX3_worn_47 rfl rfl ?_
              refine c_iald 50 53 hR (c := 8) 8 (by decide) (show _ = 8 * p + ((k : Int)) from rfl) (show cLive m 9 p from lp ⟨by omega, by omega⟩) rfl rfl ⟨by omega, by omega⟩ (show _ = m 53 (8 * p + ((k : Int))) from rfl) dX3_worn_49 rfl ?_
              refine z_icmp_gt 67 53 dX3_worn_50 (by decide) rfl ⟨by omega, by omega⟩ ⟨by omega, by omega⟩ (fun h50 => ?_) (fun h50 => ?_)
              · refine z_sub (lv' := [(3, vF (wr m f p w (bs m f (B m f) p w) (k + 1))), (4, _), (0, _), (1, _)]) ⟨congrArg (fun z => some (vF z)) ?_, rfl, rfl, rfl, trivial⟩ ?_
                · show _ = if m 11 (8 * p + (k : Int)) = 1 ∧ m 12 (8 * p + (k : Int)) ≤ w ∧ w ≤ m 13 (8 * p + (k : Int)) then FP.fmul (wr m f p w (bs m f (B m f) p w) k) (f 14 (8 * p + (k : Int))) else wr m f p w (bs m f (B m f) p w) k
                  first | (rw [if_neg (by omega)]) | (rw [if_pos (by omega), hs7 (by omega)])
                refine z_iinc (lv' := [(4, _), (3, _), (0, _), (1, _)]) 70 dX3_worn_67 rfl rfl rfl rfl ?_
                refine z_goto 5 dX3_worn_70 (by decide) ?_
                refine z_sub (lv' := [(4, _), (3, _), (0, _), (1, _)]) ⟨rfl, rfl, rfl, rfl, trivial⟩ ?_
                exact ih5 (k + 1) _ hR (by omega) (by omega)
              · refine z_fload_n 54 dX3_worn_53 rfl rfl ?_
                refine z_aload_n 55 dX3_worn_54 rfl rfl ?_
                refine c_getL 58 10 hR fl_X3_155 (by decide) (show cLive m 6 p from lp ⟨by omega, by omega⟩) dX3_worn_55 rfl ?_
                refine z_iload 60 dX3_worn_58 rfl rfl ?_
                refine c_iald 61 54 hR (c := 8) 8 (by decide) (show _ = 8 * p + ((k : Int)) from rfl) (show cLive m 10 p from lp ⟨by omega, by omega⟩) rfl rfl ⟨by omega, by omega⟩ (show _ = m 54 (8 * p + ((k : Int))) from rfl) dX3_worn_60 rfl ?_
                refine z_i2f 62 dX3_worn_61 rfl ?_
                refine z_ldcf 64 co_X3_44 dX3_worn_62 rfl ?_
                refine z_fmul 65 dX3_worn_64 rfl (E8_num (by omega) (by omega)) ?_
                refine z_top (w := vF (E8 (m 54 (8 * p + (k : Int))))) rfl ?_
                refine z_fmul 66 dX3_worn_65 rfl (by rw [← hs7 (by omega)]; exact hNU.2.2.2.2.2 k (by omega) (by omega)) ?_
                refine z_fstore_n (lv' := [(3, _), (4, _), (0, _), (1, _)]) 67 dX3_worn_66 rfl rfl rfl ?_
                refine z_sub (lv' := [(3, vF (wr m f p w (bs m f (B m f) p w) (k + 1))), (4, _), (0, _), (1, _)]) ⟨congrArg (fun z => some (vF z)) ?_, rfl, rfl, rfl, trivial⟩ ?_
                · show _ = if m 11 (8 * p + (k : Int)) = 1 ∧ m 12 (8 * p + (k : Int)) ≤ w ∧ w ≤ m 13 (8 * p + (k : Int)) then FP.fmul (wr m f p w (bs m f (B m f) p w) k) (f 14 (8 * p + (k : Int))) else wr m f p w (bs m f (B m f) p w) k
                  first | (rw [if_neg (by omega)]) | (rw [if_pos (by omega), hs7 (by omega)])
                refine z_iinc (lv' := [(4, _), (3, _), (0, _), (1, _)]) 70 dX3_worn_67 rfl rfl rfl rfl ?_
                refine z_goto 5 dX3_worn_70 (by decide) ?_
                refine z_sub (lv' := [(4, _), (3, _), (0, _), (1, _)]) ⟨rfl, rfl, rfl, rfl, trivial⟩ ?_
                exact ih5 (k + 1) _ hR (by omega) (by omega)
  refine z_fload_n 1 dX3_worn_0 rfl rfl ?_
  refine z_fstore_n (lv' := [(3, _), (0, _), (1, _), (2, _)]) 2 dX3_worn_1 rfl rfl rfl ?_
  refine z_iconst 3 dX3_worn_2 rfl ?_
  refine z_istore (lv' := [(4, _), (3, _), (0, _), (1, _), (2, _)]) 5 dX3_worn_3 rfl rfl rfl ?_
  refine z_sub (lv' := [(4, _), (3, _), (0, _), (1, _)]) ⟨rfl, rfl, rfl, rfl, trivial⟩ ?_
  exact L5 9 0 _ hR (by omega) (by omega)
set_option maxRecDepth 20000 in
theorem c_placeOn {m : Nat → Int → Int} {f : Nat → Int → UInt32} {a : Nat → Int → Nat} {t : zT} (hR : CA m f a t) {q p w : Int} (hW : WF m f) (hX : XI m f) (hq : 0 ≤ q ∧ q < m 0 0) (hp : 0 ≤ p ∧ p < m 0 0) (hw : 0 ≤ w ∧ w ≤ 2000) : zM yX3_placeOn cX3_placeOn 3 (some .int) 0 0 0 [vR (rf a 6 q), vR (rf a 6 p), vI w] t (fun r t1 => r = some (vI (w * m 2 q / m 2 p)) ∧ CA m f a t1) := by
  refine zM.of2 [(0, vR (rf a 6 q)), (1, vR (rf a 6 p)), (2, vI w)] (by decide +kernel) rfl (Nat.le_of_ble_eq_true rfl) ?_
  have hn1 := hW.n.1
  have hn2 := hW.n.2
  have h60 := hX.1.1
  have h62 := hX.1.2.1
  have h64 := hX.1.2.2
  have hBq := hW.b hq.1 hq.2
  have hBp := hW.b hp.1 hp.2
  have hzz := Int.mul_nonneg hw.1 (show 0 ≤ m 2 q by omega)
  have hzy : w * m 2 q ≤ 2000 * 2000 := Int.mul_le_mul (by omega) (by omega) (by omega) (by decide)
  refine z_aload_n 1 dX3_placeOn_0 rfl rfl ?_
  refine c_getI 4 2 hR fl_X3_113 (by decide) (show cLive m 6 p from lp ⟨by omega, by omega⟩) (show _ = m 2 p from rfl) dX3_placeOn_1 rfl ?_
  refine z_iconst 5 dX3_placeOn_4 rfl ?_
  refine z_icmp_ge 12 8 dX3_placeOn_5 (by decide) rfl ⟨by omega, by omega⟩ ⟨by omega, by omega⟩ (fun h5 => ?_) (fun h5 => ?_)
  · refine z_iload_n 13 dX3_placeOn_12 rfl rfl ?_
    refine z_aload_n 14 dX3_placeOn_13 rfl rfl ?_
    refine c_getI 17 2 hR fl_X3_113 (by decide) (show cLive m 6 q from lp ⟨by omega, by omega⟩) (show _ = m 2 q from rfl) dX3_placeOn_14 rfl ?_
    refine z_imul 18 dX3_placeOn_17 rfl ?_
    refine z_aload_n 19 dX3_placeOn_18 rfl rfl ?_
    refine c_getI 22 2 hR fl_X3_113 (by decide) (show cLive m 6 p from lp ⟨by omega, by omega⟩) (show _ = m 2 p from rfl) dX3_placeOn_19 rfl ?_
    refine z_idiv 23 dX3_placeOn_22 rfl ⟨by omega, by omega⟩ ⟨by omega, by omega⟩ (by omega) ?_
    refine z_ireturn rfl dX3_placeOn_23 (by decide) (by decide) ?_
    first | (exfalso; omega) | exact ⟨congrArg (fun z => some (vI z)) (Int.tdiv_eq_ediv_of_nonneg hzz), hR⟩
  · refine z_iconst 9 dX3_placeOn_8 rfl ?_
    refine z_goto 23 dX3_placeOn_9 (by decide) ?_
    refine z_ireturn rfl dX3_placeOn_23 (by decide) (by decide) ?_
    first | (exfalso; omega) | exact ⟨congrArg (fun z => some (vI z)) (Int.tdiv_eq_ediv_of_nonneg hzz), hR⟩
set_option maxRecDepth 20000 in
theorem c_splicedFrom {m : Nat → Int → Int} {f : Nat → Int → UInt32} {a : Nat → Int → Nat} {t : zT} (hR : CA m f a t) {p k : Int} (hW : WF m f) (hX : XI m f) (hp : 0 ≤ p ∧ p < m 0 0) (hk : 0 ≤ k ∧ k ≤ 9) : zM yX3_splicedFrom cX3_splicedFrom 2 (some .int) 0 0 0 [vR (rf a 6 p), vI k] t (fun r t1 => r = some (vI (if k = 0 then 0 else m 55 p)) ∧ CA m f a t1) := by
  refine zM.of2 [(0, vR (rf a 6 p)), (1, vI k)] (by decide +kernel) rfl (Nat.le_of_ble_eq_true rfl) ?_
  have hn1 := hW.n.1
  have hn2 := hW.n.2
  have h60 := hX.1.1
  have h62 := hX.1.2.1
  have h64 := hX.1.2.2
  refine z_iload_n 1 dX3_splicedFrom_0 rfl rfl ?_
  refine z_if_ne 8 4 dX3_splicedFrom_1 (by decide) rfl ⟨by omega, by omega⟩ (fun h1 => ?_) (fun h1 => ?_)
  · refine z_aload_n 9 dX3_splicedFrom_8 rfl rfl ?_
    refine c_getI 12 55 hR fl_X3_134 (by decide) (show cLive m 6 p from lp ⟨by omega, by omega⟩) (show _ = m 55 p from rfl) dX3_splicedFrom_9 rfl ?_
    refine z_ireturn rfl dX3_splicedFrom_12 (by decide) (by decide) ?_
    first | exact ⟨congrArg (fun z => some (vI z)) (if_pos (by omega)).symm, hR⟩ | exact ⟨congrArg (fun z => some (vI z)) (if_neg (by omega)).symm, hR⟩
  · refine z_iconst 5 dX3_splicedFrom_4 rfl ?_
    refine z_goto 12 dX3_splicedFrom_5 (by decide) ?_
    refine z_ireturn rfl dX3_splicedFrom_12 (by decide) (by decide) ?_
    first | exact ⟨congrArg (fun z => some (vI z)) (if_pos (by omega)).symm, hR⟩ | exact ⟨congrArg (fun z => some (vI z)) (if_neg (by omega)).symm, hR⟩
set_option maxRecDepth 20000 in
theorem c_laidBase {m : Nat → Int → Int} {f : Nat → Int → UInt32} {a : Nat → Int → Nat} {t : zT} (hR : CA m f a t) {N : Nat} {p w dp : Int} (hW : WF m f) (hX : XI m f) (hp : live m p) (hw : 0 ≤ w ∧ w < m 2 p) (hd : 0 ≤ dp ∧ dp + hgt m p ≤ 40) (hg : hgt m p < N + 1) (hk3 : m 1 p = 1 ∨ m 1 p = 2 ∨ m 1 p = 3) (IH : ∀ (q z e : Int) (t : zT), CA m f a t → live m q → hgt m q < N → 0 ≤ z → z < m 2 q → 0 ≤ e → e + hgt m q ≤ 40 → zM yX3_bearing cX3_bearing 4 (some .float) (2 * N + 2) 0 0 [vR (rf a 6 q), vI z, vI e] t (fun r t1 => r = some (vF (B m f q z)) ∧ CA m f a t1)) : zM yX3_laidBase cX3_laidBase 6 (some .float) (2 * N + 3) 0 0 [vR (rf a 6 p), vI w, vI dp] t (fun r t1 => r = some (vF (bs m f (B m f) p w)) ∧ CA m f a t1) := by
  refine zM.of2 [(0, vR (rf a 6 p)), (1, vI w), (2, vI dp)] (by decide +kernel) rfl (Nat.le_of_ble_eq_true rfl) ?_
  have hn1 := hW.n.1
  have hn2 := hW.n.2
  have h60 := hX.1.1
  have h62 := hX.1.2.1
  have h64 := hX.1.2.2
  obtain ⟨hp1, hp2, hp3⟩ := id hp
  have hB := hW.b hp1 hp2
  have hNU := B_nums hW hp hw.1 hw.2
  have L5 : ∀ (fuel : Nat) (k : Nat) (t : zT) (hR : CA m f a t) (hk : (k : Int) ≤ m 6 p) (hf : m 6 p - k < (fuel : Int)), zOK yX3_laidBase cX3_laidBase 6 (some .float) (2 * N + 3) 0 0 (fun r t1 => r = some (vF (bs m f (B m f) p w)) ∧ CA m f a t1) 0 0 5 [(4, vI (k : Int)), (3, vF (sm m (B m f) p w k)), (0, vR (rf a 6 p)), (1, vI w), (2, vI dp)] [] t := by
    intro fuel
    induction fuel with
    | zero => intro k t hR hk hf; exfalso; omega
    | succ fuel ih5 =>
      intro k t hR hk hf
      refine z_iload 7 dX3_laidBase_5 rfl rfl ?_
      refine z_aload_n 8 dX3_laidBase_7 rfl rfl ?_
      refine c_getL 11 7 hR fl_X3_125 (by decide) (show cLive m 6 p from lp ⟨by omega, by omega⟩) dX3_laidBase_8 rfl ?_
      refine c_alen 12 hR (by decide) (show cLive m 7 p from lp ⟨by omega, by omega⟩) (show _ = m 6 p from Int.toNat_of_nonneg (by omega)) dX3_laidBase_11 rfl ?_
      refine z_icmp_ge 53 15 dX3_laidBase_12 (by decide) rfl ⟨by omega, by omega⟩ ⟨by omega, by omega⟩ (fun h12 => ?_) (fun h12 => ?_)
      · have hkk : (m 6 p).toNat = k := by omega
        refine z_aload_n 54 dX3_laidBase_53 rfl rfl ?_
        refine c_getI 57 1 hR fl_X3_103 (by decide) (show cLive m 6 p from lp ⟨by omega, by omega⟩) (show _ = m 1 p from rfl) dX3_laidBase_54 rfl ?_
        refine z_iconst 58 dX3_laidBase_57 rfl ?_
        refine z_icmp_ne 66 61 dX3_laidBase_58 (by decide) rfl ⟨by omega, by omega⟩ ⟨by omega, by omega⟩ (fun h58 => ?_) (fun h58 => ?_)
        · refine z_aload_n 67 dX3_laidBase_66 rfl rfl ?_
          refine c_getI 70 1 hR fl_X3_103 (by decide) (show cLive m 6 p from lp ⟨by omega, by omega⟩) (show _ = m 1 p from rfl) dX3_laidBase_67 rfl ?_
          refine z_iconst 71 dX3_laidBase_70 rfl ?_
          refine z_icmp_ne 81 74 dX3_laidBase_71 (by decide) rfl ⟨by omega, by omega⟩ ⟨by omega, by omega⟩ (fun h71 => ?_) (fun h71 => ?_)
          · refine z_fload_n 82 dX3_laidBase_81 rfl rfl ?_
            refine z_ldcf 84 co_X3_197 dX3_laidBase_82 rfl ?_
            refine z_fmul 85 dX3_laidBase_84 rfl (by rw [← hkk]; exact hNU.2.2.2.2.1 (by omega)) ?_
            refine z_freturn rfl dX3_laidBase_85 (by decide) (by decide) ?_
            refine ⟨congrArg (fun z => some (vF z)) ?_, hR⟩
            unfold bs
            rw [if_neg (by omega), if_neg (by omega), if_neg (by omega), hkk]
            first | rw [if_pos (by omega)] | rw [if_neg (by omega), if_pos (by omega)] | rw [if_neg (by omega), if_neg (by omega)]
          · refine z_fload_n 75 dX3_laidBase_74 rfl rfl ?_
            refine z_ldcf 77 co_X3_196 dX3_laidBase_75 rfl ?_
            refine z_fmul 78 dX3_laidBase_77 rfl (by rw [← hkk]; exact hNU.2.2.2.1 (by omega)) ?_
            refine z_goto 85 dX3_laidBase_78 (by decide) ?_
            refine z_freturn rfl dX3_laidBase_85 (by decide) (by decide) ?_
            refine ⟨congrArg (fun z => some (vF z)) ?_, hR⟩
            unfold bs
            rw [if_neg (by omega), if_neg (by omega), if_neg (by omega), hkk]
            first | rw [if_pos (by omega)] | rw [if_neg (by omega), if_pos (by omega)] | rw [if_neg (by omega), if_neg (by omega)]
        · refine z_fload_n 62 dX3_laidBase_61 rfl rfl ?_
          refine z_ldcf 64 co_X3_195 dX3_laidBase_62 rfl ?_
          refine z_fmul 65 dX3_laidBase_64 rfl (by rw [← hkk]; exact hNU.2.2.1 (by omega)) ?_
          refine z_freturn rfl dX3_laidBase_65 (by decide) (by decide) ?_
          refine ⟨congrArg (fun z => some (vF z)) ?_, hR⟩
          unfold bs
          rw [if_neg (by omega), if_neg (by omega), if_neg (by omega), hkk]
          first | rw [if_pos (by omega)] | rw [if_neg (by omega), if_pos (by omega)] | rw [if_neg (by omega), if_neg (by omega)]
      · refine z_aload_n 16 dX3_laidBase_15 rfl rfl ?_
        refine c_getL 19 7 hR fl_X3_125 (by decide) (show cLive m 6 p from lp ⟨by omega, by omega⟩) dX3_laidBase_16 rfl ?_
        refine z_iload 21 dX3_laidBase_19 rfl rfl ?_
        refine c_aald 22 7 hR (c := 9) (m 6 p).toNat (by decide) (show _ = 9 * p + ((k : Int)) from rfl) (show cLive m 7 p from lp ⟨by omega, by omega⟩) rfl (by omega) ⟨by omega, by omega⟩ (show _ = m 7 (9 * p + ((k : Int))) from rfl) dX3_laidBase_21 rfl (fun hl21 => ?_)
        refine z_astore (lv' := [(5, _), (4, _), (3, _), (0, _), (1, _), (2, _)]) 24 dX3_laidBase_22 rfl rfl rfl ?_
        have hpk := live_part hW hp (k := (k : Int)) (by omega) (by omega)
        obtain ⟨⟨hq1, hq2, hq3⟩, hq4⟩ := id hpk
        have hgk := hgt_part hW hp1 hp2 (k := (k : Int)) (by omega) (by omega)
        have hBk := hW.b hq1 hq2
        have hpb := plc_b hW hp1 hp2 (k := (k : Int)) (by omega) (by omega) hw.1 hw.2
        have hp0 := plc_n5 hW hp1 hp2 (k := (k : Int)) (by omega) (by omega) hw.1 hw.2 (by omega)
        have hpe : w * m 2 (m 7 (9 * p + (k : Int))) / m 2 p = plc m p k w := by unfold plc; rw [if_neg (by omega)]
        refine z_aload 26 dX3_laidBase_24 rfl rfl ?_
        refine c_ifnull 47 29 dX3_laidBase_26 (by decide) rfl  (fun h26 => ?_) (fun h26 => ?_)
        · exfalso; omega
        refine z_fload_n 30 dX3_laidBase_29 rfl rfl ?_
        refine z_aload 32 dX3_laidBase_30 rfl rfl ?_
        refine z_aload 34 dX3_laidBase_32 rfl rfl ?_
        refine z_aload_n 35 dX3_laidBase_34 rfl rfl ?_
        refine z_iload_n 36 dX3_laidBase_35 rfl rfl ?_
        refine z_callS 39 [_, _, _] la_X3_placeOn ml_X3_188 sm_X3_placeOn (c_placeOn hR hW hX ⟨hq1, hq2⟩ ⟨hp1, hp2⟩ ⟨by omega, by omega⟩) rfl rfl (by omega) (Nat.le_of_ble_eq_true rfl) (by decide) (by decide) dX3_laidBase_36 rfl (fun r t hq => ?_)
        obtain ⟨rfl, hR⟩ := hq
        rw [hpe]
        refine z_iload_n 40 dX3_laidBase_39 rfl rfl ?_
        refine z_iconst 41 dX3_laidBase_40 rfl ?_
        refine z_iadd 42 dX3_laidBase_41 rfl ?_
        refine z_callS 45 [_, _, _] la_X3_bearing ml_X3_192 sm_X3_bearing (IH _ _ _ _ hR hpk.1 (by omega) hp0 (by omega) (by omega) (by omega)) rfl rfl (by omega) (Nat.le_of_ble_eq_true rfl) (by decide) (by decide) dX3_laidBase_42 rfl (fun r t hq => ?_)
        obtain ⟨rfl, hR⟩ := hq
        refine z_fadd 46 dX3_laidBase_45 rfl (hNU.2.1 hk3 k (by omega)) ?_
        refine z_fstore_n (lv' := [(3, _), (5, _), (4, _), (0, _), (1, _), (2, _)]) 47 dX3_laidBase_46 rfl rfl rfl ?_
        refine z_iinc (lv' := [(4, _), (3, _), (5, _), (0, _), (1, _), (2, _)]) 50 dX3_laidBase_47 rfl rfl rfl rfl ?_
        refine z_goto 5 dX3_laidBase_50 (by decide) ?_
        refine z_sub (lv' := [(4, _), (3, _), (0, _), (1, _), (2, _)]) ⟨rfl, rfl, rfl, rfl, rfl, trivial⟩ ?_
        exact ih5 (k + 1) _ hR (by omega) (by omega)
  refine z_fconst0 1 dX3_laidBase_0 rfl ?_
  refine z_fstore_n (lv' := [(3, _), (0, _), (1, _), (2, _)]) 2 dX3_laidBase_1 rfl rfl rfl ?_
  refine z_iconst 3 dX3_laidBase_2 rfl ?_
  refine z_istore (lv' := [(4, _), (3, _), (0, _), (1, _), (2, _)]) 5 dX3_laidBase_3 rfl rfl rfl ?_
  refine z_sub (lv' := [(4, _), (3, _), (0, _), (1, _), (2, _)]) ⟨rfl, rfl, rfl, rfl, rfl, trivial⟩ ?_
  exact L5 10 0 _ hR (by omega) (by omega)
set_option maxRecDepth 20000 in
theorem c_splicedBase {m : Nat → Int → Int} {f : Nat → Int → UInt32} {a : Nat → Int → Nat} {t : zT} (hR : CA m f a t) {N : Nat} {p w dp : Int} (hW : WF m f) (hX : XI m f) (hp : live m p) (hw : 0 ≤ w ∧ w < m 2 p) (hd : 0 ≤ dp ∧ dp + hgt m p ≤ 40) (hg : hgt m p < N + 1) (h5 : m 1 p = 5) (IH : ∀ (q z e : Int) (t : zT), CA m f a t → live m q → hgt m q < N → 0 ≤ z → z < m 2 q → 0 ≤ e → e + hgt m q ≤ 40 → zM yX3_bearing cX3_bearing 4 (some .float) (2 * N + 2) 0 0 [vR (rf a 6 q), vI z, vI e] t (fun r t1 => r = some (vF (B m f q z)) ∧ CA m f a t1)) : zM yX3_splicedBase cX3_splicedBase 8 (some .float) (2 * N + 3) 0 0 [vR (rf a 6 p), vI w, vI dp] t (fun r t1 => r = some (vF (bs m f (B m f) p w)) ∧ CA m f a t1) := by
  refine zM.of2 [(0, vR (rf a 6 p)), (1, vI w), (2, vI dp)] (by decide +kernel) rfl (Nat.le_of_ble_eq_true rfl) ?_
  have hn1 := hW.n.1
  have hn2 := hW.n.2
  have h60 := hX.1.1
  have h62 := hX.1.2.1
  have h64 := hX.1.2.2
  obtain ⟨hp1, hp2, hp3⟩ := id hp
  have hB := hW.b hp1 hp2
  have hNU := B_nums hW hp hw.1 hw.2
  have h62 := (hW.parts p hp1 hp2).2 h5
  have L5 : ∀ (fuel : Nat) (k : Nat) (t : zT) (hR : CA m f a t) (hk : (k : Int) ≤ 2) (hf : 2 - (k : Int) < (fuel : Int)), zOK yX3_splicedBase cX3_splicedBase 8 (some .float) (2 * N + 3) 0 0 (fun r t1 => r = some (vF (bs m f (B m f) p w)) ∧ CA m f a t1) 0 0 5 [(4, vI (k : Int)), (3, vF (spl m f p w k)), (0, vR (rf a 6 p)), (1, vI w), (2, vI dp)] [] t := by
    intro fuel
    induction fuel with
    | zero => intro k t hR hk hf; exfalso; omega
    | succ fuel ih5 =>
      intro k t hR hk hf
      refine z_iload 7 dX3_splicedBase_5 rfl rfl ?_
      refine z_aload_n 8 dX3_splicedBase_7 rfl rfl ?_
      refine c_getL 11 7 hR fl_X3_125 (by decide) (show cLive m 6 p from lp ⟨by omega, by omega⟩) dX3_splicedBase_8 rfl ?_
      refine c_alen 12 hR (by decide) (show cLive m 7 p from lp ⟨by omega, by omega⟩) (show _ = m 6 p from Int.toNat_of_nonneg (by omega)) dX3_splicedBase_11 rfl ?_
      refine z_icmp_ge 86 15 dX3_splicedBase_12 (by decide) rfl ⟨by omega, by omega⟩ ⟨by omega, by omega⟩ (fun h12 => ?_) (fun h12 => ?_)
      · refine z_fload_n 87 dX3_splicedBase_86 rfl rfl ?_
        refine z_freturn rfl dX3_splicedBase_87 (by decide) (by decide) ?_
        have hkk : k = 2 := by omega
        subst hkk
        exact ⟨congrArg (fun z => some (vF z)) (spl_bs hW hp hw.1 hw.2 h5), hR⟩
      · refine z_aload_n 16 dX3_splicedBase_15 rfl rfl ?_
        refine c_getL 19 7 hR fl_X3_125 (by decide) (show cLive m 6 p from lp ⟨by omega, by omega⟩) dX3_splicedBase_16 rfl ?_
        refine z_iload 21 dX3_splicedBase_19 rfl rfl ?_
        refine c_aald 22 7 hR (c := 9) (m 6 p).toNat (by decide) (show _ = 9 * p + ((k : Int)) from rfl) (show cLive m 7 p from lp ⟨by omega, by omega⟩) rfl (by omega) ⟨by omega, by omega⟩ (show _ = m 7 (9 * p + ((k : Int))) from rfl) dX3_splicedBase_21 rfl (fun hl21 => ?_)
        refine z_astore (lv' := [(5, _), (4, _), (3, _), (0, _), (1, _), (2, _)]) 24 dX3_splicedBase_22 rfl rfl rfl ?_
        have hpk := live_part hW hp (k := (k : Int)) (by omega) (by omega)
        obtain ⟨⟨hq1, hq2, hq3⟩, hq4⟩ := id hpk
        have hgk := hgt_part hW hp1 hp2 (k := (k : Int)) (by omega) (by omega)
        have hBk := hW.b hq1 hq2
        have hpb := plc_b hW hp1 hp2 (k := (k : Int)) (by omega) (by omega) hw.1 hw.2
        refine z_iload_n 25 dX3_splicedBase_24 rfl rfl ?_
        refine z_aload_n 26 dX3_splicedBase_25 rfl rfl ?_
        refine z_iload 28 dX3_splicedBase_26 rfl rfl ?_
        refine z_callS 31 [_, _] la_X3_splicedFrom ml_X3_198 sm_X3_splicedFrom (c_splicedFrom hR hW hX ⟨hp1, hp2⟩ ⟨by omega, by omega⟩) rfl rfl (by omega) (Nat.le_of_ble_eq_true rfl) (by decide) (by decide) dX3_splicedBase_28 rfl (fun r t hq => ?_)
        obtain ⟨rfl, hR⟩ := hq
        refine z_isub 32 dX3_splicedBase_31 rfl ?_
        refine z_istore (lv' := [(6, _), (5, _), (4, _), (3, _), (0, _), (1, _), (2, _)]) 34 dX3_splicedBase_32 rfl rfl rfl ?_
        have h55 := (hX.p hp1 hp2).2.2.2.2.1 h5
        have hpe := plc_at (m := m) (p := p) (k := (k : Int)) (y := w) (F := (if (k : Int) = 0 then 0 else m 55 p)) h5 (by rw [h55])
        have hF2 : -4000 ≤ (if (k : Int) = 0 then 0 else m 55 p) ∧ (if (k : Int) = 0 then 0 else m 55 p) ≤ 4000 := by have hz := (hW.2.1 p hp1 hp2).2.2.2.2.2.2.2.2.2.2 h5; obtain ⟨-, -, z1, z2, z3, z4⟩ := hz; have y0 := live_part hW hp (k := 0) (by omega) (by omega); rw [Int.add_zero] at y0; have y1 := hW.b y0.1.1 y0.1.2.1; split <;> omega
        generalize (if (k : Int) = 0 then 0 else m 55 p) = A at *
        refine z_aload 36 dX3_splicedBase_34 rfl rfl ?_
        refine c_ifnull 80 39 dX3_splicedBase_36 (by decide) rfl  (fun h36 => ?_) (fun h36 => ?_)
        · exfalso; omega
        refine z_iload 41 dX3_splicedBase_39 rfl rfl ?_
        refine z_if_lt 80 44 dX3_splicedBase_41 (by decide) rfl ⟨by omega, by omega⟩ (fun h41 => ?_) (fun h41 => ?_)
        · refine z_sub (lv' := [(3, vF (spl m f p w (k + 1))), (4, _), (0, _), (1, _), (2, _)]) ⟨congrArg (fun z => some (vF z)) ?_, rfl, rfl, rfl, rfl, trivial⟩ ?_
          · show _ = if 0 ≤ plc m p k w then (if 0 < zfc (FP.fcmp (B m f (m 7 (9 * p + k)) (plc m p k w)) (spl m f p w k)) CmpOp.l then B m f (m 7 (9 * p + k)) (plc m p k w) else spl m f p w k) else spl m f p w k
            rw [hpe]
            first
            | (rw [if_neg (show ¬ (0 ≤ w - A ∧ w - A < m 2 (m 7 (9 * p + (k : Int)))) by omega), if_neg (by omega)])
            | (rw [if_pos (show 0 ≤ w - A ∧ w - A < m 2 (m 7 (9 * p + (k : Int))) by omega), if_pos (by omega)]; first | (rw [if_pos (by omega)]) | (rw [if_neg (by omega)]))
          refine z_iinc (lv' := [(4, _), (3, _), (0, _), (1, _), (2, _)]) 83 dX3_splicedBase_80 rfl rfl rfl rfl ?_
          refine z_goto 5 dX3_splicedBase_83 (by decide) ?_
          refine z_sub (lv' := [(4, _), (3, _), (0, _), (1, _), (2, _)]) ⟨rfl, rfl, rfl, rfl, rfl, trivial⟩ ?_
          exact ih5 (k + 1) _ hR (by omega) (by omega)
        · refine z_iload 46 dX3_splicedBase_44 rfl rfl ?_
          refine z_aload 48 dX3_splicedBase_46 rfl rfl ?_
          refine c_getI 51 2 hR fl_X3_113 (by decide) (show cLive m 6 (m 7 (9 * p + ((k : Int)))) from lp ⟨by omega, by omega⟩) (show _ = m 2 (m 7 (9 * p + ((k : Int)))) from rfl) dX3_splicedBase_48 rfl ?_
          refine z_icmp_ge 80 54 dX3_splicedBase_51 (by decide) rfl ⟨by omega, by omega⟩ ⟨by omega, by omega⟩ (fun h51 => ?_) (fun h51 => ?_)
          · refine z_sub (lv' := [(3, vF (spl m f p w (k + 1))), (4, _), (0, _), (1, _), (2, _)]) ⟨congrArg (fun z => some (vF z)) ?_, rfl, rfl, rfl, rfl, trivial⟩ ?_
            · show _ = if 0 ≤ plc m p k w then (if 0 < zfc (FP.fcmp (B m f (m 7 (9 * p + k)) (plc m p k w)) (spl m f p w k)) CmpOp.l then B m f (m 7 (9 * p + k)) (plc m p k w) else spl m f p w k) else spl m f p w k
              rw [hpe]
              first
              | (rw [if_neg (show ¬ (0 ≤ w - A ∧ w - A < m 2 (m 7 (9 * p + (k : Int)))) by omega), if_neg (by omega)])
              | (rw [if_pos (show 0 ≤ w - A ∧ w - A < m 2 (m 7 (9 * p + (k : Int))) by omega), if_pos (by omega)]; first | (rw [if_pos (by omega)]) | (rw [if_neg (by omega)]))
            refine z_iinc (lv' := [(4, _), (3, _), (0, _), (1, _), (2, _)]) 83 dX3_splicedBase_80 rfl rfl rfl rfl ?_
            refine z_goto 5 dX3_splicedBase_83 (by decide) ?_
            refine z_sub (lv' := [(4, _), (3, _), (0, _), (1, _), (2, _)]) ⟨rfl, rfl, rfl, rfl, rfl, trivial⟩ ?_
            exact ih5 (k + 1) _ hR (by omega) (by omega)
          · refine z_aload 56 dX3_splicedBase_54 rfl rfl ?_
            refine z_iload 58 dX3_splicedBase_56 rfl rfl ?_
            refine z_iload_n 59 dX3_splicedBase_58 rfl rfl ?_
            refine z_iconst 60 dX3_splicedBase_59 rfl ?_
            refine z_iadd 61 dX3_splicedBase_60 rfl ?_
            refine z_callS 64 [_, _, _] la_X3_bearing ml_X3_192 sm_X3_bearing (IH _ _ _ _ hR hpk.1 (by omega) (by omega) (by omega) (by omega) (by omega)) rfl rfl (by omega) (Nat.le_of_ble_eq_true rfl) (by decide) (by decide) dX3_splicedBase_61 rfl (fun r t hq => ?_)
            obtain ⟨rfl, hR⟩ := hq
            refine z_fstore (lv' := [(7, _), (6, _), (5, _), (4, _), (3, _), (0, _), (1, _), (2, _)]) 66 dX3_splicedBase_64 rfl rfl rfl ?_
            refine z_fload 68 dX3_splicedBase_66 rfl rfl ?_
            refine z_fload_n 69 dX3_splicedBase_68 rfl rfl ?_
            refine z_fcmp 70 dX3_splicedBase_69 rfl ?_
            refine z_if_le 78 73 dX3_splicedBase_70 (by decide) rfl zfc_i (fun h70 => ?_) (fun h70 => ?_)
            · refine z_fload_n 79 dX3_splicedBase_78 rfl rfl ?_
              refine z_fstore_n (lv' := [(3, _), (7, _), (6, _), (5, _), (4, _), (0, _), (1, _), (2, _)]) 80 dX3_splicedBase_79 rfl rfl rfl ?_
              refine z_sub (lv' := [(3, vF (spl m f p w (k + 1))), (4, _), (0, _), (1, _), (2, _)]) ⟨congrArg (fun z => some (vF z)) ?_, rfl, rfl, rfl, rfl, trivial⟩ ?_
              · show _ = if 0 ≤ plc m p k w then (if 0 < zfc (FP.fcmp (B m f (m 7 (9 * p + k)) (plc m p k w)) (spl m f p w k)) CmpOp.l then B m f (m 7 (9 * p + k)) (plc m p k w) else spl m f p w k) else spl m f p w k
                rw [hpe]
                first
                | (rw [if_neg (show ¬ (0 ≤ w - A ∧ w - A < m 2 (m 7 (9 * p + (k : Int)))) by omega), if_neg (by omega)])
                | (rw [if_pos (show 0 ≤ w - A ∧ w - A < m 2 (m 7 (9 * p + (k : Int))) by omega), if_pos (by omega)]; first | (rw [if_pos (by omega)]) | (rw [if_neg (by omega)]))
              refine z_iinc (lv' := [(4, _), (3, _), (0, _), (1, _), (2, _)]) 83 dX3_splicedBase_80 rfl rfl rfl rfl ?_
              refine z_goto 5 dX3_splicedBase_83 (by decide) ?_
              refine z_sub (lv' := [(4, _), (3, _), (0, _), (1, _), (2, _)]) ⟨rfl, rfl, rfl, rfl, rfl, trivial⟩ ?_
              exact ih5 (k + 1) _ hR (by omega) (by omega)
            · refine z_fload 75 dX3_splicedBase_73 rfl rfl ?_
              refine z_goto 79 dX3_splicedBase_75 (by decide) ?_
              refine z_fstore_n (lv' := [(3, _), (7, _), (6, _), (5, _), (4, _), (0, _), (1, _), (2, _)]) 80 dX3_splicedBase_79 rfl rfl rfl ?_
              refine z_sub (lv' := [(3, vF (spl m f p w (k + 1))), (4, _), (0, _), (1, _), (2, _)]) ⟨congrArg (fun z => some (vF z)) ?_, rfl, rfl, rfl, rfl, trivial⟩ ?_
              · show _ = if 0 ≤ plc m p k w then (if 0 < zfc (FP.fcmp (B m f (m 7 (9 * p + k)) (plc m p k w)) (spl m f p w k)) CmpOp.l then B m f (m 7 (9 * p + k)) (plc m p k w) else spl m f p w k) else spl m f p w k
                rw [hpe]
                first
                | (rw [if_neg (show ¬ (0 ≤ w - A ∧ w - A < m 2 (m 7 (9 * p + (k : Int)))) by omega), if_neg (by omega)])
                | (rw [if_pos (show 0 ≤ w - A ∧ w - A < m 2 (m 7 (9 * p + (k : Int))) by omega), if_pos (by omega)]; first | (rw [if_pos (by omega)]) | (rw [if_neg (by omega)]))
              refine z_iinc (lv' := [(4, _), (3, _), (0, _), (1, _), (2, _)]) 83 dX3_splicedBase_80 rfl rfl rfl rfl ?_
              refine z_goto 5 dX3_splicedBase_83 (by decide) ?_
              refine z_sub (lv' := [(4, _), (3, _), (0, _), (1, _), (2, _)]) ⟨rfl, rfl, rfl, rfl, rfl, trivial⟩ ?_
              exact ih5 (k + 1) _ hR (by omega) (by omega)
  refine z_fconst0 1 dX3_splicedBase_0 rfl ?_
  refine z_fstore_n (lv' := [(3, _), (0, _), (1, _), (2, _)]) 2 dX3_splicedBase_1 rfl rfl rfl ?_
  refine z_iconst 3 dX3_splicedBase_2 rfl ?_
  refine z_istore (lv' := [(4, _), (3, _), (0, _), (1, _), (2, _)]) 5 dX3_splicedBase_3 rfl rfl rfl ?_
  refine z_sub (lv' := [(4, _), (3, _), (0, _), (1, _), (2, _)]) ⟨rfl, rfl, rfl, rfl, rfl, trivial⟩ ?_
  exact L5 3 0 _ hR (by omega) (by omega)
set_option maxRecDepth 20000 in
theorem c_bearing_s {m : Nat → Int → Int} {f : Nat → Int → UInt32} {a : Nat → Int → Nat} {t : zT} (hR : CA m f a t) {N : Nat} {p w dp : Int} (hW : WF m f) (hX : XI m f) (hp : live m p) (hw : 0 ≤ w ∧ w < m 2 p) (hd : 0 ≤ dp ∧ dp + hgt m p ≤ 40) (hg : hgt m p < N + 1) (IH : ∀ (q z e : Int) (t : zT), CA m f a t → live m q → hgt m q < N → 0 ≤ z → z < m 2 q → 0 ≤ e → e + hgt m q ≤ 40 → zM yX3_bearing cX3_bearing 4 (some .float) (2 * N + 2) 0 0 [vR (rf a 6 q), vI z, vI e] t (fun r t1 => r = some (vF (B m f q z)) ∧ CA m f a t1)) : zM yX3_bearing cX3_bearing 4 (some .float) (2 * (N + 1) + 2) 0 0 [vR (rf a 6 p), vI w, vI dp] t (fun r t1 => r = some (vF (B m f p w)) ∧ CA m f a t1) := by
  refine zM.of2 [(0, vR (rf a 6 p)), (1, vI w), (2, vI dp)] (by decide +kernel) rfl (Nat.le_of_ble_eq_true rfl) ?_
  have hn1 := hW.n.1
  have hn2 := hW.n.2
  have h60 := hX.1.1
  have h62 := hX.1.2.1
  have h64 := hX.1.2.2
  obtain ⟨hp1, hp2, hp3⟩ := id hp
  have hB := hW.b hp1 hp2
  have hNU := B_nums hW hp hw.1 hw.2
  have hXp := hX.p hp1 hp2
  have hP := (hW.2.1 p hp1 hp2).2.2.2.2.2.2
  have hP0 := hP.1
  have hP1 := fun h => (hP.2.1 h).1
  have hP2 := fun h => (hP.2.2.1 h).1
  have hP3 := fun h => (hP.2.2.2.1 h).1
  clear hP
  refine z_aload_n 1 dX3_bearing_0 rfl rfl ?_
  refine c_ifnull 10 4 dX3_bearing_1 (by decide) rfl  (fun h1 => ?_) (fun h1 => ?_)
  · exfalso; omega
  refine z_iload_n 5 dX3_bearing_4 rfl rfl ?_
  refine z_bipush 7 dX3_bearing_5 rfl ⟨by decide, by decide⟩ ?_
  refine z_icmp_le 12 10 dX3_bearing_7 (by decide) rfl ⟨by omega, by omega⟩ ⟨by omega, by omega⟩ (fun h7 => ?_) (fun h7 => ?_)
  rotate_left
  · exfalso; omega
  refine z_aload_n 13 dX3_bearing_12 rfl rfl ?_
  refine c_getF 16 51 hR fl_X3_49 (by decide) (show cLive m 6 p from lp ⟨by omega, by omega⟩) (show _ = f 51 p from rfl) dX3_bearing_13 rfl ?_
  refine z_fstore_n (lv' := [(3, _), (0, _), (1, _), (2, _)]) 17 dX3_bearing_16 rfl rfl rfl ?_
  refine z_aload_n 18 dX3_bearing_17 rfl rfl ?_
  refine c_getI 21 1 hR fl_X3_103 (by decide) (show cLive m 6 p from lp ⟨by omega, by omega⟩) (show _ = m 1 p from rfl) dX3_bearing_18 rfl ?_
  refine z_iconst 22 dX3_bearing_21 rfl ?_
  refine z_icmp_ne 35 25 dX3_bearing_22 (by decide) rfl ⟨by omega, by omega⟩ ⟨by omega, by omega⟩ (fun h22 => ?_) (fun h22 => ?_)
  · refine z_aload_n 36 dX3_bearing_35 rfl rfl ?_
    refine c_getL 39 7 hR fl_X3_125 (by decide) (show cLive m 6 p from lp ⟨by omega, by omega⟩) dX3_bearing_36 rfl ?_
    refine c_alen 40 hR (by decide) (show cLive m 7 p from lp ⟨by omega, by omega⟩) (show _ = m 6 p from Int.toNat_of_nonneg (by omega)) dX3_bearing_39 rfl ?_
    refine z_if_le 50 43 dX3_bearing_40 (by decide) rfl ⟨by omega, by omega⟩ (fun h40 => ?_) (fun h40 => ?_)
    · refine z_sub (lv' := [(3, vF (bs m f (B m f) p w)), (0, _), (1, _), (2, _)]) ⟨?_, rfl, rfl, rfl, trivial⟩ ?_
      · first
        | rfl
        | (refine congrArg (fun z => some (vF z)) ?_; unfold bs; by_cases h0 : m 1 p = 0; (rw [if_pos h0]; exact hXp.2.2.1 h0); rw [if_neg h0, if_pos (by omega)]; exact hXp.2.2.2.1 (by omega))
      refine z_aload_n 51 dX3_bearing_50 rfl rfl ?_
      refine z_iload_n 52 dX3_bearing_51 rfl rfl ?_
      refine z_fload_n 53 dX3_bearing_52 rfl rfl ?_
      refine z_callS 56 [_, _, _] la_X3_worn ml_X3_184 sm_X3_worn (c_worn hR hW hX hp hw) rfl rfl (by omega) (Nat.le_of_ble_eq_true rfl) (by decide) (by decide) dX3_bearing_53 rfl (fun r t hq => ?_)
      obtain ⟨rfl, hR⟩ := hq
      refine z_freturn rfl dX3_bearing_56 (by decide) (by decide) ?_
      exact ⟨rfl, hR⟩
    · refine z_aload_n 44 dX3_bearing_43 rfl rfl ?_
      refine z_iload_n 45 dX3_bearing_44 rfl rfl ?_
      refine z_iload_n 46 dX3_bearing_45 rfl rfl ?_
      refine z_callS 49 [_, _, _] la_X3_laidBase ml_X3_181 sm_X3_laidBase (c_laidBase hR hW hX hp hw hd hg (by omega) IH) rfl rfl (by omega) (Nat.le_of_ble_eq_true rfl) (by decide) (by decide) dX3_bearing_46 rfl (fun r t hq => ?_)
      obtain ⟨rfl, hR⟩ := hq
      refine z_fstore_n (lv' := [(3, _), (0, _), (1, _), (2, _)]) 50 dX3_bearing_49 rfl rfl rfl ?_
      refine z_sub (lv' := [(3, vF (bs m f (B m f) p w)), (0, _), (1, _), (2, _)]) ⟨?_, rfl, rfl, rfl, trivial⟩ ?_
      · first
        | rfl
        | (refine congrArg (fun z => some (vF z)) ?_; unfold bs; by_cases h0 : m 1 p = 0; (rw [if_pos h0]; exact hXp.2.2.1 h0); rw [if_neg h0, if_pos (by omega)]; exact hXp.2.2.2.1 (by omega))
      refine z_aload_n 51 dX3_bearing_50 rfl rfl ?_
      refine z_iload_n 52 dX3_bearing_51 rfl rfl ?_
      refine z_fload_n 53 dX3_bearing_52 rfl rfl ?_
      refine z_callS 56 [_, _, _] la_X3_worn ml_X3_184 sm_X3_worn (c_worn hR hW hX hp hw) rfl rfl (by omega) (Nat.le_of_ble_eq_true rfl) (by decide) (by decide) dX3_bearing_53 rfl (fun r t hq => ?_)
      obtain ⟨rfl, hR⟩ := hq
      refine z_freturn rfl dX3_bearing_56 (by decide) (by decide) ?_
      exact ⟨rfl, hR⟩
  · refine z_aload_n 26 dX3_bearing_25 rfl rfl ?_
    refine z_iload_n 27 dX3_bearing_26 rfl rfl ?_
    refine z_iload_n 28 dX3_bearing_27 rfl rfl ?_
    refine z_callS 31 [_, _, _] la_X3_splicedBase ml_X3_177 sm_X3_splicedBase (c_splicedBase hR hW hX hp hw hd hg (by omega) IH) rfl rfl (by omega) (Nat.le_of_ble_eq_true rfl) (by decide) (by decide) dX3_bearing_28 rfl (fun r t hq => ?_)
    obtain ⟨rfl, hR⟩ := hq
    refine z_fstore_n (lv' := [(3, _), (0, _), (1, _), (2, _)]) 32 dX3_bearing_31 rfl rfl rfl ?_
    refine z_goto 50 dX3_bearing_32 (by decide) ?_
    refine z_sub (lv' := [(3, vF (bs m f (B m f) p w)), (0, _), (1, _), (2, _)]) ⟨?_, rfl, rfl, rfl, trivial⟩ ?_
    · first
      | rfl
      | (refine congrArg (fun z => some (vF z)) ?_; unfold bs; by_cases h0 : m 1 p = 0; (rw [if_pos h0]; exact hXp.2.2.1 h0); rw [if_neg h0, if_pos (by omega)]; exact hXp.2.2.2.1 (by omega))
    refine z_aload_n 51 dX3_bearing_50 rfl rfl ?_
    refine z_iload_n 52 dX3_bearing_51 rfl rfl ?_
    refine z_fload_n 53 dX3_bearing_52 rfl rfl ?_
    refine z_callS 56 [_, _, _] la_X3_worn ml_X3_184 sm_X3_worn (c_worn hR hW hX hp hw) rfl rfl (by omega) (Nat.le_of_ble_eq_true rfl) (by decide) (by decide) dX3_bearing_53 rfl (fun r t hq => ?_)
    obtain ⟨rfl, hR⟩ := hq
    refine z_freturn rfl dX3_bearing_56 (by decide) (by decide) ?_
    exact ⟨rfl, hR⟩
theorem c_bearN {m : Nat → Int → Int} {f : Nat → Int → UInt32} {a : Nat → Int → Nat} (hW : WF m f) (hX : XI m f) : ∀ (N : Nat) (q z e : Int) (t : zT), CA m f a t → live m q → hgt m q < N → 0 ≤ z → z < m 2 q → 0 ≤ e → e + hgt m q ≤ 40 → zM yX3_bearing cX3_bearing 4 (some .float) (2 * N + 2) 0 0 [vR (rf a 6 q), vI z, vI e] t (fun r t1 => r = some (vF (B m f q z)) ∧ CA m f a t1) := by
  intro N
  induction N with
  | zero => intro q z e t _ _ h; exact absurd h (Nat.not_lt_zero _)
  | succ N ih => intro q z e t hR hq hg h0 h1 h2 h3; exact c_bearing_s hR hW hX hq ⟨h0, h1⟩ ⟨h2, h3⟩ hg ih
theorem c_bearing {m : Nat → Int → Int} {f : Nat → Int → UInt32} {a : Nat → Int → Nat} {t : zT} (hR : CA m f a t) (hW : WF m f) (hX : XI m f) {p w : Int} (hp : live m p) (h0 : 0 ≤ w) (h1 : w < m 2 p) : zM yX3_bearing cX3_bearing 4 (some .float) 28 0 0 [vR (rf a 6 p), vI w, vI 0] t (fun r t1 => r = some (vF (B m f p w)) ∧ CA m f a t1) :=
  c_bearN hW hX 13 p w 0 t hR hp (by have := hgt_b hW hp; omega) h0 h1 (by omega) (by have := hgt_b hW hp; omega)
