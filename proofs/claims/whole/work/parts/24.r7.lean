set_option maxRecDepth 20000 in
theorem r_leastOf {m : Nat → Int → Int} {f : Nat → Int → UInt32} {x : Nat} {g : Nat → Nat} {t : zT} (hR : RA m f x g t) {p : Int} (hW : WF m f) (hp : live m p) : zM yX4_leastOf cX4_leastOf 5 (some .float) 2 0 0 [vR (some x), vI p] t (fun r t1 => r = some (vF (leastv m f p)) ∧ ∃ m1 f1, RA m1 f1 x g t1 ∧ eqs m m1 f f1 ∧ m1 32 0 = weak m f p) := by
  refine zM.of [(0, vR (some x)), (1, vI p)] (by decide +kernel) rfl (Nat.le_of_ble_eq_true rfl) ?_
  obtain ⟨hp1, hp2, hp3⟩ := id hp
  have hn1 := hW.n.1
  have hn2 := hW.n.2
  have hbp := hW.b hp1 hp2
  have hlv : ∀ m1 f1, eqs m m1 f f1 → live m1 p := fun m1 f1 he => ⟨hp1, by rw [he.1 0 (by decide) (by decide)]; exact hp2, by rw [he.1 4 (by decide) (by decide)]; exact hp3⟩
  have hlx : ∀ (m1 : Nat → Int → Int) f1 (z : Int), eqs m m1 f f1 → 0 ≤ z → z < m 2 p → 0 ≤ z ∧ z < m1 2 p := fun m1 f1 z he h0 h1 => ⟨h0, by rw [he.1 2 (by decide) (by decide)]; exact h1⟩
  have L14 : ∀ (fuel : Nat) (k : Nat) (v : UInt32) (m1 : Nat → Int → Int) (f1 : Nat → Int → UInt32) (t : zT) (hR : RA m1 f1 x g t) (he : eqs m m1 f f1) (hk : (k : Int) + 1 ≤ m 2 p) (hv : v = B m f p (wk m f p k)) (hw : m1 32 0 = wk m f p k) (hf : m 2 p - k < (fuel : Int)), zOK yX4_leastOf cX4_leastOf 5 (some .float) 2 0 0 (fun r t1 => r = some (vF (leastv m f p)) ∧ ∃ m1 f1, RA m1 f1 x g t1 ∧ eqs m m1 f f1 ∧ m1 32 0 = weak m f p) 0 0 14 [(3, vI ((k : Int) + 1)), (2, vF v), (0, vR (some x)), (1, vI p)] [] t := by
    intro fuel
    induction fuel with
    | zero => intro k v m1 f1 t hR he hk hv hw hf; exfalso; omega
    | succ fuel ih14 =>
      intro k v m1 f1 t hR he hk hv hw hf
      refine z_iload_n 15 dX4_leastOf_14 rfl rfl ?_
      refine z_aload_n 16 dX4_leastOf_15 rfl rfl ?_
      refine r_getP 19 hR fl_X4_13 (by decide) dX4_leastOf_16 rfl ?_
      refine z_iload_n 20 dX4_leastOf_19 rfl rfl ?_
      refine r_ialde 21 2 120 hR rk2 ⟨by omega, by omega⟩ (show _ = m 2 _ from he.1 2 (by decide) (by decide) _) dX4_leastOf_20 rfl ?_
      refine z_icmp_ge 53 24 dX4_leastOf_21 (by decide) rfl ⟨by omega, by omega⟩ ⟨by omega, by omega⟩ (fun h21 => ?_) (fun h21 => ?_)
      · refine z_fload_n 54 dX4_leastOf_53 rfl rfl ?_
        refine z_freturn rfl dX4_leastOf_54 (by decide) (by decide) ?_
        have hkk : (m 2 p - 1).toNat = k := by omega
        refine ⟨congrArg (fun z => some (vF z)) ?_, _, _, hR, he, ?_⟩
        · rw [hv]; unfold leastv weak; rw [hkk]
        · rw [hw]; unfold weak; rw [hkk]
      · refine z_aload_n 25 dX4_leastOf_24 rfl rfl ?_
        refine z_iload_n 26 dX4_leastOf_25 rfl rfl ?_
        refine z_iload_n 27 dX4_leastOf_26 rfl rfl ?_
        refine z_callV 30 [_, _] la_X4_bearing ml_X4_163 im_X4_bearing se_X4_bearing hR.1.1 hR.1.2.1 (by decide) rfl rfl (r_bearing hR (WF.eqs he hW) (hlv m1 f1 he) (hlx m1 f1 _ he (by omega) (by omega))) rfl rfl (by decide) (Nat.le_of_ble_eq_true rfl) (by decide) (by decide) dX4_leastOf_27 rfl (fun r t hq => ?_)
        obtain ⟨rfl, pl, be, hR⟩ := hq
        rw [B_eqs he]
        have he3 : eqs m (s30 m1 pl) f (s31 f1 be) := he.tr eqs_3
        refine z_fstore (lv' := [(4, _), (3, _), (2, _), (0, _), (1, _)]) 32 dX4_leastOf_30 rfl rfl rfl ?_
        refine z_fload 34 dX4_leastOf_32 rfl rfl ?_
        refine z_fload_n 35 dX4_leastOf_34 rfl rfl ?_
        refine z_fcmp 36 dX4_leastOf_35 rfl ?_
        refine z_if_ge 47 39 dX4_leastOf_36 (by decide) rfl zfc_i (fun h36 => ?_) (fun h36 => ?_)
        · refine z_iinc (lv' := [(3, _), (4, _), (2, _), (0, _), (1, _)]) 50 dX4_leastOf_47 rfl rfl rfl rfl ?_
          refine z_goto 14 dX4_leastOf_50 (by decide) ?_
          have hcc : zfc (FP.fcmp (B m f p ((k : Int) + 1)) (B m f p (wk m f p k))) CmpOp.g = zfc (FP.fcmp (B m f p ((k : Int) + 1)) v) CmpOp.g := by rw [hv]
          refine z_sub (lv' := [(3, _), (2, _), (0, _), (1, _)]) ⟨rfl, rfl, rfl, rfl, trivial⟩ ?_
          exact ih14 (k + 1) _ _ _ _ hR (by first | exact he3 | exact he3.tr (eqs.up (by decide) _ _)) (by omega) (by first | (rw [show wk m f p (k + 1) = wk m f p k from if_neg (by omega)]; exact hv) | rw [show wk m f p (k + 1) = (k : Int) + 1 from if_pos (by omega)]) (by first | (rw [show wk m f p (k + 1) = wk m f p k from if_neg (by omega)]; exact hw) | (rw [show wk m f p (k + 1) = (k : Int) + 1 from if_pos (by omega)]; exact up2_s _ _ _ _)) (by omega)
        · refine z_fload 41 dX4_leastOf_39 rfl rfl ?_
          refine z_fstore_n (lv' := [(2, _), (4, _), (3, _), (0, _), (1, _)]) 42 dX4_leastOf_41 rfl rfl rfl ?_
          refine z_aload_n 43 dX4_leastOf_42 rfl rfl ?_
          refine z_iload_n 44 dX4_leastOf_43 rfl rfl ?_
          refine r_putI 47 hR fl_X4_167 (by decide) dX4_leastOf_44 rfl (fun t hR => ?_)
          refine z_iinc (lv' := [(3, _), (2, _), (4, _), (0, _), (1, _)]) 50 dX4_leastOf_47 rfl rfl rfl rfl ?_
          refine z_goto 14 dX4_leastOf_50 (by decide) ?_
          have hcc : zfc (FP.fcmp (B m f p ((k : Int) + 1)) (B m f p (wk m f p k))) CmpOp.g = zfc (FP.fcmp (B m f p ((k : Int) + 1)) v) CmpOp.g := by rw [hv]
          refine z_sub (lv' := [(3, _), (2, _), (0, _), (1, _)]) ⟨rfl, rfl, rfl, rfl, trivial⟩ ?_
          exact ih14 (k + 1) _ _ _ _ hR (by first | exact he3 | exact he3.tr (eqs.up (by decide) _ _)) (by omega) (by first | (rw [show wk m f p (k + 1) = wk m f p k from if_neg (by omega)]; exact hv) | rw [show wk m f p (k + 1) = (k : Int) + 1 from if_pos (by omega)]) (by first | (rw [show wk m f p (k + 1) = wk m f p k from if_neg (by omega)]; exact hw) | (rw [show wk m f p (k + 1) = (k : Int) + 1 from if_pos (by omega)]; exact up2_s _ _ _ _)) (by omega)
  refine z_aload_n 1 dX4_leastOf_0 rfl rfl ?_
  refine z_iload_n 2 dX4_leastOf_1 rfl rfl ?_
  refine z_iconst 3 dX4_leastOf_2 rfl ?_
  refine z_callV 6 [_, _] la_X4_bearing ml_X4_163 im_X4_bearing se_X4_bearing hR.1.1 hR.1.2.1 (by decide) rfl rfl (r_bearing hR hW hp ⟨by omega, by omega⟩) rfl rfl (by decide) (Nat.le_of_ble_eq_true rfl) (by decide) (by decide) dX4_leastOf_3 rfl (fun r t hq => ?_)
  obtain ⟨rfl, pl, be, hR⟩ := hq
  have he3 : eqs m (s30 m pl) f (s31 f be) := eqs_3
  refine z_fstore_n (lv' := [(2, _), (0, _), (1, _)]) 7 dX4_leastOf_6 rfl rfl rfl ?_
  refine z_aload_n 8 dX4_leastOf_7 rfl rfl ?_
  refine z_iconst 9 dX4_leastOf_8 rfl ?_
  refine r_putI 12 hR fl_X4_167 (by decide) dX4_leastOf_9 rfl (fun t hR => ?_)
  refine z_iconst 13 dX4_leastOf_12 rfl ?_
  refine z_istore_n (lv' := [(3, _), (2, _), (0, _), (1, _)]) 14 dX4_leastOf_13 rfl rfl rfl ?_
  refine z_sub (lv' := [(3, _), (2, _), (0, _), (1, _)]) ⟨rfl, rfl, rfl, rfl, trivial⟩ ?_
  exact L14 2001 0 _ _ _ _ hR (by exact he3.tr (eqs.up (by decide) _ _)) (by omega) (rfl) (rfl) (by omega)
theorem turn_0 (d : UInt64) (g : UInt32) : turn d g 0 = flo d := rfl
theorem turn_1 (d : UInt64) (g : UInt32) : turn d g 1 = (if zfc (FP.dcmp (ld (flo d)) d) CmpOp.g < 0 then flo d + 1 else flo d) := rfl
theorem turn_2 (d : UInt64) (g : UInt32) : turn d g 2 = nea d := rfl
theorem turn_3 (d : UInt64) (g : UInt32) : turn d g 3 = (if zfc (FP.dcmp d 0) CmpOp.g < 0 then -1 else if 0 < zfc (FP.dcmp d 0) CmpOp.l then 1 else 0) := rfl
theorem turn_4 (d : UInt64) (g : UInt32) : turn d g 4 = dl (FP.dmul 4620693217682128896 (if zfc (FP.dcmp d 0) CmpOp.g < 0 then FP.dneg d else d)) := rfl
theorem turn_5 (d : UInt64) (g : UInt32) : turn d g 5 = dl (FP.dmul 4620693217682128896 (if 0 < zfc (FP.dcmp d 4598175219545276416) CmpOp.l then d else 4598175219545276416)) := rfl
theorem turn_6 (d : UInt64) (g : UInt32) : turn d g 6 = dl (FP.dmul 4620693217682128896 (if zfc (FP.dcmp d 4598175219545276416) CmpOp.g < 0 then d else 4598175219545276416)) := rfl
theorem turn_7 (d : UInt64) (g : UInt32) : turn d g 7 = (if zfc (FP.dcmp d 0) CmpOp.g < 0 then -2 else 2) := rfl
theorem turn_8 (d : UInt64) (g : UInt32) : turn d g 8 = (if zfc (FP.fcmp g 0) CmpOp.g < 0 then -1 else if 0 < zfc (FP.fcmp g 0) CmpOp.l then 1 else 0) := rfl
theorem turn_9 (d : UInt64) (g : UInt32) : turn d g 9 = fl (FP.fmul 1090519040 (if zfc (FP.fcmp g 0) CmpOp.g < 0 then FP.fneg g else g)) := rfl
theorem turn_10 (d : UInt64) (g : UInt32) : turn d g 10 = fl (FP.fmul 1090519040 (if 0 < zfc (FP.fcmp g 1048576000) CmpOp.l then g else 1048576000)) := rfl
theorem turn_11 (d : UInt64) (g : UInt32) : turn d g 11 = fl (FP.fmul 1090519040 (if zfc (FP.fcmp g 1048576000) CmpOp.g < 0 then g else 1048576000)) := rfl
theorem turn_12 (d : UInt64) (g : UInt32) : turn d g 12 = (if zfc (FP.fcmp g 0) CmpOp.g < 0 then -2 else 2) := rfl
set_option maxRecDepth 20000 in
theorem r_bears {m : Nat → Int → Int} {f : Nat → Int → UInt32} {x : Nat} {g : Nat → Nat} {t : zT} (hR : RA m f x g t) {p : Int} (hp : zi p) {w : Int} (hw : zi w) (hW : WF m f) : zM yX4_bears cX4_bears 3 (some .double) 2 0 0 [vR (some x), vI p, vI w] t (fun r t1 => r = some (vD (a_bears m f p w)) ∧ ∃ m1 f1, RA m1 f1 x g t1 ∧ eqs m m1 f f1) := by
  refine zM.of [(0, vR (some x)), (1, vI p), (2, vI w)] (by decide +kernel) rfl (Nat.le_of_ble_eq_true rfl) ?_
  obtain ⟨hp1, hp2⟩ := hp
  obtain ⟨hw1, hw2⟩ := hw
  have hn1 := hW.n.1
  have hn2 := hW.n.2
  refine z_aload_n 1 dX4_bears_0 rfl rfl ?_
  refine z_iload_n 2 dX4_bears_1 rfl rfl ?_
  refine z_callV 5 [_] la_X4_isThere ml_X4_149 im_X4_isThere se_X4_isThere hR.1.1 hR.1.2.1 (by decide) rfl rfl (r_isThere hR ⟨hp1, hp2⟩ hW.n hW.h4) rfl rfl (by decide) (Nat.le_of_ble_eq_true rfl) (by decide) (by decide) dX4_bears_2 rfl (fun r t hq => ?_)
  obtain ⟨z, rfl, hz1, hz2, hz3, hR⟩ := hq
  have hB := fun (h : z = 1) => hW.b (p := p) (by omega) (by omega)
  refine z_if_eq 22 8 dX4_bears_5 (by decide) rfl ⟨by omega, by omega⟩ (fun h5 => ?_) (fun h5 => ?_)
  · refine z_ldc2d 25 co_X4_170 dX4_bears_22 rfl ?_
    refine z_goto 35 dX4_bears_25 (by decide) ?_
    refine z_dreturn rfl dX4_bears_35 (by decide) (by decide) ?_
    refine ⟨congrArg (fun z => some (vD z)) ?_, _, _, hR, ?_⟩
    · unfold a_bears there cif; first | (rw [if_pos (by omega)]; try rfl) | (rw [if_neg (by omega)]; try rfl)
    · first | exact eqs.rf | exact he | exact eqs_3
  · refine z_iload_n 9 dX4_bears_8 rfl rfl ?_
    refine z_if_lt 22 12 dX4_bears_9 (by decide) rfl ⟨by omega, by omega⟩ (fun h9 => ?_) (fun h9 => ?_)
    · refine z_ldc2d 25 co_X4_170 dX4_bears_22 rfl ?_
      refine z_goto 35 dX4_bears_25 (by decide) ?_
      refine z_dreturn rfl dX4_bears_35 (by decide) (by decide) ?_
      refine ⟨congrArg (fun z => some (vD z)) ?_, _, _, hR, ?_⟩
      · unfold a_bears there cif; first | (rw [if_pos (by omega)]; try rfl) | (rw [if_neg (by omega)]; try rfl)
      · first | exact eqs.rf | exact he | exact eqs_3
    · refine z_iload_n 13 dX4_bears_12 rfl rfl ?_
      refine z_aload_n 14 dX4_bears_13 rfl rfl ?_
      refine r_getP 17 hR fl_X4_13 (by decide) dX4_bears_14 rfl ?_
      refine z_iload_n 18 dX4_bears_17 rfl rfl ?_
      refine r_iald 19 2 120 hR rk2 ⟨by omega, by omega⟩ dX4_bears_18 rfl ?_
      refine z_icmp_lt 28 22 dX4_bears_19 (by decide) rfl ⟨by omega, by omega⟩ ⟨by omega, by omega⟩ (fun h19 => ?_) (fun h19 => ?_)
      · have hl : live m p := ⟨by omega, by omega, by omega⟩
        refine z_aload_n 29 dX4_bears_28 rfl rfl ?_
        refine z_iload_n 30 dX4_bears_29 rfl rfl ?_
        refine z_iload_n 31 dX4_bears_30 rfl rfl ?_
        refine z_callV 34 [_, _] la_X4_bearing ml_X4_163 im_X4_bearing se_X4_bearing hR.1.1 hR.1.2.1 (by decide) rfl rfl (r_bearing hR hW hl ⟨by omega, by omega⟩) rfl rfl (by decide) (Nat.le_of_ble_eq_true rfl) (by decide) (by decide) dX4_bears_31 rfl (fun r t hq => ?_)
        obtain ⟨rfl, pl, be, hR⟩ := hq
        have hok := B_ok hW hl (z := w) (by omega) (by omega)
        refine z_f2d 35 dX4_bears_34 rfl (okv_f2d hok) ?_
        refine z_dreturn rfl dX4_bears_35 (by decide) (by decide) ?_
        refine ⟨congrArg (fun z => some (vD z)) ?_, _, _, hR, ?_⟩
        · unfold a_bears there cif; first | (rw [if_pos (by omega)]; try rfl) | (rw [if_neg (by omega)]; try rfl)
        · first | exact eqs.rf | exact he | exact eqs_3
      · refine z_ldc2d 25 co_X4_170 dX4_bears_22 rfl ?_
        refine z_goto 35 dX4_bears_25 (by decide) ?_
        refine z_dreturn rfl dX4_bears_35 (by decide) (by decide) ?_
        refine ⟨congrArg (fun z => some (vD z)) ?_, _, _, hR, ?_⟩
        · unfold a_bears there cif; first | (rw [if_pos (by omega)]; try rfl) | (rw [if_neg (by omega)]; try rfl)
        · first | exact eqs.rf | exact he | exact eqs_3
set_option maxRecDepth 20000 in
theorem r_least {m : Nat → Int → Int} {f : Nat → Int → UInt32} {x : Nat} {g : Nat → Nat} {t : zT} (hR : RA m f x g t) {p : Int} (hp : zi p) (hW : WF m f) : zM yX4_least cX4_least 2 (some .double) 3 0 0 [vR (some x), vI p] t (fun r t1 => r = some (vD (a_least m f p)) ∧ ∃ m1 f1, RA m1 f1 x g t1 ∧ eqs m m1 f f1) := by
  refine zM.of [(0, vR (some x)), (1, vI p)] (by decide +kernel) rfl (Nat.le_of_ble_eq_true rfl) ?_
  obtain ⟨hp1, hp2⟩ := hp
  have hn1 := hW.n.1
  have hn2 := hW.n.2
  refine z_aload_n 1 dX4_least_0 rfl rfl ?_
  refine z_iload_n 2 dX4_least_1 rfl rfl ?_
  refine z_callV 5 [_] la_X4_isThere ml_X4_149 im_X4_isThere se_X4_isThere hR.1.1 hR.1.2.1 (by decide) rfl rfl (r_isThere hR ⟨hp1, hp2⟩ hW.n hW.h4) rfl rfl (by decide) (Nat.le_of_ble_eq_true rfl) (by decide) (by decide) dX4_least_2 rfl (fun r t hq => ?_)
  obtain ⟨z, rfl, hz1, hz2, hz3, hR⟩ := hq
  have hB := fun (h : z = 1) => hW.b (p := p) (by omega) (by omega)
  refine z_if_eq 17 8 dX4_least_5 (by decide) rfl ⟨by omega, by omega⟩ (fun h5 => ?_) (fun h5 => ?_)
  · refine z_ldc2d 20 co_X4_170 dX4_least_17 rfl ?_
    refine z_dreturn rfl dX4_least_20 (by decide) (by decide) ?_
    refine ⟨congrArg (fun z => some (vD z)) ?_, _, _, hR, ?_⟩
    · unfold a_least there cif; first | (rw [if_pos (by omega)]; try rfl) | (rw [if_neg (by omega)]; try rfl)
    · first | exact eqs.rf | exact he | exact eqs_3
  · have hl : live m p := ⟨by omega, by omega, by omega⟩
    refine z_aload_n 9 dX4_least_8 rfl rfl ?_
    refine z_iload_n 10 dX4_least_9 rfl rfl ?_
    refine z_callV 13 [_] la_X4_leastOf ml_X4_172 im_X4_leastOf se_X4_leastOf hR.1.1 hR.1.2.1 (by decide) rfl rfl (r_leastOf hR hW hl) rfl rfl (by decide) (Nat.le_of_ble_eq_true rfl) (by decide) (by decide) dX4_least_10 rfl (fun r t hq => ?_)
    obtain ⟨rfl, m1, f1, hR, he, hw⟩ := hq
    have hok := least_ok hW hl
    refine z_f2d 14 dX4_least_13 rfl (okv_f2d hok) ?_
    refine z_goto 20 dX4_least_14 (by decide) ?_
    refine z_dreturn rfl dX4_least_20 (by decide) (by decide) ?_
    refine ⟨congrArg (fun z => some (vD z)) ?_, _, _, hR, ?_⟩
    · unfold a_least there cif; first | (rw [if_pos (by omega)]; try rfl) | (rw [if_neg (by omega)]; try rfl)
    · first | exact eqs.rf | exact he | exact eqs_3
set_option maxRecDepth 20000 in
theorem r_where {m : Nat → Int → Int} {f : Nat → Int → UInt32} {x : Nat} {g : Nat → Nat} {t : zT} (hR : RA m f x g t) {p : Int} (hp : zi p) (hW : WF m f) : zM yX4_where cX4_where 3 (some .int) 3 0 0 [vR (some x), vI p] t (fun r t1 => r = some (vI (a_where m f p)) ∧ ∃ m1 f1, RA m1 f1 x g t1 ∧ eqs m m1 f f1) := by
  refine zM.of [(0, vR (some x)), (1, vI p)] (by decide +kernel) rfl (Nat.le_of_ble_eq_true rfl) ?_
  obtain ⟨hp1, hp2⟩ := hp
  have hn1 := hW.n.1
  have hn2 := hW.n.2
  refine z_aload_n 1 dX4_where_0 rfl rfl ?_
  refine z_iload_n 2 dX4_where_1 rfl rfl ?_
  refine z_callV 5 [_] la_X4_isThere ml_X4_149 im_X4_isThere se_X4_isThere hR.1.1 hR.1.2.1 (by decide) rfl rfl (r_isThere hR ⟨hp1, hp2⟩ hW.n hW.h4) rfl rfl (by decide) (Nat.le_of_ble_eq_true rfl) (by decide) (by decide) dX4_where_2 rfl (fun r t hq => ?_)
  obtain ⟨z, rfl, hz1, hz2, hz3, hR⟩ := hq
  have hB := fun (h : z = 1) => hW.b (p := p) (by omega) (by omega)
  refine z_if_ne 11 8 dX4_where_5 (by decide) rfl ⟨by omega, by omega⟩ (fun h5 => ?_) (fun h5 => ?_)
  · have hl : live m p := ⟨by omega, by omega, by omega⟩
    refine z_aload_n 12 dX4_where_11 rfl rfl ?_
    refine z_iload_n 13 dX4_where_12 rfl rfl ?_
    refine z_callV 16 [_] la_X4_leastOf ml_X4_172 im_X4_leastOf se_X4_leastOf hR.1.1 hR.1.2.1 (by decide) rfl rfl (r_leastOf hR hW hl) rfl rfl (by decide) (Nat.le_of_ble_eq_true rfl) (by decide) (by decide) dX4_where_13 rfl (fun r t hq => ?_)
    obtain ⟨rfl, m1, f1, hR, he, hw⟩ := hq
    have hok := least_ok hW hl
    refine z_fstore_n (lv' := [(2, _), (0, _), (1, _)]) 17 dX4_where_16 rfl rfl rfl ?_
    refine z_aload_n 18 dX4_where_17 rfl rfl ?_
    refine r_getI 21 hR fl_X4_167 (by decide) dX4_where_18 rfl ?_
    refine z_ireturn rfl dX4_where_21 (by decide) (by decide) ?_
    refine ⟨congrArg (fun z => some (vI z)) ?_, _, _, hR, he⟩
    rw [hw]; unfold a_where there cif; rw [if_pos (by omega)]
  · refine z_bipush 10 dX4_where_8 rfl ⟨by decide, by decide⟩ ?_
    refine z_ireturn rfl dX4_where_10 (by decide) (by decide) ?_
    refine ⟨congrArg (fun z => some (vI z)) ?_, _, _, hR, eqs.rf⟩
    unfold a_where there cif; rw [if_neg (by omega)]
set_option maxRecDepth 20000 in
theorem r_grams {m : Nat → Int → Int} {f : Nat → Int → UInt32} {x : Nat} {g : Nat → Nat} {t : zT} (hR : RA m f x g t) {p : Int} (hp : zi p) (hW : WF m f) : zM yX4_grams cX4_grams 2 (some .long) 3 0 0 [vR (some x), vI p] t (fun r t1 => r = some (vL (a_grams m f p)) ∧ ∃ m1 f1, RA m1 f1 x g t1 ∧ eqs m m1 f f1) := by
  refine zM.of [(0, vR (some x)), (1, vI p)] (by decide +kernel) rfl (Nat.le_of_ble_eq_true rfl) ?_
  obtain ⟨hp1, hp2⟩ := hp
  have hn1 := hW.n.1
  have hn2 := hW.n.2
  refine z_aload_n 1 dX4_grams_0 rfl rfl ?_
  refine z_iload_n 2 dX4_grams_1 rfl rfl ?_
  refine z_callV 5 [_] la_X4_isThere ml_X4_149 im_X4_isThere se_X4_isThere hR.1.1 hR.1.2.1 (by decide) rfl rfl (r_isThere hR ⟨hp1, hp2⟩ hW.n hW.h4) rfl rfl (by decide) (Nat.le_of_ble_eq_true rfl) (by decide) (by decide) dX4_grams_2 rfl (fun r t hq => ?_)
  obtain ⟨z, rfl, hz1, hz2, hz3, hR⟩ := hq
  have hB := fun (h : z = 1) => hW.b (p := p) (by omega) (by omega)
  refine z_if_eq 20 8 dX4_grams_5 (by decide) rfl ⟨by omega, by omega⟩ (fun h5 => ?_) (fun h5 => ?_)
  · refine z_ldc2l 23 co_X4_176 dX4_grams_20 rfl ?_
    refine z_lreturn rfl dX4_grams_23 (by decide) (by decide) ?_
    refine ⟨congrArg (fun z => some (vL z)) ?_, _, _, hR, ?_⟩
    · unfold a_grams there cif; first | (rw [if_pos (by omega)]; try rfl) | (rw [if_neg (by omega)]; try rfl)
    · first | exact eqs.rf | exact he | exact eqs_3
  · have hl : live m p := ⟨by omega, by omega, by omega⟩
    refine z_aload_n 9 dX4_grams_8 rfl rfl ?_
    refine z_iload_n 10 dX4_grams_9 rfl rfl ?_
    refine z_callV 13 [_] la_X4_leastOf ml_X4_172 im_X4_leastOf se_X4_leastOf hR.1.1 hR.1.2.1 (by decide) rfl rfl (r_leastOf hR hW hl) rfl rfl (by decide) (Nat.le_of_ble_eq_true rfl) (by decide) (by decide) dX4_grams_10 rfl (fun r t hq => ?_)
    obtain ⟨rfl, m1, f1, hR, he, hw⟩ := hq
    have hok := least_ok hW hl
    refine z_ldcf 15 co_X4_175 dX4_grams_13 rfl ?_
    refine z_fmul 16 dX4_grams_15 rfl (okv_g hok) ?_
    refine z_f2l 17 dX4_grams_16 rfl (fl_eq _) ?_
    refine z_goto 23 dX4_grams_17 (by decide) ?_
    refine z_lreturn rfl dX4_grams_23 (by decide) (by decide) ?_
    refine ⟨congrArg (fun z => some (vL z)) ?_, _, _, hR, ?_⟩
    · unfold a_grams there cif; first | (rw [if_pos (by omega)]; try rfl) | (rw [if_neg (by omega)]; try rfl)
    · first | exact eqs.rf | exact he | exact eqs_3
set_option maxRecDepth 20000 in
theorem r_rest {m : Nat → Int → Int} {f : Nat → Int → UInt32} {x : Nat} {g : Nat → Nat} {t : zT} (hR : RA m f x g t) {p : Int} (hp : zi p) {w : Int} (hw : zi w) (hW : WF m f) : zM yX4_rest cX4_rest 3 (some .double) 3 0 0 [vR (some x), vI p, vI w] t (fun r t1 => r = some (vD (a_rest m f p w)) ∧ ∃ m1 f1, RA m1 f1 x g t1 ∧ eqs m m1 f f1) := by
  refine zM.of [(0, vR (some x)), (1, vI p), (2, vI w)] (by decide +kernel) rfl (Nat.le_of_ble_eq_true rfl) ?_
  obtain ⟨hp1, hp2⟩ := hp
  obtain ⟨hw1, hw2⟩ := hw
  have hn1 := hW.n.1
  have hn2 := hW.n.2
  refine z_aload_n 1 dX4_rest_0 rfl rfl ?_
  refine z_iload_n 2 dX4_rest_1 rfl rfl ?_
  refine z_callV 5 [_] la_X4_isThere ml_X4_149 im_X4_isThere se_X4_isThere hR.1.1 hR.1.2.1 (by decide) rfl rfl (r_isThere hR ⟨hp1, hp2⟩ hW.n hW.h4) rfl rfl (by decide) (Nat.le_of_ble_eq_true rfl) (by decide) (by decide) dX4_rest_2 rfl (fun r t hq => ?_)
  obtain ⟨z, rfl, hz1, hz2, hz3, hR⟩ := hq
  have hB := fun (h : z = 1) => hW.b (p := p) (by omega) (by omega)
  refine z_if_eq 19 8 dX4_rest_5 (by decide) rfl ⟨by omega, by omega⟩ (fun h5 => ?_) (fun h5 => ?_)
  · refine z_ldc2d 22 co_X4_170 dX4_rest_19 rfl ?_
    refine z_goto 37 dX4_rest_22 (by decide) ?_
    refine z_dreturn rfl dX4_rest_37 (by decide) (by decide) ?_
    refine ⟨congrArg (fun z => some (vD z)) ?_, _, _, hR, ?_⟩
    · unfold a_rest there cif; first | (rw [if_pos (by omega)]; try rfl) | (rw [if_neg (by omega)]; try rfl)
    · first | exact eqs.rf | exact he | exact eqs_3
  · refine z_iload_n 9 dX4_rest_8 rfl rfl ?_
    refine z_iconst 10 dX4_rest_9 rfl ?_
    refine z_icmp_lt 19 13 dX4_rest_10 (by decide) rfl ⟨by omega, by omega⟩ ⟨by omega, by omega⟩ (fun h10 => ?_) (fun h10 => ?_)
    · refine z_ldc2d 22 co_X4_170 dX4_rest_19 rfl ?_
      refine z_goto 37 dX4_rest_22 (by decide) ?_
      refine z_dreturn rfl dX4_rest_37 (by decide) (by decide) ?_
      refine ⟨congrArg (fun z => some (vD z)) ?_, _, _, hR, ?_⟩
      · unfold a_rest there cif; first | (rw [if_pos (by omega)]; try rfl) | (rw [if_neg (by omega)]; try rfl)
      · first | exact eqs.rf | exact he | exact eqs_3
    · refine z_iload_n 14 dX4_rest_13 rfl rfl ?_
      refine z_ldc 16 co_X4_113 dX4_rest_14 rfl ?_
      refine z_icmp_le 25 19 dX4_rest_16 (by decide) rfl ⟨by omega, by omega⟩ ⟨by omega, by omega⟩ (fun h16 => ?_) (fun h16 => ?_)
      · have hl : live m p := ⟨by omega, by omega, by omega⟩
        refine z_aload_n 26 dX4_rest_25 rfl rfl ?_
        refine z_iload_n 27 dX4_rest_26 rfl rfl ?_
        refine z_callV 30 [_] la_X4_leastOf ml_X4_172 im_X4_leastOf se_X4_leastOf hR.1.1 hR.1.2.1 (by decide) rfl rfl (r_leastOf hR hW hl) rfl rfl (by decide) (Nat.le_of_ble_eq_true rfl) (by decide) (by decide) dX4_rest_27 rfl (fun r t hq => ?_)
        obtain ⟨rfl, m1, f1, hR, he, hw⟩ := hq
        have hok := least_ok hW hl
        refine z_iload_n 31 dX4_rest_30 rfl rfl ?_
        refine z_i2f 32 dX4_rest_31 rfl ?_
        refine z_ldcf 34 co_X4_118 dX4_rest_32 rfl ?_
        refine z_fmul 35 dX4_rest_34 rfl (E8_num (by omega) (by omega)) ?_
        refine z_frem 36 dX4_rest_35 rfl ((okv_rem hok (by omega) (by omega)).1) ?_
        refine z_f2d 37 dX4_rest_36 rfl ((okv_rem hok (by omega) (by omega)).2) ?_
        refine z_dreturn rfl dX4_rest_37 (by decide) (by decide) ?_
        refine ⟨congrArg (fun z => some (vD z)) ?_, _, _, hR, ?_⟩
        · unfold a_rest there cif; first | (rw [if_pos (by omega)]; try rfl) | (rw [if_neg (by omega)]; try rfl)
        · first | exact eqs.rf | exact he | exact eqs_3
      · refine z_ldc2d 22 co_X4_170 dX4_rest_19 rfl ?_
        refine z_goto 37 dX4_rest_22 (by decide) ?_
        refine z_dreturn rfl dX4_rest_37 (by decide) (by decide) ?_
        refine ⟨congrArg (fun z => some (vD z)) ?_, _, _, hR, ?_⟩
        · unfold a_rest there cif; first | (rw [if_pos (by omega)]; try rfl) | (rw [if_neg (by omega)]; try rfl)
        · first | exact eqs.rf | exact he | exact eqs_3
set_option maxRecDepth 20000 in
theorem r_left {m : Nat → Int → Int} {f : Nat → Int → UInt32} {x : Nat} {g : Nat → Nat} {t : zT} (hR : RA m f x g t) {p : Int} (hp : zi p) {w : Int} (hw : zi w) (hW : WF m f) : zM yX4_left cX4_left 3 (some .double) 3 0 0 [vR (some x), vI p, vI w] t (fun r t1 => r = some (vD (a_left m f p w)) ∧ ∃ m1 f1, RA m1 f1 x g t1 ∧ eqs m m1 f f1) := by
  refine zM.of [(0, vR (some x)), (1, vI p), (2, vI w)] (by decide +kernel) rfl (Nat.le_of_ble_eq_true rfl) ?_
  obtain ⟨hp1, hp2⟩ := hp
  obtain ⟨hw1, hw2⟩ := hw
  have hn1 := hW.n.1
  have hn2 := hW.n.2
  refine z_aload_n 1 dX4_left_0 rfl rfl ?_
  refine z_iload_n 2 dX4_left_1 rfl rfl ?_
  refine z_callV 5 [_] la_X4_isThere ml_X4_149 im_X4_isThere se_X4_isThere hR.1.1 hR.1.2.1 (by decide) rfl rfl (r_isThere hR ⟨hp1, hp2⟩ hW.n hW.h4) rfl rfl (by decide) (Nat.le_of_ble_eq_true rfl) (by decide) (by decide) dX4_left_2 rfl (fun r t hq => ?_)
  obtain ⟨z, rfl, hz1, hz2, hz3, hR⟩ := hq
  have hB := fun (h : z = 1) => hW.b (p := p) (by omega) (by omega)
  refine z_if_eq 19 8 dX4_left_5 (by decide) rfl ⟨by omega, by omega⟩ (fun h5 => ?_) (fun h5 => ?_)
  · refine z_ldc2d 22 co_X4_170 dX4_left_19 rfl ?_
    refine z_goto 38 dX4_left_22 (by decide) ?_
    refine z_dreturn rfl dX4_left_38 (by decide) (by decide) ?_
    refine ⟨congrArg (fun z => some (vD z)) ?_, _, _, hR, ?_⟩
    · unfold a_left there cif; first | (rw [if_pos (by omega)]; try rfl) | (rw [if_neg (by omega)]; try rfl)
    · first | exact eqs.rf | exact he | exact eqs_3
  · refine z_iload_n 9 dX4_left_8 rfl rfl ?_
    refine z_iconst 10 dX4_left_9 rfl ?_
    refine z_icmp_lt 19 13 dX4_left_10 (by decide) rfl ⟨by omega, by omega⟩ ⟨by omega, by omega⟩ (fun h10 => ?_) (fun h10 => ?_)
    · refine z_ldc2d 22 co_X4_170 dX4_left_19 rfl ?_
      refine z_goto 38 dX4_left_22 (by decide) ?_
      refine z_dreturn rfl dX4_left_38 (by decide) (by decide) ?_
      refine ⟨congrArg (fun z => some (vD z)) ?_, _, _, hR, ?_⟩
      · unfold a_left there cif; first | (rw [if_pos (by omega)]; try rfl) | (rw [if_neg (by omega)]; try rfl)
      · first | exact eqs.rf | exact he | exact eqs_3
    · refine z_iload_n 14 dX4_left_13 rfl rfl ?_
      refine z_ldc 16 co_X4_178 dX4_left_14 rfl ?_
      refine z_icmp_le 25 19 dX4_left_16 (by decide) rfl ⟨by omega, by omega⟩ ⟨by omega, by omega⟩ (fun h16 => ?_) (fun h16 => ?_)
      · have hl : live m p := ⟨by omega, by omega, by omega⟩
        refine z_aload_n 26 dX4_left_25 rfl rfl ?_
        refine z_iload_n 27 dX4_left_26 rfl rfl ?_
        refine z_callV 30 [_] la_X4_leastOf ml_X4_172 im_X4_leastOf se_X4_leastOf hR.1.1 hR.1.2.1 (by decide) rfl rfl (r_leastOf hR hW hl) rfl rfl (by decide) (Nat.le_of_ble_eq_true rfl) (by decide) (by decide) dX4_left_27 rfl (fun r t hq => ?_)
        obtain ⟨rfl, m1, f1, hR, he, hw⟩ := hq
        have hok := least_ok hW hl
        refine z_f2d 31 dX4_left_30 rfl (okv_f2d hok) ?_
        refine z_iload_n 32 dX4_left_31 rfl rfl ?_
        refine z_i2d 33 dX4_left_32 rfl ?_
        refine z_ldc2d 36 co_X4_179 dX4_left_33 rfl ?_
        refine z_dmul 37 dX4_left_36 rfl ((okv_left hok (by omega) (by omega)).1) ?_
        refine z_drem 38 dX4_left_37 rfl ((okv_left hok (by omega) (by omega)).2) ?_
        refine z_dreturn rfl dX4_left_38 (by decide) (by decide) ?_
        refine ⟨congrArg (fun z => some (vD z)) ?_, _, _, hR, ?_⟩
        · unfold a_left there cif; first | (rw [if_pos (by omega)]; try rfl) | (rw [if_neg (by omega)]; try rfl)
        · first | exact eqs.rf | exact he | exact eqs_3
      · refine z_ldc2d 22 co_X4_170 dX4_left_19 rfl ?_
        refine z_goto 38 dX4_left_22 (by decide) ?_
        refine z_dreturn rfl dX4_left_38 (by decide) (by decide) ?_
        refine ⟨congrArg (fun z => some (vD z)) ?_, _, _, hR, ?_⟩
        · unfold a_left there cif; first | (rw [if_pos (by omega)]; try rfl) | (rw [if_neg (by omega)]; try rfl)
        · first | exact eqs.rf | exact he | exact eqs_3
set_option maxRecDepth 20000 in
theorem r_floor {m : Nat → Int → Int} {f : Nat → Int → UInt32} {x : Nat} {g : Nat → Nat} {t : zT} (hR : RA m f x g t) {v : UInt64} : zM yX4_floor cX4_floor 4 (some .long) 0 0 0 [vD v] t (fun r t1 => r = some (vL (flo v)) ∧ RA m f x g t1) := by
  refine zM.of [(0, vD v)] (by decide +kernel) rfl (Nat.le_of_ble_eq_true rfl) ?_
  refine z_dload_n 1 dX4_floor_0 rfl rfl ?_
  refine z_d2l 2 dX4_floor_1 rfl (dl_eq _) ?_
  refine z_lstore_n (lv' := [(2, _), (0, _)]) 3 dX4_floor_2 rfl rfl rfl ?_
  refine z_lload_n 4 dX4_floor_3 rfl rfl ?_
  refine z_l2d 5 dX4_floor_4 rfl ?_
  refine z_dload_n 6 dX4_floor_5 rfl rfl ?_
  refine z_dcmp 7 dX4_floor_6 rfl ?_
  refine z_if_le 16 10 dX4_floor_7 (by decide) rfl zfc_i (fun h7 => ?_) (fun h7 => ?_)
  · refine z_lload_n 17 dX4_floor_16 rfl rfl ?_
    refine z_lreturn rfl dX4_floor_17 (by decide) (by decide) ?_
    refine ⟨congrArg (fun z => some (vL z)) ?_, hR⟩
    unfold flo ld; first | rw [if_pos (by omega)] | rw [if_neg (by omega)]
  · refine z_lload_n 11 dX4_floor_10 rfl rfl ?_
    refine z_lconst (z := 1) 12 dX4_floor_11 rfl rfl ?_
    refine z_lsub 13 dX4_floor_12 rfl ?_
    refine z_goto 17 dX4_floor_13 (by decide) ?_
    refine z_lreturn rfl dX4_floor_17 (by decide) (by decide) ?_
    refine ⟨congrArg (fun z => some (vL z)) ?_, hR⟩
    unfold flo ld; first | rw [if_pos (by omega)] | rw [if_neg (by omega)]
set_option maxRecDepth 20000 in
theorem r_nearest {m : Nat → Int → Int} {f : Nat → Int → UInt32} {x : Nat} {g : Nat → Nat} {t : zT} (hR : RA m f x g t) {v : UInt64} (hv : DF v) : zM yX4_nearest cX4_nearest 6 (some .long) 1 0 0 [vD v] t (fun r t1 => r = some (vL (nea v)) ∧ RA m f x g t1) := by
  refine zM.of [(0, vD v)] (by decide +kernel) rfl (Nat.le_of_ble_eq_true rfl) ?_
  have hd := dm_num hv
  refine z_dload_n 1 dX4_nearest_0 rfl rfl ?_
  refine z_callS 4 [_] la_X4_floor ml_X4_181 sm_X4_floor (r_floor hR) rfl rfl (by decide) (Nat.le_of_ble_eq_true rfl) (by decide) (by decide) dX4_nearest_1 rfl (fun r t1 hq => ?_)
  obtain ⟨rfl, hR⟩ := hq
  refine z_lstore_n (lv' := [(2, _), (0, _)]) 5 dX4_nearest_4 rfl rfl rfl ?_
  refine z_dload_n 6 dX4_nearest_5 rfl rfl ?_
  refine z_lload_n 7 dX4_nearest_6 rfl rfl ?_
  refine z_l2d 8 dX4_nearest_7 rfl ?_
  refine z_dsub 9 dX4_nearest_8 rfl (hd) ?_
  refine z_dstore (lv' := [(4, _), (2, _), (0, _)]) 11 dX4_nearest_9 rfl rfl rfl ?_
  refine z_dload 13 dX4_nearest_11 rfl rfl ?_
  refine z_ldc2d 16 co_X4_185 dX4_nearest_13 rfl ?_
  refine z_dcmp 17 dX4_nearest_16 rfl ?_
  refine z_if_gt 37 20 dX4_nearest_17 (by decide) rfl zfc_i (fun h17 => ?_) (fun h17 => ?_)
  · refine z_lload_n 38 dX4_nearest_37 rfl rfl ?_
    refine z_lconst (z := 1) 39 dX4_nearest_38 rfl rfl ?_
    refine z_ladd 40 dX4_nearest_39 rfl ?_
    refine z_goto 44 dX4_nearest_40 (by decide) ?_
    refine z_lreturn rfl dX4_nearest_44 (by decide) (by decide) ?_
    refine ⟨congrArg (fun z => some (vL z)) ?_, hR⟩
    unfold nea dm ld; first | rw [if_pos (by omega)] | rw [if_neg (by omega)]
  · refine z_dload 22 dX4_nearest_20 rfl rfl ?_
    refine z_ldc2d 25 co_X4_185 dX4_nearest_22 rfl ?_
    refine z_dcmp 26 dX4_nearest_25 rfl ?_
    refine z_if_ne 43 29 dX4_nearest_26 (by decide) rfl zfc_i (fun h26 => ?_) (fun h26 => ?_)
    · refine z_lload_n 44 dX4_nearest_43 rfl rfl ?_
      refine z_lreturn rfl dX4_nearest_44 (by decide) (by decide) ?_
      refine ⟨congrArg (fun z => some (vL z)) ?_, hR⟩
      unfold nea dm ld; first | rw [if_pos (by omega)] | rw [if_neg (by omega)]
    · refine z_lload_n 30 dX4_nearest_29 rfl rfl ?_
      refine z_lconst (z := 1) 31 dX4_nearest_30 rfl rfl ?_
      refine z_land 32 dX4_nearest_31 rfl (land1 _) ?_
      refine z_lconst (z := 1) 33 dX4_nearest_32 rfl rfl ?_
      refine z_lcmp 34 dX4_nearest_33 rfl ⟨by omega, by omega⟩ ⟨by omega, by omega⟩ ?_
      refine z_if_ne 43 37 dX4_nearest_34 (by decide) rfl zlc_i (fun h34 => ?_) (fun h34 => ?_)
      · have h35 : ¬ (flo v % 2 = 1) := fun e => h34 (zlc_0.mpr e)
        refine z_lload_n 44 dX4_nearest_43 rfl rfl ?_
        refine z_lreturn rfl dX4_nearest_44 (by decide) (by decide) ?_
        refine ⟨congrArg (fun z => some (vL z)) ?_, hR⟩
        unfold nea dm ld; first | rw [if_pos (by omega)] | rw [if_neg (by omega)]
      · have h35 : flo v % 2 = 1 := zlc_0.mp (by omega)
        refine z_lload_n 38 dX4_nearest_37 rfl rfl ?_
        refine z_lconst (z := 1) 39 dX4_nearest_38 rfl rfl ?_
        refine z_ladd 40 dX4_nearest_39 rfl ?_
        refine z_goto 44 dX4_nearest_40 (by decide) ?_
        refine z_lreturn rfl dX4_nearest_44 (by decide) (by decide) ?_
        refine ⟨congrArg (fun z => some (vL z)) ?_, hR⟩
        unfold nea dm ld; first | rw [if_pos (by omega)] | rw [if_neg (by omega)]
set_option maxRecDepth 20000 in
theorem r_turned {m : Nat → Int → Int} {f : Nat → Int → UInt32} {x : Nat} {g : Nat → Nat} {t : zT} (hR : RA m f x g t) {p : Int} (hp : zi p) {w : Int} (hw : zi w) {u : Int} (hu : zi u) (hW : WF m f) : zM yX4_turned cX4_turned 8 (some .long) 3 0 0 [vR (some x), vI p, vI w, vI u] t (fun r t1 => r = some (vL (a_turned m f p w u)) ∧ ∃ m1 f1, RA m1 f1 x g t1 ∧ eqs m m1 f f1) := by
  refine zM.of [(0, vR (some x)), (1, vI p), (2, vI w), (3, vI u)] (by decide +kernel) rfl (Nat.le_of_ble_eq_true rfl) ?_
  obtain ⟨hp1, hp2⟩ := hp
  obtain ⟨hw1, hw2⟩ := hw
  obtain ⟨hu1, hu2⟩ := hu
  have hn1 := hW.n.1
  have hn2 := hW.n.2
  refine z_aload_n 1 dX4_turned_0 rfl rfl ?_
  refine z_iload_n 2 dX4_turned_1 rfl rfl ?_
  refine z_callV 5 [_] la_X4_isThere ml_X4_149 im_X4_isThere se_X4_isThere hR.1.1 hR.1.2.1 (by decide) rfl rfl (r_isThere hR ⟨hp1, hp2⟩ hW.n hW.h4) rfl rfl (by decide) (Nat.le_of_ble_eq_true rfl) (by decide) (by decide) dX4_turned_2 rfl (fun r t hq => ?_)
  obtain ⟨z, rfl, hz1, hz2, hz3, hR⟩ := hq
  have hB := fun (h : z = 1) => hW.b (p := p) (by omega) (by omega)
  refine z_if_eq 28 8 dX4_turned_5 (by decide) rfl ⟨by omega, by omega⟩ (fun h5 => ?_) (fun h5 => ?_)
  · refine z_ldc2l 31 co_X4_187 dX4_turned_28 rfl ?_
    refine z_lreturn rfl dX4_turned_31 (by decide) (by decide) ?_
    refine ⟨congrArg (fun z => some (vL z)) ?_, _, _, hR, eqs.rf⟩
    unfold a_turned there cif; rw [if_pos (by omega)]
  · refine z_iload_n 9 dX4_turned_8 rfl rfl ?_
    refine z_if_lt 28 12 dX4_turned_9 (by decide) rfl ⟨by omega, by omega⟩ (fun h9 => ?_) (fun h9 => ?_)
    · refine z_ldc2l 31 co_X4_187 dX4_turned_28 rfl ?_
      refine z_lreturn rfl dX4_turned_31 (by decide) (by decide) ?_
      refine ⟨congrArg (fun z => some (vL z)) ?_, _, _, hR, eqs.rf⟩
      unfold a_turned there cif; rw [if_pos (by omega)]
    · refine z_iload_n 13 dX4_turned_12 rfl rfl ?_
      refine z_ldc 15 co_X4_113 dX4_turned_13 rfl ?_
      refine z_icmp_gt 28 18 dX4_turned_15 (by decide) rfl ⟨by omega, by omega⟩ ⟨by omega, by omega⟩ (fun h15 => ?_) (fun h15 => ?_)
      · refine z_ldc2l 31 co_X4_187 dX4_turned_28 rfl ?_
        refine z_lreturn rfl dX4_turned_31 (by decide) (by decide) ?_
        refine ⟨congrArg (fun z => some (vL z)) ?_, _, _, hR, eqs.rf⟩
        unfold a_turned there cif; rw [if_pos (by omega)]
      · refine z_iload_n 19 dX4_turned_18 rfl rfl ?_
        refine z_if_lt 28 22 dX4_turned_19 (by decide) rfl ⟨by omega, by omega⟩ (fun h19 => ?_) (fun h19 => ?_)
        · refine z_ldc2l 31 co_X4_187 dX4_turned_28 rfl ?_
          refine z_lreturn rfl dX4_turned_31 (by decide) (by decide) ?_
          refine ⟨congrArg (fun z => some (vL z)) ?_, _, _, hR, eqs.rf⟩
          unfold a_turned there cif; rw [if_pos (by omega)]
        · refine z_iload_n 23 dX4_turned_22 rfl rfl ?_
          refine z_bipush 25 dX4_turned_23 rfl ⟨by decide, by decide⟩ ?_
          refine z_icmp_le 32 28 dX4_turned_25 (by decide) rfl ⟨by omega, by omega⟩ ⟨by omega, by omega⟩ (fun h25 => ?_) (fun h25 => ?_)
          · have hl : live m p := ⟨by omega, by omega, by omega⟩
            refine z_aload_n 33 dX4_turned_32 rfl rfl ?_
            refine z_iload_n 34 dX4_turned_33 rfl rfl ?_
            refine z_callV 37 [_] la_X4_leastOf ml_X4_172 im_X4_leastOf se_X4_leastOf hR.1.1 hR.1.2.1 (by decide) rfl rfl (r_leastOf hR hW hl) rfl rfl (by decide) (Nat.le_of_ble_eq_true rfl) (by decide) (by decide) dX4_turned_34 rfl (fun r t hq => ?_)
            obtain ⟨rfl, m1, f1, hR, he, hw⟩ := hq
            have hok := least_ok hW hl
            refine z_fstore (lv' := [(4, _), (0, _), (1, _), (2, _), (3, _)]) 39 dX4_turned_37 rfl rfl rfl ?_
            have hn := okv_td hok (e := w) (by omega) (by omega)
            obtain ⟨hn1a, hn2a, hn3a, hn4a, hn5a⟩ := hn
            refine z_fload 41 dX4_turned_39 rfl rfl ?_
            refine z_f2d 42 dX4_turned_41 rfl (okv_f2d hok) ?_
            refine z_iload_n 43 dX4_turned_42 rfl rfl ?_
            refine z_i2d 44 dX4_turned_43 rfl ?_
            refine z_ldc2d 47 co_X4_189 dX4_turned_44 rfl ?_
            refine z_dmul 48 dX4_turned_47 rfl (hn1a) ?_
            refine z_dsub 49 dX4_turned_48 rfl (hn2a) ?_
            refine z_dstore (lv' := [(5, _), (4, _), (0, _), (1, _), (2, _), (3, _)]) 51 dX4_turned_49 rfl rfl rfl ?_
            refine z_fload 53 dX4_turned_51 rfl rfl ?_
            refine z_iload_n 54 dX4_turned_53 rfl rfl ?_
            refine z_i2f 55 dX4_turned_54 rfl ?_
            refine z_ldcf 57 co_X4_118 dX4_turned_55 rfl ?_
            refine z_fmul 58 dX4_turned_57 rfl (E8_num (by omega) (by omega)) ?_
            refine z_fsub 59 dX4_turned_58 rfl (hn3a) ?_
            refine z_fstore (lv' := [(7, _), (5, _), (4, _), (0, _), (1, _), (2, _), (3, _)]) 61 dX4_turned_59 rfl rfl rfl ?_
            refine z_iload_n 62 dX4_turned_61 rfl rfl ?_
            by_cases hs62 : u < 0 ∨ 11 < u
            · refine z_swOut 360 dX4_turned_62 ⟨by omega, by omega⟩ hs62 (by decide) ?_
              refine z_fload 362 dX4_turned_360 rfl rfl ?_
              refine z_fconst0 363 dX4_turned_362 rfl ?_
              refine z_fcmp 364 dX4_turned_363 rfl ?_
              refine z_if_ge 373 367 dX4_turned_364 (by decide) rfl zfc_i (fun h364 => ?_) (fun h364 => ?_)
              · refine z_ldc2l 376 co_X4_200 dX4_turned_373 rfl ?_
                refine z_lreturn rfl dX4_turned_376 (by decide) (by decide) ?_
                refine ⟨congrArg (fun z => some (vL z)) ?_, _, _, hR, he⟩
                unfold a_turned there cif
                rw [if_neg (by omega), show u = 12 by omega, turn_12]
                unfold tf E8
                first | rw [if_pos (by omega)] | rw [if_neg (by omega)]
              · refine z_ldc2l 370 co_X4_176 dX4_turned_367 rfl ?_
                refine z_goto 376 dX4_turned_370 (by decide) ?_
                refine z_lreturn rfl dX4_turned_376 (by decide) (by decide) ?_
                refine ⟨congrArg (fun z => some (vL z)) ?_, _, _, hR, he⟩
                unfold a_turned there cif
                rw [if_neg (by omega), show u = 12 by omega, turn_12]
                unfold tf E8
                first | rw [if_pos (by omega)] | rw [if_neg (by omega)]
            · obtain hs62 | hs62 | hs62 | hs62 | hs62 | hs62 | hs62 | hs62 | hs62 | hs62 | hs62 | hs62 : u = 0 ∨ u = 1 ∨ u = 2 ∨ u = 3 ∨ u = 4 ∨ u = 5 ∨ u = 6 ∨ u = 7 ∨ u = 8 ∨ u = 9 ∨ u = 10 ∨ u = 11 := by omega
              · refine z_swIn 124 dX4_turned_62 ⟨by omega, by omega⟩ (by omega) (by omega) (by rw [hs62]; rfl) (by decide) ?_
                refine z_dload 126 dX4_turned_124 rfl rfl ?_
                refine z_callS 129 [_] la_X4_floor ml_X4_181 sm_X4_floor (r_floor hR) rfl rfl (by decide) (Nat.le_of_ble_eq_true rfl) (by decide) (by decide) dX4_turned_126 rfl (fun r t1 hq => ?_)
                obtain ⟨rfl, hR⟩ := hq
                refine z_lreturn rfl dX4_turned_129 (by decide) (by decide) ?_
                refine ⟨congrArg (fun z => some (vL z)) ?_, _, _, hR, he⟩
                unfold a_turned there cif
                rw [if_neg (by omega), show u = 0 by omega, turn_0]
                first | done | rfl
              · refine z_swIn 130 dX4_turned_62 ⟨by omega, by omega⟩ (by omega) (by omega) (by rw [hs62]; rfl) (by decide) ?_
                refine z_dload 132 dX4_turned_130 rfl rfl ?_
                refine z_callS 135 [_] la_X4_floor ml_X4_181 sm_X4_floor (r_floor hR) rfl rfl (by decide) (Nat.le_of_ble_eq_true rfl) (by decide) (by decide) dX4_turned_132 rfl (fun r t1 hq => ?_)
                obtain ⟨rfl, hR⟩ := hq
                refine z_l2d 136 dX4_turned_135 rfl ?_
                refine z_dload 138 dX4_turned_136 rfl rfl ?_
                refine z_dcmp 139 dX4_turned_138 rfl ?_
                refine z_if_ge 152 142 dX4_turned_139 (by decide) rfl zfc_i (fun h139 => ?_) (fun h139 => ?_)
                · refine z_dload 154 dX4_turned_152 rfl rfl ?_
                  refine z_callS 157 [_] la_X4_floor ml_X4_181 sm_X4_floor (r_floor hR) rfl rfl (by decide) (Nat.le_of_ble_eq_true rfl) (by decide) (by decide) dX4_turned_154 rfl (fun r t1 hq => ?_)
                  obtain ⟨rfl, hR⟩ := hq
                  refine z_lreturn rfl dX4_turned_157 (by decide) (by decide) ?_
                  refine ⟨congrArg (fun z => some (vL z)) ?_, _, _, hR, he⟩
                  unfold a_turned there cif
                  rw [if_neg (by omega), show u = 1 by omega, turn_1]
                  unfold td td1 ld
                  first | rw [if_pos (by omega)] | (rw [if_neg (by omega)]; first | done | rw [if_pos (by omega)] | rw [if_neg (by omega)])
                · refine z_dload 144 dX4_turned_142 rfl rfl ?_
                  refine z_callS 147 [_] la_X4_floor ml_X4_181 sm_X4_floor (r_floor hR) rfl rfl (by decide) (Nat.le_of_ble_eq_true rfl) (by decide) (by decide) dX4_turned_144 rfl (fun r t1 hq => ?_)
                  obtain ⟨rfl, hR⟩ := hq
                  refine z_lconst (z := 1) 148 dX4_turned_147 rfl rfl ?_
                  refine z_ladd 149 dX4_turned_148 rfl ?_
                  refine z_goto 157 dX4_turned_149 (by decide) ?_
                  refine z_lreturn rfl dX4_turned_157 (by decide) (by decide) ?_
                  refine ⟨congrArg (fun z => some (vL z)) ?_, _, _, hR, he⟩
                  unfold a_turned there cif
                  rw [if_neg (by omega), show u = 1 by omega, turn_1]
                  unfold td td1 ld
                  first | rw [if_pos (by omega)] | (rw [if_neg (by omega)]; first | done | rw [if_pos (by omega)] | rw [if_neg (by omega)])
              · refine z_swIn 158 dX4_turned_62 ⟨by omega, by omega⟩ (by omega) (by omega) (by rw [hs62]; rfl) (by decide) ?_
                refine z_dload 160 dX4_turned_158 rfl rfl ?_
                refine z_callS 163 [_] la_X4_nearest ml_X4_191 sm_X4_nearest (r_nearest hR hn4a) rfl rfl (by decide) (Nat.le_of_ble_eq_true rfl) (by decide) (by decide) dX4_turned_160 rfl (fun r t1 hq => ?_)
                obtain ⟨rfl, hR⟩ := hq
                refine z_lreturn rfl dX4_turned_163 (by decide) (by decide) ?_
                refine ⟨congrArg (fun z => some (vL z)) ?_, _, _, hR, he⟩
                unfold a_turned there cif
                rw [if_neg (by omega), show u = 2 by omega, turn_2]
                first | done | rfl
              · refine z_swIn 164 dX4_turned_62 ⟨by omega, by omega⟩ (by omega) (by omega) (by rw [hs62]; rfl) (by decide) ?_
                refine z_dload 166 dX4_turned_164 rfl rfl ?_
                refine z_dconst0 167 dX4_turned_166 rfl ?_
                refine z_dcmp 168 dX4_turned_167 rfl ?_
                refine z_if_ge 177 171 dX4_turned_168 (by decide) rfl zfc_i (fun h168 => ?_) (fun h168 => ?_)
                · refine z_dload 179 dX4_turned_177 rfl rfl ?_
                  refine z_dconst0 180 dX4_turned_179 rfl ?_
                  refine z_dcmp 181 dX4_turned_180 rfl ?_
                  refine z_if_le 188 184 dX4_turned_181 (by decide) rfl zfc_i (fun h181 => ?_) (fun h181 => ?_)
                  · refine z_lconst (z := 0) 189 dX4_turned_188 rfl rfl ?_
                    refine z_lreturn rfl dX4_turned_189 (by decide) (by decide) ?_
                    refine ⟨congrArg (fun z => some (vL z)) ?_, _, _, hR, he⟩
                    unfold a_turned there cif
                    rw [if_neg (by omega), show u = 3 by omega, turn_3]
                    unfold td td1
                    first | rw [if_pos (by omega)] | (rw [if_neg (by omega)]; first | done | rw [if_pos (by omega)] | rw [if_neg (by omega)])
                  · refine z_lconst (z := 1) 185 dX4_turned_184 rfl rfl ?_
                    refine z_goto 189 dX4_turned_185 (by decide) ?_
                    refine z_lreturn rfl dX4_turned_189 (by decide) (by decide) ?_
                    refine ⟨congrArg (fun z => some (vL z)) ?_, _, _, hR, he⟩
                    unfold a_turned there cif
                    rw [if_neg (by omega), show u = 3 by omega, turn_3]
                    unfold td td1
                    first | rw [if_pos (by omega)] | (rw [if_neg (by omega)]; first | done | rw [if_pos (by omega)] | rw [if_neg (by omega)])
                · refine z_ldc2l 174 co_X4_194 dX4_turned_171 rfl ?_
                  refine z_goto 189 dX4_turned_174 (by decide) ?_
                  refine z_lreturn rfl dX4_turned_189 (by decide) (by decide) ?_
                  refine ⟨congrArg (fun z => some (vL z)) ?_, _, _, hR, he⟩
                  unfold a_turned there cif
                  rw [if_neg (by omega), show u = 3 by omega, turn_3]
                  unfold td td1
                  first | rw [if_pos (by omega)] | (rw [if_neg (by omega)]; first | done | rw [if_pos (by omega)] | rw [if_neg (by omega)])
              · refine z_swIn 190 dX4_turned_62 ⟨by omega, by omega⟩ (by omega) (by omega) (by rw [hs62]; rfl) (by decide) ?_
                refine z_ldc2d 193 co_X4_196 dX4_turned_190 rfl ?_
                refine z_dload 195 dX4_turned_193 rfl rfl ?_
                refine z_dconst0 196 dX4_turned_195 rfl ?_
                refine z_dcmp 197 dX4_turned_196 rfl ?_
                refine z_if_ge 206 200 dX4_turned_197 (by decide) rfl zfc_i (fun h197 => ?_) (fun h197 => ?_)
                · refine z_dload 208 dX4_turned_206 rfl rfl ?_
                  refine z_dmul 209 dX4_turned_208 rfl (by first | exact hn4a.mul8 | exact hn4a.neg.mul8) ?_
                  refine z_d2l 210 dX4_turned_209 rfl (dl_eq _) ?_
                  refine z_lreturn rfl dX4_turned_210 (by decide) (by decide) ?_
                  refine ⟨congrArg (fun z => some (vL z)) ?_, _, _, hR, he⟩
                  unfold a_turned there cif
                  rw [if_neg (by omega), show u = 4 by omega, turn_4]
                  unfold td td1
                  first | rw [if_pos (by omega)] | rw [if_neg (by omega)]
                · refine z_dload 202 dX4_turned_200 rfl rfl ?_
                  refine z_dneg 203 dX4_turned_202 rfl ?_
                  refine z_goto 208 dX4_turned_203 (by decide) ?_
                  refine z_dmul 209 dX4_turned_208 rfl (by first | exact hn4a.mul8 | exact hn4a.neg.mul8) ?_
                  refine z_d2l 210 dX4_turned_209 rfl (dl_eq _) ?_
                  refine z_lreturn rfl dX4_turned_210 (by decide) (by decide) ?_
                  refine ⟨congrArg (fun z => some (vL z)) ?_, _, _, hR, he⟩
                  unfold a_turned there cif
                  rw [if_neg (by omega), show u = 4 by omega, turn_4]
                  unfold td td1
                  first | rw [if_pos (by omega)] | rw [if_neg (by omega)]
              · refine z_swIn 211 dX4_turned_62 ⟨by omega, by omega⟩ (by omega) (by omega) (by rw [hs62]; rfl) (by decide) ?_
                refine z_ldc2d 214 co_X4_196 dX4_turned_211 rfl ?_
                refine z_dload 216 dX4_turned_214 rfl rfl ?_
                refine z_ldc2d 219 co_X4_198 dX4_turned_216 rfl ?_
                refine z_dcmp 220 dX4_turned_219 rfl ?_
                refine z_if_le 228 223 dX4_turned_220 (by decide) rfl zfc_i (fun h220 => ?_) (fun h220 => ?_)
                · refine z_ldc2d 231 co_X4_198 dX4_turned_228 rfl ?_
                  refine z_dmul 232 dX4_turned_231 rfl (by first | exact hn4a.mul8 | exact DF.q.mul8) ?_
                  refine z_d2l 233 dX4_turned_232 rfl (dl_eq _) ?_
                  refine z_lreturn rfl dX4_turned_233 (by decide) (by decide) ?_
                  refine ⟨congrArg (fun z => some (vL z)) ?_, _, _, hR, he⟩
                  unfold a_turned there cif
                  rw [if_neg (by omega), show u = 5 by omega, turn_5]
                  unfold td td1
                  first | rw [if_pos (by omega)] | rw [if_neg (by omega)]
                · refine z_dload 225 dX4_turned_223 rfl rfl ?_
                  refine z_goto 231 dX4_turned_225 (by decide) ?_
                  refine z_dmul 232 dX4_turned_231 rfl (by first | exact hn4a.mul8 | exact DF.q.mul8) ?_
                  refine z_d2l 233 dX4_turned_232 rfl (dl_eq _) ?_
                  refine z_lreturn rfl dX4_turned_233 (by decide) (by decide) ?_
                  refine ⟨congrArg (fun z => some (vL z)) ?_, _, _, hR, he⟩
                  unfold a_turned there cif
                  rw [if_neg (by omega), show u = 5 by omega, turn_5]
                  unfold td td1
                  first | rw [if_pos (by omega)] | rw [if_neg (by omega)]
              · refine z_swIn 234 dX4_turned_62 ⟨by omega, by omega⟩ (by omega) (by omega) (by rw [hs62]; rfl) (by decide) ?_
                refine z_ldc2d 237 co_X4_196 dX4_turned_234 rfl ?_
                refine z_dload 239 dX4_turned_237 rfl rfl ?_
                refine z_ldc2d 242 co_X4_198 dX4_turned_239 rfl ?_
                refine z_dcmp 243 dX4_turned_242 rfl ?_
                refine z_if_ge 251 246 dX4_turned_243 (by decide) rfl zfc_i (fun h243 => ?_) (fun h243 => ?_)
                · refine z_ldc2d 254 co_X4_198 dX4_turned_251 rfl ?_
                  refine z_dmul 255 dX4_turned_254 rfl (by first | exact hn4a.mul8 | exact DF.q.mul8) ?_
                  refine z_d2l 256 dX4_turned_255 rfl (dl_eq _) ?_
                  refine z_lreturn rfl dX4_turned_256 (by decide) (by decide) ?_
                  refine ⟨congrArg (fun z => some (vL z)) ?_, _, _, hR, he⟩
                  unfold a_turned there cif
                  rw [if_neg (by omega), show u = 6 by omega, turn_6]
                  unfold td td1
                  first | rw [if_pos (by omega)] | rw [if_neg (by omega)]
                · refine z_dload 248 dX4_turned_246 rfl rfl ?_
                  refine z_goto 254 dX4_turned_248 (by decide) ?_
                  refine z_dmul 255 dX4_turned_254 rfl (by first | exact hn4a.mul8 | exact DF.q.mul8) ?_
                  refine z_d2l 256 dX4_turned_255 rfl (dl_eq _) ?_
                  refine z_lreturn rfl dX4_turned_256 (by decide) (by decide) ?_
                  refine ⟨congrArg (fun z => some (vL z)) ?_, _, _, hR, he⟩
                  unfold a_turned there cif
                  rw [if_neg (by omega), show u = 6 by omega, turn_6]
                  unfold td td1
                  first | rw [if_pos (by omega)] | rw [if_neg (by omega)]
              · refine z_swIn 257 dX4_turned_62 ⟨by omega, by omega⟩ (by omega) (by omega) (by rw [hs62]; rfl) (by decide) ?_
                refine z_dload 259 dX4_turned_257 rfl rfl ?_
                refine z_dconst0 260 dX4_turned_259 rfl ?_
                refine z_dcmp 261 dX4_turned_260 rfl ?_
                refine z_if_ge 270 264 dX4_turned_261 (by decide) rfl zfc_i (fun h261 => ?_) (fun h261 => ?_)
                · refine z_ldc2l 273 co_X4_200 dX4_turned_270 rfl ?_
                  refine z_lreturn rfl dX4_turned_273 (by decide) (by decide) ?_
                  refine ⟨congrArg (fun z => some (vL z)) ?_, _, _, hR, he⟩
                  unfold a_turned there cif
                  rw [if_neg (by omega), show u = 7 by omega, turn_7]
                  unfold td td1
                  first | rw [if_pos (by omega)] | rw [if_neg (by omega)]
                · refine z_ldc2l 267 co_X4_176 dX4_turned_264 rfl ?_
                  refine z_goto 273 dX4_turned_267 (by decide) ?_
                  refine z_lreturn rfl dX4_turned_273 (by decide) (by decide) ?_
                  refine ⟨congrArg (fun z => some (vL z)) ?_, _, _, hR, he⟩
                  unfold a_turned there cif
                  rw [if_neg (by omega), show u = 7 by omega, turn_7]
                  unfold td td1
                  first | rw [if_pos (by omega)] | rw [if_neg (by omega)]
              · refine z_swIn 274 dX4_turned_62 ⟨by omega, by omega⟩ (by omega) (by omega) (by rw [hs62]; rfl) (by decide) ?_
                refine z_fload 276 dX4_turned_274 rfl rfl ?_
                refine z_fconst0 277 dX4_turned_276 rfl ?_
                refine z_fcmp 278 dX4_turned_277 rfl ?_
                refine z_if_ge 287 281 dX4_turned_278 (by decide) rfl zfc_i (fun h278 => ?_) (fun h278 => ?_)
                · refine z_fload 289 dX4_turned_287 rfl rfl ?_
                  refine z_fconst0 290 dX4_turned_289 rfl ?_
                  refine z_fcmp 291 dX4_turned_290 rfl ?_
                  refine z_if_le 298 294 dX4_turned_291 (by decide) rfl zfc_i (fun h291 => ?_) (fun h291 => ?_)
                  · refine z_lconst (z := 0) 299 dX4_turned_298 rfl rfl ?_
                    refine z_lreturn rfl dX4_turned_299 (by decide) (by decide) ?_
                    refine ⟨congrArg (fun z => some (vL z)) ?_, _, _, hR, he⟩
                    unfold a_turned there cif
                    rw [if_neg (by omega), show u = 8 by omega, turn_8]
                    unfold tf E8
                    first | rw [if_pos (by omega)] | (rw [if_neg (by omega)]; first | done | rw [if_pos (by omega)] | rw [if_neg (by omega)])
                  · refine z_lconst (z := 1) 295 dX4_turned_294 rfl rfl ?_
                    refine z_goto 299 dX4_turned_295 (by decide) ?_
                    refine z_lreturn rfl dX4_turned_299 (by decide) (by decide) ?_
                    refine ⟨congrArg (fun z => some (vL z)) ?_, _, _, hR, he⟩
                    unfold a_turned there cif
                    rw [if_neg (by omega), show u = 8 by omega, turn_8]
                    unfold tf E8
                    first | rw [if_pos (by omega)] | (rw [if_neg (by omega)]; first | done | rw [if_pos (by omega)] | rw [if_neg (by omega)])
                · refine z_ldc2l 284 co_X4_194 dX4_turned_281 rfl ?_
                  refine z_goto 299 dX4_turned_284 (by decide) ?_
                  refine z_lreturn rfl dX4_turned_299 (by decide) (by decide) ?_
                  refine ⟨congrArg (fun z => some (vL z)) ?_, _, _, hR, he⟩
                  unfold a_turned there cif
                  rw [if_neg (by omega), show u = 8 by omega, turn_8]
                  unfold tf E8
                  first | rw [if_pos (by omega)] | (rw [if_neg (by omega)]; first | done | rw [if_pos (by omega)] | rw [if_neg (by omega)])
              · refine z_swIn 300 dX4_turned_62 ⟨by omega, by omega⟩ (by omega) (by omega) (by rw [hs62]; rfl) (by decide) ?_
                refine z_ldcf 302 co_X4_202 dX4_turned_300 rfl ?_
                refine z_fload 304 dX4_turned_302 rfl rfl ?_
                refine z_fconst0 305 dX4_turned_304 rfl ?_
                refine z_fcmp 306 dX4_turned_305 rfl ?_
                refine z_if_ge 315 309 dX4_turned_306 (by decide) rfl zfc_i (fun h306 => ?_) (fun h306 => ?_)
                · refine z_fload 317 dX4_turned_315 rfl rfl ?_
                  refine z_fmul 318 dX4_turned_317 rfl (by first | exact hn5a.mul8 | exact hn5a.neg.mul8) ?_
                  refine z_f2l 319 dX4_turned_318 rfl (fl_eq _) ?_
                  refine z_lreturn rfl dX4_turned_319 (by decide) (by decide) ?_
                  refine ⟨congrArg (fun z => some (vL z)) ?_, _, _, hR, he⟩
                  unfold a_turned there cif
                  rw [if_neg (by omega), show u = 9 by omega, turn_9]
                  unfold tf E8
                  first | rw [if_pos (by omega)] | rw [if_neg (by omega)]
                · refine z_fload 311 dX4_turned_309 rfl rfl ?_
                  refine z_fneg 312 dX4_turned_311 rfl ?_
                  refine z_goto 317 dX4_turned_312 (by decide) ?_
                  refine z_fmul 318 dX4_turned_317 rfl (by first | exact hn5a.mul8 | exact hn5a.neg.mul8) ?_
                  refine z_f2l 319 dX4_turned_318 rfl (fl_eq _) ?_
                  refine z_lreturn rfl dX4_turned_319 (by decide) (by decide) ?_
                  refine ⟨congrArg (fun z => some (vL z)) ?_, _, _, hR, he⟩
                  unfold a_turned there cif
                  rw [if_neg (by omega), show u = 9 by omega, turn_9]
                  unfold tf E8
                  first | rw [if_pos (by omega)] | rw [if_neg (by omega)]
              · refine z_swIn 320 dX4_turned_62 ⟨by omega, by omega⟩ (by omega) (by omega) (by rw [hs62]; rfl) (by decide) ?_
                refine z_ldcf 322 co_X4_202 dX4_turned_320 rfl ?_
                refine z_fload 324 dX4_turned_322 rfl rfl ?_
                refine z_ldcf 326 co_X4_203 dX4_turned_324 rfl ?_
                refine z_fcmp 327 dX4_turned_326 rfl ?_
                refine z_if_le 335 330 dX4_turned_327 (by decide) rfl zfc_i (fun h327 => ?_) (fun h327 => ?_)
                · refine z_ldcf 337 co_X4_203 dX4_turned_335 rfl ?_
                  refine z_fmul 338 dX4_turned_337 rfl (by first | exact hn5a.mul8 | exact FF.q.mul8) ?_
                  refine z_f2l 339 dX4_turned_338 rfl (fl_eq _) ?_
                  refine z_lreturn rfl dX4_turned_339 (by decide) (by decide) ?_
                  refine ⟨congrArg (fun z => some (vL z)) ?_, _, _, hR, he⟩
                  unfold a_turned there cif
                  rw [if_neg (by omega), show u = 10 by omega, turn_10]
                  unfold tf E8
                  first | rw [if_pos (by omega)] | rw [if_neg (by omega)]
                · refine z_fload 332 dX4_turned_330 rfl rfl ?_
                  refine z_goto 337 dX4_turned_332 (by decide) ?_
                  refine z_fmul 338 dX4_turned_337 rfl (by first | exact hn5a.mul8 | exact FF.q.mul8) ?_
                  refine z_f2l 339 dX4_turned_338 rfl (fl_eq _) ?_
                  refine z_lreturn rfl dX4_turned_339 (by decide) (by decide) ?_
                  refine ⟨congrArg (fun z => some (vL z)) ?_, _, _, hR, he⟩
                  unfold a_turned there cif
                  rw [if_neg (by omega), show u = 10 by omega, turn_10]
                  unfold tf E8
                  first | rw [if_pos (by omega)] | rw [if_neg (by omega)]
              · refine z_swIn 340 dX4_turned_62 ⟨by omega, by omega⟩ (by omega) (by omega) (by rw [hs62]; rfl) (by decide) ?_
                refine z_ldcf 342 co_X4_202 dX4_turned_340 rfl ?_
                refine z_fload 344 dX4_turned_342 rfl rfl ?_
                refine z_ldcf 346 co_X4_203 dX4_turned_344 rfl ?_
                refine z_fcmp 347 dX4_turned_346 rfl ?_
                refine z_if_ge 355 350 dX4_turned_347 (by decide) rfl zfc_i (fun h347 => ?_) (fun h347 => ?_)
                · refine z_ldcf 357 co_X4_203 dX4_turned_355 rfl ?_
                  refine z_fmul 358 dX4_turned_357 rfl (by first | exact hn5a.mul8 | exact FF.q.mul8) ?_
                  refine z_f2l 359 dX4_turned_358 rfl (fl_eq _) ?_
                  refine z_lreturn rfl dX4_turned_359 (by decide) (by decide) ?_
                  refine ⟨congrArg (fun z => some (vL z)) ?_, _, _, hR, he⟩
                  unfold a_turned there cif
                  rw [if_neg (by omega), show u = 11 by omega, turn_11]
                  unfold tf E8
                  first | rw [if_pos (by omega)] | rw [if_neg (by omega)]
                · refine z_fload 352 dX4_turned_350 rfl rfl ?_
                  refine z_goto 357 dX4_turned_352 (by decide) ?_
                  refine z_fmul 358 dX4_turned_357 rfl (by first | exact hn5a.mul8 | exact FF.q.mul8) ?_
                  refine z_f2l 359 dX4_turned_358 rfl (fl_eq _) ?_
                  refine z_lreturn rfl dX4_turned_359 (by decide) (by decide) ?_
                  refine ⟨congrArg (fun z => some (vL z)) ?_, _, _, hR, he⟩
                  unfold a_turned there cif
                  rw [if_neg (by omega), show u = 11 by omega, turn_11]
                  unfold tf E8
                  first | rw [if_pos (by omega)] | rw [if_neg (by omega)]
          · refine z_ldc2l 31 co_X4_187 dX4_turned_28 rfl ?_
            refine z_lreturn rfl dX4_turned_31 (by decide) (by decide) ?_
            refine ⟨congrArg (fun z => some (vL z)) ?_, _, _, hR, eqs.rf⟩
            unfold a_turned there cif; rw [if_pos (by omega)]
