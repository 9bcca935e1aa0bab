set_option maxRecDepth 20000 in
theorem r_leastOf {m : Nat → Int → Int} {f : Nat → Int → UInt32} {x : Nat} {g : Nat → Nat} {t : zT} (hR : RA m f x g t) {p : Int} (hW : WF m f) (hp : live m p) : zM yX4_leastOf cX4_leastOf 5 (some .float) 2 0 0 [vR (some x), vI p] t (fun r t1 => r = some (vF (leastv m f p)) ∧ ∃ m1 f1, RA m1 f1 x g t1 ∧ eqs m m1 f f1 ∧ m1 32 0 = weak m f p) := by
  refine zM.of [(0, vR (some x)), (1, vI p)] (by decide +kernel) rfl (Nat.le_of_ble_eq_true rfl) ?_
  obtain ⟨hp1, hp2, hp3⟩ := id hp
  have hn1 := hW.n.1
  have hn2 := hW.n.2
  have hbp := hW.b hp1 hp2
  have hlv : ∀ m1 f1, eqs m m1 f f1 → live m1 p := fun m1 f1 he => ⟨hp1, by rw [he.1 0 (by decide) (by decide)]; exact hp2, by rw [he.1 4 (by decide) (by decide)]; exact hp3⟩
  have hlx : ∀ (m1 : Nat → Int → Int) f1 (z : Int), eqs m m1 f f1 → 0 ≤ z → z < m 2 p → 0 ≤ z ∧ z < m1 2 p := fun m1 f1 z he h0 h1 => ⟨h0, by rw [he.1 2 (by decide) (by decide)]; exact h1⟩
  have L14 : ∀ (fuel : Nat) (k : Nat) (v : UInt32) (m1 : Nat → Int → Int) (f1 : Nat → Int → UInt32) (t : zT) (hR : RA m1 f1 x g t) (he : eqs m m1 f f1) (hk : (k : Int) + 1 ≤ m 2 p) (hv : v = B m f p (wk m f p k)) (hw : m1 32 0 = wk m f p k) (hf : m 2 p - k < (fuel : Int)), zOK yX4_leastOf cX4_leastOf 5 (some .float) 2 0 0 (fun r t1 => r = some (vF (leastv m f p)) ∧ ∃ m1 f1, RA m1 f1 x g t1 ∧ eqs m m1 f f1 ∧ m1 32 0 = weak m f p) 0 0 14 [(3, vI ((k : Int) + 1)), (2, vF v), (0, vR (some x)), (1, vI p)] [] t := by
    intro fuel
    induction fuel with
    | zero => intro k v m1 f1 t hR he hk hv hw hf; exfalso; omega
    | succ fuel ih14 =>
      intro k v m1 f1 t hR he hk hv hw hf
      refine z_iload_n 15 dX4_leastOf_14 rfl rfl ?_
      refine z_aload_n 16 dX4_leastOf_15 rfl rfl ?_
      refine r_getP 19 hR fl_X4_13 (by decide) dX4_leastOf_16 rfl ?_
      refine z_iload_n 20 dX4_leastOf_19 rfl rfl ?_
      refine r_ialde 21 2 120 hR rk2 ⟨by omega, by omega⟩ (show _ = m 2 _ from he.1 2 (by decide) (by decide) _) dX4_leastOf_20 rfl ?_
      refine z_icmp_ge 53 24 dX4_leastOf_21 (by decide) rfl ⟨by omega, by omega⟩ ⟨by omega, by omega⟩ (fun h21 => ?_) (fun h21 => ?_)
      · refine z_fload_n 54 dX4_leastOf_53 rfl rfl ?_
        refine z_freturn rfl dX4_leastOf_54 (by decide) (by decide) ?_
        have hkk : (m 2 p - 1).toNat = k := by omega
        refine ⟨congrArg (fun z => some (vF z)) ?_, _, _, hR, he, ?_⟩
        · rw [hv]; unfold leastv weak; rw [hkk]
        · rw [hw]; unfold weak; rw [hkk]
      · refine z_aload_n 25 dX4_leastOf_24 rfl rfl ?_
        refine z_iload_n 26 dX4_leastOf_25 rfl rfl ?_
        refine z_iload_n 27 dX4_leastOf_26 rfl rfl ?_
        refine z_callV 30 [_, _] la_X4_bearing ml_X4_163 im_X4_bearing se_X4_bearing hR.1.1 hR.1.2.1 (by decide) rfl rfl (r_bearing hR (WF.eqs he hW) (hlv m1 f1 he) (hlx m1 f1 _ he (by omega) (by omega))) rfl rfl (by decide) (Nat.le_of_ble_eq_true rfl) (by decide) (by decide) dX4_leastOf_27 rfl (fun r t hq => ?_)
        obtain ⟨rfl, pl, be, hR⟩ := hq
        rw [B_eqs he]
        have he3 : eqs m (s30 m1 pl) f (s31 f1 be) := he.tr eqs_3
        refine z_fstore (lv' := [(4, _), (3, _), (2, _), (0, _), (1, _)]) 32 dX4_leastOf_30 rfl rfl rfl ?_
        refine z_fload 34 dX4_leastOf_32 rfl rfl ?_
        refine z_fload_n 35 dX4_leastOf_34 rfl rfl ?_
        refine z_fcmp 36 dX4_leastOf_35 rfl ?_
        refine z_if_ge 47 39 dX4_leastOf_36 (by decide) rfl zfc_i (fun h36 => ?_) (fun h36 => ?_)
        · refine z_iinc (lv' := [(3, _), (4, _), (2, _), (0, _), (1, _)]) 50 dX4_leastOf_47 rfl rfl rfl rfl ?_
          refine z_goto 14 dX4_leastOf_50 (by decide) ?_
          have hcc : zfc (FP.fcmp (B m f p ((k : Int) + 1)) (B m f p (wk m f p k))) CmpOp.g = zfc (FP.fcmp (B m f p ((k : Int) + 1)) v) CmpOp.g := by rw [hv]
          refine z_sub (lv' := [(3, _), (2, _), (0, _), (1, _)]) ⟨rfl, rfl, rfl, rfl, trivial⟩ ?_
          exact ih14 (k + 1) _ _ _ _ hR (by first | exact he3 | exact he3.tr (eqs.up (by decide) _ _)) (by omega) (by first | (rw [show wk m f p (k + 1) = wk m f p k from if_neg (by omega)]; exact hv) | rw [show wk m f p (k + 1) = (k : Int) + 1 from if_pos (by omega)]) (by first | (rw [show wk m f p (k + 1) = wk m f p k from if_neg (by omega)]; exact hw) | (rw [show wk m f p (k + 1) = (k : Int) + 1 from if_pos (by omega)]; exact up2_s _ _ _ _)) (by omega)
        · refine z_fload 41 dX4_leastOf_39 rfl rfl ?_
          refine z_fstore_n (lv' := [(2, _), (4, _), (3, _), (0, _), (1, _)]) 42 dX4_leastOf_41 rfl rfl rfl ?_
          refine z_aload_n 43 dX4_leastOf_42 rfl rfl ?_
          refine z_iload_n 44 dX4_leastOf_43 rfl rfl ?_
          refine r_putI 47 hR fl_X4_167 (by decide) dX4_leastOf_44 rfl (fun t hR => ?_)
          refine z_iinc (lv' := [(3, _), (2, _), (4, _), (0, _), (1, _)]) 50 dX4_leastOf_47 rfl rfl rfl rfl ?_
          refine z_goto 14 dX4_leastOf_50 (by decide) ?_
          have hcc : zfc (FP.fcmp (B m f p ((k : Int) + 1)) (B m f p (wk m f p k))) CmpOp.g = zfc (FP.fcmp (B m f p ((k : Int) + 1)) v) CmpOp.g := by rw [hv]
          refine z_sub (lv' := [(3, _), (2, _), (0, _), (1, _)]) ⟨rfl, rfl, rfl, rfl, trivial⟩ ?_
          exact ih14 (k + 1) _ _ _ _ hR (by first | exact he3 | exact he3.tr (eqs.up (by decide) _ _)) (by omega) (by first | (rw [show wk m f p (k + 1) = wk m f p k from if_neg (by omega)]; exact hv) | rw [show wk m f p (k + 1) = (k : Int) + 1 from if_pos (by omega)]) (by first | (rw [show wk m f p (k + 1) = wk m f p k from if_neg (by omega)]; exact hw) | (rw [show wk m f p (k + 1) = (k : Int) + 1 from if_pos (by omega)]; exact up2_s _ _ _ _)) (by omega)
  refine z_aload_n 1 dX4_leastOf_0 rfl rfl ?_
  refine z_iload_n 2 dX4_leastOf_1 rfl rfl ?_
  refine z_iconst 3 dX4_leastOf_2 rfl ?_
  refine z_callV 6 [_, _] la_X4_bearing ml_X4_163 im_X4_bearing se_X4_bearing hR.1.1 hR.1.2.1 (by decide) rfl rfl (r_bearing hR hW hp ⟨by omega, by omega⟩) rfl rfl (by decide) (Nat.le_of_ble_eq_true rfl) (by decide) (by decide) dX4_leastOf_3 rfl (fun r t hq => ?_)
  obtain ⟨rfl, pl, be, hR⟩ := hq
  have he3 : eqs m (s30 m pl) f (s31 f be) := eqs_3
  refine z_fstore_n (lv' := [(2, _), (0, _), (1, _)]) 7 dX4_leastOf_6 rfl rfl rfl ?_
  refine z_aload_n 8 dX4_leastOf_7 rfl rfl ?_
  refine z_iconst 9 dX4_leastOf_8 rfl ?_
  refine r_putI 12 hR fl_X4_167 (by decide) dX4_leastOf_9 rfl (fun t hR => ?_)
  refine z_iconst 13 dX4_leastOf_12 rfl ?_
  refine z_istore_n (lv' := [(3, _), (2, _), (0, _), (1, _)]) 14 dX4_leastOf_13 rfl rfl rfl ?_
  refine z_sub (lv' := [(3, _), (2, _), (0, _), (1, _)]) ⟨rfl, rfl, rfl, rfl, trivial⟩ ?_
  exact L14 2001 0 _ _ _ _ hR (by exact he3.tr (eqs.up (by decide) _ _)) (by omega) (rfl) (rfl) (by omega)
