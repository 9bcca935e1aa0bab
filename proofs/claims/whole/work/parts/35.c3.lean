theorem unt_s (m : Nat → Int → Int) (p : Int) (k : Nat) : up2 (up2 (unt m p k) 4 (m 7 (9 * p + k)) 0) 8 (m 7 (9 * p + k)) (-1) = unt m p (k + 1) := rfl
theorem cp_unt {m : Nat → Int → Int} {f : Nat → Int → UInt32} {a : Nat → Int → Nat} {t : zT} {p : Int} (hR : CA (unt m p (m 6 p).toNat) f a t) (hX : XI m f) (hno : ¬ (¬ free m p ∨ m 6 p = 0)) : CP (a 0 0) (s_unt m p, f) t := by
  have e : s_unt m p = unt m p (m 6 p).toNat := if_neg hno
  rw [e]
  exact CP.of hR (hX.cong (fun k _ hk => funext fun j => unt_r (fun q => by rw [q] at hk; cases hk) (fun q => by rw [q] at hk; cases hk)) (fun _ _ _ => rfl)) eqs.rf
set_option maxRecDepth 20000 in
theorem c_untwist {m : Nat → Int → Int} {f : Nat → Int → UInt32} {a : Nat → Int → Nat} {t : zT} (hR : CA m f a t) {p : Int} (hp : zi p) (hW : WF m f) (hX : XI m f) : zM yX3_untwist cX3_untwist 5 (some .int) 2 0 0 [vR (rf a 0 0), vI p] t (fun r t1 => r = some (vI (a_unt m p)) ∧ CP (a 0 0) (s_unt m p, f) t1) := by
  refine zM.of2 [(0, vR (rf a 0 0)), (1, vI p)] (by decide +kernel) rfl (Nat.le_of_ble_eq_true rfl) ?_
  obtain ⟨hp1, hp2⟩ := hp
  have hn1 := hW.n.1
  have hn2 := hW.n.2
  have h60 := hX.1.1
  have h62 := hX.1.2.1
  have h64 := hX.1.2.2
  have L28 : ∀ (fuel : Nat) (k : Nat) (t : zT) (hR : CA (unt m p k) f a t) (hk : (k : Int) ≤ m 6 p) (hq : free m p ∧ m 6 p ≠ 0) (hf : m 6 p - k < (fuel : Int)), zOK yX3_untwist cX3_untwist 5 (some .int) 2 0 0 (fun r t1 => r = some (vI (a_unt m p)) ∧ CP (a 0 0) (s_unt m p, f) t1) 0 0 28 [(3, vI (k : Int)), (0, vR (rf a 0 0)), (1, vI p), (2, vR (rf a 6 p))] [] t := by
    intro fuel
    induction fuel with
    | zero => intro k t hR hk hq hf; exfalso; omega
    | succ fuel ih28 =>
      intro k t hR hk hq hf
      obtain ⟨⟨hf1, hf2, hf3⟩, hf4⟩ := id hq
      have hBq := hW.b hf1 hf2
      have hpt := fun (h : (k : Int) < m 6 p) => (hW.parts p hf1 hf2).1.2 k (by omega) h
      refine z_iload_n 29 dX3_untwist_28 rfl rfl ?_
      refine z_aload_n 30 dX3_untwist_29 rfl rfl ?_
      refine c_getL 33 7 hR fl_X3_125 (by decide) (cLive_c (fun k hk => unt_r (by omega) (by omega)) (show cLive m 6 p from lp ⟨by omega, by omega⟩)) dX3_untwist_30 rfl ?_
      refine c_alen 34 hR (by decide) (cLive_c (fun k hk => unt_r (by omega) (by omega)) (show cLive m 7 p from lp ⟨by omega, by omega⟩)) ((congrArg (fun z : Int => ((z.toNat : Nat) : Int)) (unt_r (m := m) (p := p) (n := k) (k := 6) (j := p) (by decide) (by decide))).trans (show _ = m 6 p from Int.toNat_of_nonneg (by omega))) dX3_untwist_33 rfl ?_
      refine z_icmp_ge 68 37 dX3_untwist_34 (by decide) rfl ⟨by omega, by omega⟩ ⟨by omega, by omega⟩ (fun h34 => ?_) (fun h34 => ?_)
      · refine z_aload_n 69 dX3_untwist_68 rfl rfl ?_
        refine c_getL 72 7 hR fl_X3_125 (by decide) (cLive_c (fun k hk => unt_r (by omega) (by omega)) (show cLive m 6 p from lp ⟨by omega, by omega⟩)) dX3_untwist_69 rfl ?_
        refine c_alen 73 hR (by decide) (cLive_c (fun k hk => unt_r (by omega) (by omega)) (show cLive m 7 p from lp ⟨by omega, by omega⟩)) ((congrArg (fun z : Int => ((z.toNat : Nat) : Int)) (unt_r (m := m) (p := p) (n := k) (k := 6) (j := p) (by decide) (by decide))).trans (show _ = m 6 p from Int.toNat_of_nonneg (by omega))) dX3_untwist_72 rfl ?_
        refine z_ireturn rfl dX3_untwist_73 (by decide) (by decide) ?_
        have hkk : (m 6 p).toNat = k := by omega
        have hno : ¬ (¬ free m p ∨ m 6 p = 0) := fun h => by rcases h with h | h; exact h hq.1; exact hq.2 h
        refine ⟨congrArg (fun z => some (vI z)) ?_, cp_unt (by rw [hkk]; exact hR) hX hno⟩
        unfold a_unt cif; rw [if_neg hno]
      · refine z_aload_n 38 dX3_untwist_37 rfl rfl ?_
        refine c_getL 41 7 hR fl_X3_125 (by decide) (cLive_c (fun k hk => unt_r (by omega) (by omega)) (show cLive m 6 p from lp ⟨by omega, by omega⟩)) dX3_untwist_38 rfl ?_
        refine z_iload_n 42 dX3_untwist_41 rfl rfl ?_
        refine c_aald 43 7 hR (c := 9) (m 6 p).toNat (by decide) (show _ = 9 * p + ((k : Int)) from rfl) (cLive_c (fun k hk => unt_r (by omega) (by omega)) (show cLive m 7 p from lp ⟨by omega, by omega⟩)) (congrArg Int.toNat (unt_r (m := m) (p := p) (n := k) (k := 6) (j := p) (by decide) (by decide))) (by omega) ⟨by omega, by omega⟩ (show _ = m 7 (9 * p + ((k : Int))) from unt_r (by decide) (by decide)) dX3_untwist_42 rfl (fun hl42 => ?_)
        refine z_astore (lv' := [(4, _), (3, _), (0, _), (1, _), (2, _)]) 45 dX3_untwist_43 rfl rfl rfl ?_
        refine z_aload 47 dX3_untwist_45 rfl rfl ?_
        refine c_ifnull 62 50 dX3_untwist_47 (by decide) rfl  (fun h47 => ?_) (fun h47 => ?_)
        · exfalso; omega
        refine z_aload 52 dX3_untwist_50 rfl rfl ?_
        refine z_iconst 53 dX3_untwist_52 rfl ?_
        have hpk := hpt (by omega)
        refine c_putI 56 4 hR fl_X3_67 (by decide) (cLive_c (fun k hk => unt_r (by omega) (by omega)) (show cLive m 6 (m 7 (9 * p + ((k : Int)))) from lp ⟨by omega, by omega⟩)) dX3_untwist_53 rfl (fun t hR => ?_)
        refine z_aload 58 dX3_untwist_56 rfl rfl ?_
        refine z_iconst 59 dX3_untwist_58 rfl ?_
        refine c_putI 62 8 hR fl_X3_128 (by decide) (cLive_c (fun k hk => unt_r (by omega) (by omega)) (show cLive m 6 (m 7 (9 * p + ((k : Int)))) from lp ⟨by omega, by omega⟩)) dX3_untwist_59 rfl (fun t hR => ?_)
        refine z_iinc (lv' := [(3, _), (4, _), (0, _), (1, _), (2, _)]) 65 dX3_untwist_62 rfl rfl rfl rfl ?_
        refine z_goto 28 dX3_untwist_65 (by decide) ?_
        refine z_sub (lv' := [(3, _), (0, _), (1, _), (2, _)]) ⟨rfl, rfl, rfl, rfl, trivial⟩ ?_
        exact ih28 (k + 1) _ hR (by omega) (hq) (by omega)
  refine z_aload_n 1 dX3_untwist_0 rfl rfl ?_
  refine z_iload_n 2 dX3_untwist_1 rfl rfl ?_
  refine z_callV 5 [_] la_X3_freePiece ml_X3_70 im_X3_freePiece se_X3_freePiece (hR.lv 0 0 (by decide) l0).1 (hR.lv 0 0 (by decide) l0).2.1 (by decide) rfl rfl (c_freePiece hR ⟨by omega, by omega⟩ hW hX) rfl rfl (by decide) (Nat.le_of_ble_eq_true rfl) (by decide) (by decide) dX3_untwist_2 rfl (fun r t hq => ?_)
  obtain ⟨v, rfl, hv, hR⟩ := hq
  refine z_astore_n (lv' := [(2, _), (0, _), (1, _)]) 6 dX3_untwist_5 rfl rfl rfl ?_
  refine z_aload_n 7 dX3_untwist_6 rfl rfl ?_
  refine c_ifnull 18 10 dX3_untwist_7 (by decide) rfl  (fun h7 => ?_) (fun h7 => ?_)
  · refine z_bipush 20 dX3_untwist_18 rfl ⟨by decide, by decide⟩ ?_
    refine z_ireturn rfl dX3_untwist_20 (by decide) (by decide) ?_
    refine ⟨congrArg (fun z => some (vI z)) ?_, ?_⟩
    · unfold a_unt cif free; rw [if_pos (by omega)]
    · have e : s_unt m p = m := if_pos (by unfold free; omega)
      rw [e]; exact CP.rf hR hX
  · obtain rfl : p = v := by omega
    have hBp := hW.b (p := p) (by omega) (by omega)
    have hpt := fun (k : Int) (h0 : 0 ≤ k) (h : k < m 6 p) => (hW.parts p (by omega) (by omega)).1.2 k h0 h
    refine z_aload_n 11 dX3_untwist_10 rfl rfl ?_
    refine c_getL 14 7 hR fl_X3_125 (by decide) (show cLive m 6 p from lp ⟨by omega, by omega⟩) dX3_untwist_11 rfl ?_
    refine c_alen 15 hR (by decide) (show cLive m 7 p from lp ⟨by omega, by omega⟩) (show _ = m 6 p from Int.toNat_of_nonneg (by omega)) dX3_untwist_14 rfl ?_
    refine z_if_ne 21 18 dX3_untwist_15 (by decide) rfl ⟨by omega, by omega⟩ (fun h15 => ?_) (fun h15 => ?_)
    · refine z_aload_n 22 dX3_untwist_21 rfl rfl ?_
      refine z_iconst 23 dX3_untwist_22 rfl ?_
      refine c_putI 26 4 hR fl_X3_67 (by decide) (show cLive m 6 p from lp ⟨by omega, by omega⟩) dX3_untwist_23 rfl (fun t hR => ?_)
      refine z_iconst 27 dX3_untwist_26 rfl ?_
      refine z_istore_n (lv' := [(3, _), (2, _), (0, _), (1, _)]) 28 dX3_untwist_27 rfl rfl rfl ?_
      refine z_sub (lv' := [(3, _), (0, _), (1, _), (2, _)]) ⟨rfl, rfl, rfl, rfl, trivial⟩ ?_
      exact L28 10 0 _ hR (by omega) (⟨⟨by omega, by omega, by omega⟩, by omega⟩) (by omega)
    · refine z_bipush 20 dX3_untwist_18 rfl ⟨by decide, by decide⟩ ?_
      refine z_ireturn rfl dX3_untwist_20 (by decide) (by decide) ?_
      refine ⟨congrArg (fun z => some (vI z)) ?_, ?_⟩
      · unfold a_unt cif free; rw [if_pos (by omega)]
      · have e : s_unt m p = m := if_pos (by unfold free; omega)
        rw [e]; exact CP.rf hR hX
set_option maxRecDepth 20000 in
theorem c_stage {m : Nat → Int → Int} {f : Nat → Int → UInt32} {a : Nat → Int → Nat} {t : zT} (hR : CA m f a t) {w : Int} (hw : zi w) (hW : WF m f) (hX : XI m f) : zM yX3_stage cX3_stage 2 (some .int) 0 0 0 [vR (rf a 0 0), vI w] t (fun r t1 => r = some (vI (a_stage m w)) ∧ CP (a 0 0) (s_stage m w, f) t1) := by
  refine zM.of2 [(0, vR (rf a 0 0)), (1, vI w)] (by decide +kernel) rfl (Nat.le_of_ble_eq_true rfl) ?_
  obtain ⟨hw1, hw2⟩ := hw
  have hn1 := hW.n.1
  have hn2 := hW.n.2
  have h60 := hX.1.1
  have h62 := hX.1.2.1
  have h64 := hX.1.2.2
  obtain ⟨hm1, hm2, hm3⟩ := hW.2.2.2.2.2
  refine z_iload_n 1 dX3_stage_0 rfl rfl ?_
  refine z_if_lt 19 4 dX3_stage_1 (by decide) rfl ⟨by omega, by omega⟩ (fun h1 => ?_) (fun h1 => ?_)
  · refine z_bipush 21 dX3_stage_19 rfl ⟨by decide, by decide⟩ ?_
    refine z_ireturn rfl dX3_stage_21 (by decide) (by decide) ?_
    refine ⟨congrArg (fun z => some (vI z)) ?_, ?_⟩
    · unfold a_stage cif stage_no; rw [if_pos (by omega)]
    · have e : s_stage m w = m := if_pos (by unfold stage_no; omega)
      rw [e]; exact CP.rf hR hX
  · refine z_iload_n 5 dX3_stage_4 rfl rfl ?_
    refine z_bipush 7 dX3_stage_5 rfl ⟨by decide, by decide⟩ ?_
    refine z_icmp_gt 19 10 dX3_stage_7 (by decide) rfl ⟨by omega, by omega⟩ ⟨by omega, by omega⟩ (fun h7 => ?_) (fun h7 => ?_)
    · refine z_bipush 21 dX3_stage_19 rfl ⟨by decide, by decide⟩ ?_
      refine z_ireturn rfl dX3_stage_21 (by decide) (by decide) ?_
      refine ⟨congrArg (fun z => some (vI z)) ?_, ?_⟩
      · unfold a_stage cif stage_no; rw [if_pos (by omega)]
      · have e : s_stage m w = m := if_pos (by unfold stage_no; omega)
        rw [e]; exact CP.rf hR hX
    · refine z_aload_n 11 dX3_stage_10 rfl rfl ?_
      refine c_getI 14 23 hR fl_X3_149 (by decide) (show cLive m 0 0 from l0) (show _ = m 23 0 from rfl) dX3_stage_11 rfl ?_
      refine z_bipush 16 dX3_stage_14 rfl ⟨by decide, by decide⟩ ?_
      refine z_icmp_lt 22 19 dX3_stage_16 (by decide) rfl ⟨by omega, by omega⟩ ⟨by omega, by omega⟩ (fun h16 => ?_) (fun h16 => ?_)
      · refine z_aload_n 23 dX3_stage_22 rfl rfl ?_
        refine c_getL 26 5 hR fl_X3_30 (by decide) (show cLive m 0 0 from l0) dX3_stage_23 rfl ?_
        refine z_aload_n 27 dX3_stage_26 rfl rfl ?_
        refine c_getI 30 23 hR fl_X3_149 (by decide) (show cLive m 0 0 from l0) (show _ = m 23 0 from rfl) dX3_stage_27 rfl ?_
        refine z_iload_n 31 dX3_stage_30 rfl rfl ?_
        refine c_iast 32 24 hR (c := 1) 10 (by decide) (show _ = m 23 0 from rfl) (show cLive m 5 0 from l5) rfl rfl ⟨by omega, by omega⟩ dX3_stage_31 rfl (fun t hR => ?_)
        refine z_aload_n 33 dX3_stage_32 rfl rfl ?_
        refine z_dup 34 dX3_stage_33 rfl rfl ?_
        refine c_getI 37 23 hR fl_X3_149 (by decide) (show cLive m 0 0 from l0) (show _ = m 23 0 from rfl) dX3_stage_34 rfl ?_
        refine z_iconst 38 dX3_stage_37 rfl ?_
        refine z_iadd 39 dX3_stage_38 rfl ?_
        refine c_putI 42 23 hR fl_X3_149 (by decide) (show cLive m 0 0 from l0) dX3_stage_39 rfl (fun t hR => ?_)
        refine z_aload_n 43 dX3_stage_42 rfl rfl ?_
        refine c_getI 46 23 hR fl_X3_149 (by decide) (show cLive m 0 0 from l0) (show _ = (m 23 0 + 1) from up2_s _ _ _ _) dX3_stage_43 rfl ?_
        refine z_ireturn rfl dX3_stage_46 (by decide) (by decide) ?_
        refine ⟨congrArg (fun z => some (vI z)) ?_, ?_⟩
        · unfold a_stage cif stage_no; rw [if_neg (by omega)]
        · have e : s_stage m w = up2 (up2 m 24 (m 23 0) w) 23 0 (m 23 0 + 1) := if_neg (by unfold stage_no; omega)
          rw [e]; exact CP.of hR ((hX.up (by decide) _ _).up (by decide) _ _) eqs.rf
      · refine z_bipush 21 dX3_stage_19 rfl ⟨by decide, by decide⟩ ?_
        refine z_ireturn rfl dX3_stage_21 (by decide) (by decide) ?_
        refine ⟨congrArg (fun z => some (vI z)) ?_, ?_⟩
        · unfold a_stage cif stage_no; rw [if_pos (by omega)]
        · have e : s_stage m w = m := if_pos (by unfold stage_no; omega)
          rw [e]; exact CP.rf hR hX
set_option maxRecDepth 20000 in
theorem c_unstage {m : Nat → Int → Int} {f : Nat → Int → UInt32} {a : Nat → Int → Nat} {t : zT} (hR : CA m f a t) (hW : WF m f) (hX : XI m f) : zM yX3_unstage cX3_unstage 1 (some .int) 0 0 0 [vR (rf a 0 0)] t (fun r t1 => r = some (vI (a_unstage m)) ∧ CP (a 0 0) (s_unstage m, f) t1) := by
  refine zM.of2 [(0, vR (rf a 0 0))] (by decide +kernel) rfl (Nat.le_of_ble_eq_true rfl) ?_
  have hn1 := hW.n.1
  have hn2 := hW.n.2
  have h60 := hX.1.1
  have h62 := hX.1.2.1
  have h64 := hX.1.2.2
  obtain ⟨hm1, hm2, hm3⟩ := hW.2.2.2.2.2
  refine z_aload_n 1 dX3_unstage_0 rfl rfl ?_
  refine c_getI 4 23 hR fl_X3_149 (by decide) (show cLive m 0 0 from l0) (show _ = m 23 0 from rfl) dX3_unstage_1 rfl ?_
  refine z_iconst 5 dX3_unstage_4 rfl ?_
  refine z_icmp_lt 17 8 dX3_unstage_5 (by decide) rfl ⟨by omega, by omega⟩ ⟨by omega, by omega⟩ (fun h5 => ?_) (fun h5 => ?_)
  · refine z_bipush 19 dX3_unstage_17 rfl ⟨by decide, by decide⟩ ?_
    refine z_ireturn rfl dX3_unstage_19 (by decide) (by decide) ?_
    refine ⟨congrArg (fun z => some (vI z)) ?_, ?_⟩
    · unfold a_unstage cif; rw [if_pos (by omega)]
    · have e : s_unstage m = m := if_pos (by omega)
      rw [e]; exact CP.rf hR hX
  · refine z_aload_n 9 dX3_unstage_8 rfl rfl ?_
    refine c_getI 12 23 hR fl_X3_149 (by decide) (show cLive m 0 0 from l0) (show _ = m 23 0 from rfl) dX3_unstage_9 rfl ?_
    refine z_bipush 14 dX3_unstage_12 rfl ⟨by decide, by decide⟩ ?_
    refine z_icmp_le 20 17 dX3_unstage_14 (by decide) rfl ⟨by omega, by omega⟩ ⟨by omega, by omega⟩ (fun h14 => ?_) (fun h14 => ?_)
    · refine z_aload_n 21 dX3_unstage_20 rfl rfl ?_
      refine z_dup 22 dX3_unstage_21 rfl rfl ?_
      refine c_getI 25 23 hR fl_X3_149 (by decide) (show cLive m 0 0 from l0) (show _ = m 23 0 from rfl) dX3_unstage_22 rfl ?_
      refine z_iconst 26 dX3_unstage_25 rfl ?_
      refine z_isub 27 dX3_unstage_26 rfl ?_
      refine c_putI 30 23 hR fl_X3_149 (by decide) (show cLive m 0 0 from l0) dX3_unstage_27 rfl (fun t hR => ?_)
      refine z_aload_n 31 dX3_unstage_30 rfl rfl ?_
      refine c_getL 34 5 hR fl_X3_30 (by decide) (show cLive m 0 0 from l0) dX3_unstage_31 rfl ?_
      refine z_aload_n 35 dX3_unstage_34 rfl rfl ?_
      refine c_getI 38 23 hR fl_X3_149 (by decide) (show cLive m 0 0 from l0) (show _ = (m 23 0 - 1) from up2_s _ _ _ _) dX3_unstage_35 rfl ?_
      refine c_iald 39 24 hR (c := 1) 10 (by decide) (show _ = (m 23 0 - 1) from rfl) (show cLive m 5 0 from l5) rfl rfl ⟨by omega, by omega⟩ (show _ = m 24 ((m 23 0 - 1)) from rfl) dX3_unstage_38 rfl ?_
      refine z_ireturn rfl dX3_unstage_39 (by decide) (by decide) ?_
      refine ⟨congrArg (fun z => some (vI z)) ?_, ?_⟩
      · unfold a_unstage cif; rw [if_neg (by omega)]
      · have e : s_unstage m = up2 m 23 0 (m 23 0 - 1) := if_neg (by omega)
        rw [e]; exact CP.of hR (hX.up (by decide) _ _) eqs.rf
    · refine z_bipush 19 dX3_unstage_17 rfl ⟨by decide, by decide⟩ ?_
      refine z_ireturn rfl dX3_unstage_19 (by decide) (by decide) ?_
      refine ⟨congrArg (fun z => some (vI z)) ?_, ?_⟩
      · unfold a_unstage cif; rw [if_pos (by omega)]
      · have e : s_unstage m = m := if_pos (by omega)
        rw [e]; exact CP.rf hR hX
set_option maxRecDepth 20000 in
theorem c_ropesOfFirst {m : Nat → Int → Int} {f : Nat → Int → UInt32} {a : Nat → Int → Nat} {t : zT} (hR : CA m f a t) {n : Int} (hn : 0 ≤ n ∧ n ≤ 10) (hr : ∀ k, 0 ≤ k → k < n → 0 ≤ m 24 k ∧ m 24 k ≤ 8) : zM yX3_ropesOfFirst cX3_ropesOfFirst 5 (some .long) 0 0 0 [vR (rf a 0 0), vI n] t (fun r t1 => r = some (vL (prodf m n.toNat)) ∧ CA m f a t1) := by
  refine zM.of2 [(0, vR (rf a 0 0)), (1, vI n)] (by decide +kernel) rfl (Nat.le_of_ble_eq_true rfl) ?_
  have L5 : ∀ (fuel : Nat) (k v : Int) (t : zT) (hR : CA m f a t) (hk : 0 ≤ k ∧ k ≤ n) (hv : v = prodf m k.toNat) (hf : n - k < (fuel : Int)), zOK yX3_ropesOfFirst cX3_ropesOfFirst 5 (some .long) 0 0 0 (fun r t1 => r = some (vL (prodf m n.toNat)) ∧ CA m f a t1) 0 0 5 [(4, vI k), (2, vL v), (0, vR (rf a 0 0)), (1, vI n)] [] t := by
    intro fuel
    induction fuel with
    | zero => intro k v t hR hk hv hf; exfalso; omega
    | succ fuel ih5 =>
      intro k v t hR hk hv hf
      have hk9 := fun (h : k < n) => hr k hk.1 h
      refine z_iload 7 dX3_ropesOfFirst_5 rfl rfl ?_
      refine z_iload_n 8 dX3_ropesOfFirst_7 rfl rfl ?_
      refine z_icmp_ge 35 11 dX3_ropesOfFirst_8 (by decide) rfl ⟨by omega, by omega⟩ ⟨by omega, by omega⟩ (fun h8 => ?_) (fun h8 => ?_)
      · refine z_lload_n 36 dX3_ropesOfFirst_35 rfl rfl ?_
        refine z_lreturn rfl dX3_ropesOfFirst_36 (by decide) (by decide) ?_
        have hkn : k = n := by omega
        subst hkn
        exact ⟨by rw [hv], hR⟩
      · refine z_iload 13 dX3_ropesOfFirst_11 rfl rfl ?_
        refine z_bipush 15 dX3_ropesOfFirst_13 rfl ⟨by decide, by decide⟩ ?_
        refine z_icmp_ge 35 18 dX3_ropesOfFirst_15 (by decide) rfl ⟨by omega, by omega⟩ ⟨by omega, by omega⟩ (fun h15 => ?_) (fun h15 => ?_)
        · refine z_lload_n 36 dX3_ropesOfFirst_35 rfl rfl ?_
          refine z_lreturn rfl dX3_ropesOfFirst_36 (by decide) (by decide) ?_
          have hkn : k = n := by omega
          subst hkn
          exact ⟨by rw [hv], hR⟩
        · refine z_lload_n 19 dX3_ropesOfFirst_18 rfl rfl ?_
          refine z_aload_n 20 dX3_ropesOfFirst_19 rfl rfl ?_
          refine c_getL 23 5 hR fl_X3_30 (by decide) (show cLive m 0 0 from l0) dX3_ropesOfFirst_20 rfl ?_
          refine z_iload 25 dX3_ropesOfFirst_23 rfl rfl ?_
          refine c_iald 26 24 hR (c := 1) 10 (by decide) (show _ = k from rfl) (show cLive m 5 0 from l5) rfl rfl ⟨by omega, by omega⟩ (show _ = m 24 k from rfl) dX3_ropesOfFirst_25 rfl ?_
          refine z_i2l 27 dX3_ropesOfFirst_26 rfl ⟨by omega, by omega⟩ ?_
          refine z_lmul 28 dX3_ropesOfFirst_27 rfl ?_
          refine z_lstore_n (lv' := [(2, _), (4, _), (0, _), (1, _)]) 29 dX3_ropesOfFirst_28 rfl rfl rfl ?_
          refine z_iinc (lv' := [(4, _), (2, _), (0, _), (1, _)]) 32 dX3_ropesOfFirst_29 rfl rfl rfl rfl ?_
          refine z_goto 5 dX3_ropesOfFirst_32 (by decide) ?_
          refine z_sub (lv' := [(4, _), (2, _), (0, _), (1, _)]) ⟨rfl, rfl, rfl, rfl, trivial⟩ ?_
          exact ih5 _ _ _ hR (by omega) (by rw [show (k + 1).toNat = k.toNat + 1 by omega, hv]; show _ = prodf m k.toNat * m 24 (k.toNat : Int); rw [show ((k.toNat : Nat) : Int) = k by omega]) (by omega)
  refine z_lconst (z := 1) 1 dX3_ropesOfFirst_0 rfl rfl ?_
  refine z_lstore_n (lv' := [(2, _), (0, _), (1, _)]) 2 dX3_ropesOfFirst_1 rfl rfl rfl ?_
  refine z_iconst 3 dX3_ropesOfFirst_2 rfl ?_
  refine z_istore (lv' := [(4, _), (2, _), (0, _), (1, _)]) 5 dX3_ropesOfFirst_3 rfl rfl rfl ?_
  refine z_sub (lv' := [(4, _), (2, _), (0, _), (1, _)]) ⟨rfl, rfl, rfl, rfl, trivial⟩ ?_
  exact L5 11 _ _ _ hR (by omega) (rfl) (by omega)
theorem euc {X Y j : Nat} (hY : 0 < Y) (hXY : Y < X) (h : X * Y * 2 ^ j ≤ 2 ^ 50) : X % Y < Y ∧ Y * (X % Y) * 2 ^ (j + 1) ≤ 2 ^ 50 := by
  have h1 := Nat.mod_lt X hY
  refine ⟨h1, ?_⟩
  have h2 : X % Y * 2 ≤ X := by
    have h3 := Nat.div_add_mod X Y
    have h4 : 1 ≤ X / Y := Nat.div_pos (Nat.le_of_lt hXY) hY
    have h5 : Y * 1 ≤ Y * (X / Y) := Nat.mul_le_mul_left Y h4
    omega
  calc Y * (X % Y) * 2 ^ (j + 1) = (X % Y * 2) * Y * 2 ^ j := by rw [Nat.pow_succ]; ac_rfl
    _ ≤ X * Y * 2 ^ j := Nat.mul_le_mul_right _ (Nat.mul_le_mul_right _ h2)
    _ ≤ 2 ^ 50 := h
theorem euc_end {X Y : Nat} (hXY : Y < X) (h : X * Y * 2 ^ 99 ≤ 2 ^ 50) : Y = 0 := by
  by_cases hY : Y = 0
  · exact hY
  · exfalso
    have h1 : 1 ≤ X * Y := Nat.mul_pos (by omega) (by omega)
    have h2 : 1 * 2 ^ 99 ≤ X * Y * 2 ^ 99 := Nat.mul_le_mul_right _ h1
    have h3 : ¬ (1 * 2 ^ 99 ≤ 2 ^ 50) := by decide
    omega
set_option maxRecDepth 20000 in
theorem c_greatestDivisor {t : zT} {A B : Nat} (hA : A ≤ 1000000) (hB : 0 < B ∧ B ≤ 1073741824) : zM yX3_greatestDivisor cX3_greatestDivisor 11 (some .long) 0 0 0 [vL (A : Int), vL (B : Int)] t (fun r t1 => r = some (vL ((Nat.gcd A B : Nat) : Int)) ∧ t1 = t) := by
  refine zM.of2 [(0, vL (A : Int)), (2, vL (B : Int))] (by decide +kernel) rfl (Nat.le_of_ble_eq_true rfl) ?_
  have L9 : ∀ (fuel : Nat) (k X Y : Nat) (t : zT)  (hk : k ≤ 100) (hX : X ≤ 1073741824 ∧ Y ≤ 1073741824) (hg : Nat.gcd X Y = Nat.gcd A B) (hst : (k = 0 ∧ X = A ∧ Y = B) ∨ (1 ≤ k ∧ Y < X ∧ X * Y * 2 ^ (k - 1) ≤ 2 ^ 50)) (hf : 100 - (k : Int) < (fuel : Int)), zOK yX3_greatestDivisor cX3_greatestDivisor 11 (some .long) 0 0 0 (fun r t1 => r = some (vL ((Nat.gcd A B : Nat) : Int)) ∧ t1 = t) 0 0 9 [(8, vI (k : Int)), (6, vL (Y : Int)), (4, vL (X : Int)), (0, vL (A : Int)), (2, vL (B : Int))] [] t := by
    intro fuel
    induction fuel with
    | zero => intro k X Y t  hk hX hg hst hf; exfalso; omega
    | succ fuel ih9 =>
      intro k X Y t  hk hX hg hst hf
      obtain ⟨hX1, hX2⟩ := hX
      refine z_iload 11 dX3_greatestDivisor_9 rfl rfl ?_
      refine z_bipush 13 dX3_greatestDivisor_11 rfl ⟨by decide, by decide⟩ ?_
      refine z_icmp_ge 44 16 dX3_greatestDivisor_13 (by decide) rfl ⟨by omega, by omega⟩ ⟨by omega, by omega⟩ (fun h13 => ?_) (fun h13 => ?_)
      · have hY0 : Y = 0 := by
          rcases hst with ⟨e1, e2, e3⟩ | ⟨e1, e2, e3⟩
          · omega
          · rw [show k - 1 = 99 by omega] at e3; exact euc_end e2 e3
        refine z_lload 46 dX3_greatestDivisor_44 rfl rfl ?_
        refine z_lreturn rfl dX3_greatestDivisor_46 (by decide) (by decide) ?_
        subst hY0
        rw [Nat.gcd_zero_right] at hg
        exact ⟨congrArg (fun z => some (vL z)) (by rw [hg]), rfl⟩
      · refine z_lload 18 dX3_greatestDivisor_16 rfl rfl ?_
        refine z_lconst (z := 0) 19 dX3_greatestDivisor_18 rfl rfl ?_
        refine z_lcmp 20 dX3_greatestDivisor_19 rfl ⟨by omega, by omega⟩ ⟨by omega, by omega⟩ ?_
        refine z_if_eq 44 23 dX3_greatestDivisor_20 (by decide) rfl zlc_i (fun h20 => ?_) (fun h20 => ?_)
        · have hY0 : Y = 0 := by have := zlc_0.mp h20; omega
          refine z_lload 46 dX3_greatestDivisor_44 rfl rfl ?_
          refine z_lreturn rfl dX3_greatestDivisor_46 (by decide) (by decide) ?_
          subst hY0
          rw [Nat.gcd_zero_right] at hg
          exact ⟨congrArg (fun z => some (vL z)) (by rw [hg]), rfl⟩
        · refine z_lload 25 dX3_greatestDivisor_23 rfl rfl ?_
          refine z_lload 27 dX3_greatestDivisor_25 rfl rfl ?_
          refine z_lrem 28 dX3_greatestDivisor_27 rfl ⟨by omega, by omega⟩ ⟨by omega, by omega⟩ (fun q => h20 (zlc_0.mpr q)) ?_
          rw [show (X : Int).tmod (Y : Int) = ((X % Y : Nat) : Int) from (Int.ofNat_tmod X Y).symm]
          refine z_lstore (lv' := [(9, _), (8, _), (6, _), (4, _), (0, _), (2, _)]) 30 dX3_greatestDivisor_28 rfl rfl rfl ?_
          refine z_lload 32 dX3_greatestDivisor_30 rfl rfl ?_
          refine z_lstore (lv' := [(4, _), (9, _), (8, _), (6, _), (0, _), (2, _)]) 34 dX3_greatestDivisor_32 rfl rfl rfl ?_
          refine z_lload 36 dX3_greatestDivisor_34 rfl rfl ?_
          refine z_lstore (lv' := [(6, _), (4, _), (9, _), (8, _), (0, _), (2, _)]) 38 dX3_greatestDivisor_36 rfl rfl rfl ?_
          refine z_iinc (lv' := [(8, _), (6, _), (4, _), (9, _), (0, _), (2, _)]) 41 dX3_greatestDivisor_38 rfl rfl rfl rfl ?_
          refine z_goto 9 dX3_greatestDivisor_41 (by decide) ?_
          have hY : ¬ (Y : Int) = 0 := fun q => h20 (zlc_0.mpr q)
          have hlt := Nat.mod_lt X (y := Y) (by omega)
          refine z_sub (lv' := [(8, _), (6, _), (4, _), (0, _), (2, _)]) ⟨rfl, rfl, rfl, rfl, rfl, trivial⟩ ?_
          exact ih9 (k + 1) _ _ _  (by omega) (by omega) (by rw [← hg, Nat.gcd_comm X Y, Nat.gcd_rec Y X, Nat.gcd_comm]) (by
        right
        refine ⟨by omega, hlt, ?_⟩
        rcases hst with ⟨e1, e2, e3⟩ | ⟨e1, e2, e3⟩
        · subst e1
          have h2 : Y * (X % Y) ≤ Y * Y := Nat.mul_le_mul_left Y (Nat.le_of_lt hlt)
          by_cases hXY : X < Y
          · rw [Nat.mod_eq_of_lt hXY]
            have h3 : Y * X ≤ 1073741824 * 1000000 := Nat.mul_le_mul hX2 (by omega)
            show Y * X * 1 ≤ _
            omega
          · have h4 : X % Y ≤ X := Nat.mod_le X Y
            have h5 : Y ≤ X := by omega
            have h3 : Y * (X % Y) ≤ 1000000 * 1000000 := Nat.mul_le_mul (by omega) (by omega)
            show Y * (X % Y) * 1 ≤ _
            omega
        · have h2 := (euc (by omega) e2 e3).2
          rw [show k + 1 - 1 = k - 1 + 1 by omega]
          exact h2) (by omega)
  refine z_lload_n 1 dX3_greatestDivisor_0 rfl rfl ?_
  refine z_lstore (lv' := [(4, _), (0, _), (2, _)]) 3 dX3_greatestDivisor_1 rfl rfl rfl ?_
  refine z_lload_n 4 dX3_greatestDivisor_3 rfl rfl ?_
  refine z_lstore (lv' := [(6, _), (4, _), (0, _), (2, _)]) 6 dX3_greatestDivisor_4 rfl rfl rfl ?_
  refine z_iconst 7 dX3_greatestDivisor_6 rfl ?_
  refine z_istore (lv' := [(8, _), (6, _), (4, _), (0, _), (2, _)]) 9 dX3_greatestDivisor_7 rfl rfl rfl ?_
  refine z_sub (lv' := [(8, _), (6, _), (4, _), (0, _), (2, _)]) ⟨rfl, rfl, rfl, rfl, rfl, trivial⟩ ?_
  exact L9 101 0 _ _ _  (by omega) (by omega) (rfl) (Or.inl ⟨rfl, rfl, rfl⟩) (by omega)
set_option maxRecDepth 20000 in
theorem c_lowestTerms {t : zT} {A B : Nat} {w : Int} (hA : A ≤ 1000000) (hB : 0 < B ∧ B ≤ 1073741824) (hw : zi w) : zM yX3_lowestTerms cX3_lowestTerms 7 (some .long) 1 0 0 [vL (A : Int), vL (B : Int), vI w] t (fun r t1 => r = some (vL (low A B w)) ∧ t1 = t) := by
  refine zM.of2 [(0, vL (A : Int)), (2, vL (B : Int)), (4, vI w)] (by decide +kernel) rfl (Nat.le_of_ble_eq_true rfl) ?_
  obtain ⟨hw1, hw2⟩ := hw
  have hgp := Nat.gcd_pos_of_pos_right A hB.1
  have hgl := Nat.gcd_le_right A hB.1
  refine z_lload_n 1 dX3_lowestTerms_0 rfl rfl ?_
  refine z_lload_n 2 dX3_lowestTerms_1 rfl rfl ?_
  refine z_callS 5 [_, _] la_X3_greatestDivisor ml_X3_362 sm_X3_greatestDivisor (c_greatestDivisor hA hB) rfl rfl (by decide) (Nat.le_of_ble_eq_true rfl) (by decide) (by decide) dX3_lowestTerms_2 rfl (fun r t hq => ?_)
  obtain ⟨rfl, rfl⟩ := hq
  refine z_lstore (lv' := [(5, _), (0, _), (2, _), (4, _)]) 7 dX3_lowestTerms_5 rfl rfl rfl ?_
  refine z_lload 9 dX3_lowestTerms_7 rfl rfl ?_
  refine z_lconst (z := 0) 10 dX3_lowestTerms_9 rfl rfl ?_
  refine z_lcmp 11 dX3_lowestTerms_10 rfl ⟨by omega, by omega⟩ ⟨by omega, by omega⟩ ?_
  refine z_if_ne 18 14 dX3_lowestTerms_11 (by decide) rfl zlc_i (fun h11 => ?_) (fun h11 => ?_)
  · have hz : ¬ ((Nat.gcd A B : Nat) : Int) = 0 := fun q => h11 (zlc_0.mpr q)
    refine z_iload 20 dX3_lowestTerms_18 rfl rfl ?_
    refine z_if_ne 30 23 dX3_lowestTerms_20 (by decide) rfl ⟨by omega, by omega⟩ (fun h20 => ?_) (fun h20 => ?_)
    · refine z_lload_n 31 dX3_lowestTerms_30 rfl rfl ?_
      refine z_lload 33 dX3_lowestTerms_31 rfl rfl ?_
      refine z_ldiv 34 dX3_lowestTerms_33 rfl ⟨by omega, by omega⟩ ⟨by omega, by omega⟩ (by omega) ?_
      refine z_lreturn rfl dX3_lowestTerms_34 (by decide) (by decide) ?_
      refine ⟨congrArg (fun z => some (vL z)) ?_, rfl⟩
      unfold low
      first | (rw [if_pos (by omega)]; exact (Int.ofNat_tdiv A _).symm) | (rw [if_neg (by omega)]; exact (Int.ofNat_tdiv B _).symm)
    · refine z_lload_n 24 dX3_lowestTerms_23 rfl rfl ?_
      refine z_lload 26 dX3_lowestTerms_24 rfl rfl ?_
      refine z_ldiv 27 dX3_lowestTerms_26 rfl ⟨by omega, by omega⟩ ⟨by omega, by omega⟩ (by omega) ?_
      refine z_goto 34 dX3_lowestTerms_27 (by decide) ?_
      refine z_lreturn rfl dX3_lowestTerms_34 (by decide) (by decide) ?_
      refine ⟨congrArg (fun z => some (vL z)) ?_, rfl⟩
      unfold low
      first | (rw [if_pos (by omega)]; exact (Int.ofNat_tdiv A _).symm) | (rw [if_neg (by omega)]; exact (Int.ofNat_tdiv B _).symm)
  · have hz : ((Nat.gcd A B : Nat) : Int) = 0 := zlc_0.mp (by omega)
    refine z_ldc2l 17 co_X3_225 dX3_lowestTerms_14 rfl ?_
    refine z_lreturn rfl dX3_lowestTerms_17 (by decide) (by decide) ?_
    exfalso; omega
theorem c_lowestTerms' {t : zT} {a b : Int} {w : Int} (hA : 0 ≤ a ∧ a ≤ 1000000) (hB : 0 < b ∧ b ≤ 1073741824) (hw : zi w) : zM yX3_lowestTerms cX3_lowestTerms 7 (some .long) 1 0 0 [vL a, vL b, vI w] t (fun r t1 => r = some (vL (low a.toNat b.toNat w)) ∧ t1 = t) := by
  obtain ⟨A, rfl⟩ := Int.eq_ofNat_of_zero_le hA.1
  obtain ⟨B, rfl⟩ := Int.eq_ofNat_of_zero_le (Int.le_of_lt hB.1)
  exact c_lowestTerms (A := A) (B := B) (by omega) (by omega) hw
set_option maxRecDepth 20000 in
theorem c_pull {m : Nat → Int → Int} {f : Nat → Int → UInt32} {a : Nat → Int → Nat} {t : zT} (hR : CA m f a t) {l : Int} (hl : zi l) {w : Int} (hw : zi w) (hW : WF m f) (hX : XI m f) : zM yX3_pull cX3_pull 5 (some .long) 2 0 0 [vR (rf a 0 0), vI l, vI w] t (fun r t1 => r = some (vL (a_pull m l w)) ∧ CP (a 0 0) (m, f) t1) := by
  refine zM.of2 [(0, vR (rf a 0 0)), (1, vI l), (2, vI w)] (by decide +kernel) rfl (Nat.le_of_ble_eq_true rfl) ?_
  obtain ⟨hl1, hl2⟩ := hl
  obtain ⟨hw1, hw2⟩ := hw
  have hn1 := hW.n.1
  have hn2 := hW.n.2
  have h60 := hX.1.1
  have h62 := hX.1.2.1
  have h64 := hX.1.2.2
  obtain ⟨hm1, hm2, hm3⟩ := hW.2.2.2.2.2
  have hpz := prodf_z (m := m) (n := (m 23 0).toNat) (by omega) (fun k a b => hm3 k a (by omega))
  refine z_aload_n 1 dX3_pull_0 rfl rfl ?_
  refine z_aload_n 2 dX3_pull_1 rfl rfl ?_
  refine c_getI 5 23 hR fl_X3_149 (by decide) (show cLive m 0 0 from l0) (show _ = m 23 0 from rfl) dX3_pull_2 rfl ?_
  refine z_callV 8 [_] la_X3_ropesOfFirst ml_X3_351 im_X3_ropesOfFirst se_X3_ropesOfFirst (hR.lv 0 0 (by decide) l0).1 (hR.lv 0 0 (by decide) l0).2.1 (by decide) rfl rfl (c_ropesOfFirst hR ⟨hm1, hm2⟩ hm3) rfl rfl (by decide) (Nat.le_of_ble_eq_true rfl) (by decide) (by decide) dX3_pull_5 rfl (fun r t hq => ?_)
  obtain ⟨rfl, hR⟩ := hq
  refine z_lstore_n (lv' := [(3, _), (0, _), (1, _), (2, _)]) 9 dX3_pull_8 rfl rfl rfl ?_
  refine z_lload_n 10 dX3_pull_9 rfl rfl ?_
  refine z_lconst (z := 0) 11 dX3_pull_10 rfl rfl ?_
  refine z_lcmp 12 dX3_pull_11 rfl ⟨by omega, by omega⟩ ⟨by omega, by omega⟩ ?_
  refine z_if_ne 19 15 dX3_pull_12 (by decide) rfl zlc_i (fun h12 => ?_) (fun h12 => ?_)
  · have hnz : ¬ prodf m (m 23 0).toNat = 0 := fun e => h12 (zlc_0.mpr e)
    refine z_iload_n 20 dX3_pull_19 rfl rfl ?_
    refine z_iload_n 21 dX3_pull_20 rfl rfl ?_
    refine z_callS 24 [_, _] la_X3_canAskLoad ml_X3_355 sm_X3_canAskLoad (c_canAskLoad ⟨by omega, by omega⟩ ⟨by omega, by omega⟩) rfl rfl (by decide) (Nat.le_of_ble_eq_true rfl) (by decide) (by decide) dX3_pull_21 rfl (fun r t hq => ?_)
    obtain ⟨z, rfl, hz1, hz2, hz3, rfl⟩ := hq
    refine z_if_ne 31 27 dX3_pull_24 (by decide) rfl ⟨by omega, by omega⟩ (fun h24 => ?_) (fun h24 => ?_)
    · refine z_iload_n 32 dX3_pull_31 rfl rfl ?_
      refine z_i2l 33 dX3_pull_32 rfl ⟨by omega, by omega⟩ ?_
      refine z_lload_n 34 dX3_pull_33 rfl rfl ?_
      refine z_iload_n 35 dX3_pull_34 rfl rfl ?_
      refine z_callS 38 [_, _, _] la_X3_lowestTerms ml_X3_358 sm_X3_lowestTerms (c_lowestTerms' ⟨by omega, by omega⟩ ⟨by omega, by omega⟩ ⟨by omega, by omega⟩) rfl rfl (by decide) (Nat.le_of_ble_eq_true rfl) (by decide) (by decide) dX3_pull_35 rfl (fun r t hq => ?_)
      obtain ⟨rfl, rfl⟩ := hq
      refine z_lreturn rfl dX3_pull_38 (by decide) (by decide) ?_
      refine ⟨congrArg (fun z => some (vL z)) ?_, CP.rf hR hX⟩
      unfold a_pull
      first | rw [if_pos (by omega)] | (rw [if_neg (by omega)]; first | rw [if_pos (by omega)] | rw [if_neg (by omega)])
    · refine z_ldc2l 30 co_X3_225 dX3_pull_27 rfl ?_
      refine z_lreturn rfl dX3_pull_30 (by decide) (by decide) ?_
      refine ⟨congrArg (fun z => some (vL z)) ?_, CP.rf hR hX⟩
      unfold a_pull
      first | rw [if_pos (by omega)] | (rw [if_neg (by omega)]; first | rw [if_pos (by omega)] | rw [if_neg (by omega)])
  · have hnz : prodf m (m 23 0).toNat = 0 := zlc_0.mp (by omega)
    refine z_ldc2l 18 co_X3_254 dX3_pull_15 rfl ?_
    refine z_lreturn rfl dX3_pull_18 (by decide) (by decide) ?_
    refine ⟨congrArg (fun z => some (vL z)) ?_, CP.rf hR hX⟩
    unfold a_pull
    first | rw [if_pos (by omega)] | (rw [if_neg (by omega)]; first | rw [if_pos (by omega)] | rw [if_neg (by omega)])
set_option maxRecDepth 20000 in
theorem c_stress {m : Nat → Int → Int} {f : Nat → Int → UInt32} {a : Nat → Int → Nat} {t : zT} (hR : CA m f a t) {k : Int} (hk : zi k) {l : Int} (hl : zi l) {w : Int} (hw : zi w) (hW : WF m f) (hX : XI m f) : zM yX3_stress cX3_stress 6 (some .long) 2 0 0 [vR (rf a 0 0), vI k, vI l, vI w] t (fun r t1 => r = some (vL (a_stress m k l w)) ∧ CP (a 0 0) (m, f) t1) := by
  refine zM.of2 [(0, vR (rf a 0 0)), (1, vI k), (2, vI l), (3, vI w)] (by decide +kernel) rfl (Nat.le_of_ble_eq_true rfl) ?_
  obtain ⟨hk1, hk2⟩ := hk
  obtain ⟨hl1, hl2⟩ := hl
  obtain ⟨hw1, hw2⟩ := hw
  have hn1 := hW.n.1
  have hn2 := hW.n.2
  have h60 := hX.1.1
  have h62 := hX.1.2.1
  have h64 := hX.1.2.2
  obtain ⟨hm1, hm2, hm3⟩ := hW.2.2.2.2.2
  refine z_iload_n 1 dX3_stress_0 rfl rfl ?_
  refine z_iload_n 2 dX3_stress_1 rfl rfl ?_
  refine z_callS 5 [_, _] la_X3_canAskLoad ml_X3_355 sm_X3_canAskLoad (c_canAskLoad ⟨by omega, by omega⟩ ⟨by omega, by omega⟩) rfl rfl (by decide) (Nat.le_of_ble_eq_true rfl) (by decide) (by decide) dX3_stress_2 rfl (fun r t hq => ?_)
  obtain ⟨z, rfl, hz1, hz2, hz3, rfl⟩ := hq
  refine z_if_eq 20 8 dX3_stress_5 (by decide) rfl ⟨by omega, by omega⟩ (fun h5 => ?_) (fun h5 => ?_)
  · refine z_ldc2l 23 co_X3_225 dX3_stress_20 rfl ?_
    refine z_lreturn rfl dX3_stress_23 (by decide) (by decide) ?_
    refine ⟨congrArg (fun z => some (vL z)) ?_, CP.rf hR hX⟩
    unfold a_stress
    first | rw [if_pos (by omega)] | (rw [if_neg (by omega)]; first | rw [if_pos (by omega)] | rw [if_neg (by omega)])
  · refine z_iload_n 9 dX3_stress_8 rfl rfl ?_
    refine z_if_lt 20 12 dX3_stress_9 (by decide) rfl ⟨by omega, by omega⟩ (fun h9 => ?_) (fun h9 => ?_)
    · refine z_ldc2l 23 co_X3_225 dX3_stress_20 rfl ?_
      refine z_lreturn rfl dX3_stress_23 (by decide) (by decide) ?_
      refine ⟨congrArg (fun z => some (vL z)) ?_, CP.rf hR hX⟩
      unfold a_stress
      first | rw [if_pos (by omega)] | (rw [if_neg (by omega)]; first | rw [if_pos (by omega)] | rw [if_neg (by omega)])
    · refine z_iload_n 13 dX3_stress_12 rfl rfl ?_
      refine z_aload_n 14 dX3_stress_13 rfl rfl ?_
      refine c_getI 17 23 hR fl_X3_149 (by decide) (show cLive m 0 0 from l0) (show _ = m 23 0 from rfl) dX3_stress_14 rfl ?_
      refine z_icmp_lt 24 20 dX3_stress_17 (by decide) rfl ⟨by omega, by omega⟩ ⟨by omega, by omega⟩ (fun h17 => ?_) (fun h17 => ?_)
      · refine z_aload_n 25 dX3_stress_24 rfl rfl ?_
        refine z_iload_n 26 dX3_stress_25 rfl rfl ?_
        refine z_iconst 27 dX3_stress_26 rfl ?_
        refine z_iadd 28 dX3_stress_27 rfl ?_
        refine z_callV 31 [_] la_X3_ropesOfFirst ml_X3_351 im_X3_ropesOfFirst se_X3_ropesOfFirst (hR.lv 0 0 (by decide) l0).1 (hR.lv 0 0 (by decide) l0).2.1 (by decide) rfl rfl (c_ropesOfFirst hR ⟨by omega, by omega⟩ (fun j a b => hm3 j a (by omega))) rfl rfl (by decide) (Nat.le_of_ble_eq_true rfl) (by decide) (by decide) dX3_stress_28 rfl (fun r t hq => ?_)
        obtain ⟨rfl, hR⟩ := hq
        have hpz := prodf_z (m := m) (n := (k + 1).toNat) (by omega) (fun j a b => hm3 j a (by omega))
        refine z_lstore (lv' := [(4, _), (0, _), (1, _), (2, _), (3, _)]) 33 dX3_stress_31 rfl rfl rfl ?_
        refine z_lload 35 dX3_stress_33 rfl rfl ?_
        refine z_lconst (z := 0) 36 dX3_stress_35 rfl rfl ?_
        refine z_lcmp 37 dX3_stress_36 rfl ⟨by omega, by omega⟩ ⟨by omega, by omega⟩ ?_
        refine z_if_ne 44 40 dX3_stress_37 (by decide) rfl zlc_i (fun h37 => ?_) (fun h37 => ?_)
        · have hnz : ¬ prodf m (k + 1).toNat = 0 := fun e => h37 (zlc_0.mpr e)
          refine z_iload_n 45 dX3_stress_44 rfl rfl ?_
          refine z_i2l 46 dX3_stress_45 rfl ⟨by omega, by omega⟩ ?_
          refine z_lload 48 dX3_stress_46 rfl rfl ?_
          refine z_iload_n 49 dX3_stress_48 rfl rfl ?_
          refine z_callS 52 [_, _, _] la_X3_lowestTerms ml_X3_358 sm_X3_lowestTerms (c_lowestTerms' ⟨by omega, by omega⟩ ⟨by omega, by omega⟩ ⟨by omega, by omega⟩) rfl rfl (by decide) (Nat.le_of_ble_eq_true rfl) (by decide) (by decide) dX3_stress_49 rfl (fun r t hq => ?_)
          obtain ⟨rfl, rfl⟩ := hq
          refine z_lreturn rfl dX3_stress_52 (by decide) (by decide) ?_
          refine ⟨congrArg (fun z => some (vL z)) ?_, CP.rf hR hX⟩
          unfold a_stress
          first | rw [if_pos (by omega)] | (rw [if_neg (by omega)]; first | rw [if_pos (by omega)] | rw [if_neg (by omega)])
        · have hnz : prodf m (k + 1).toNat = 0 := zlc_0.mp (by omega)
          refine z_ldc2l 43 co_X3_254 dX3_stress_40 rfl ?_
          refine z_lreturn rfl dX3_stress_43 (by decide) (by decide) ?_
          refine ⟨congrArg (fun z => some (vL z)) ?_, CP.rf hR hX⟩
          unfold a_stress
          first | rw [if_pos (by omega)] | (rw [if_neg (by omega)]; first | rw [if_pos (by omega)] | rw [if_neg (by omega)])
      · refine z_ldc2l 23 co_X3_225 dX3_stress_20 rfl ?_
        refine z_lreturn rfl dX3_stress_23 (by decide) (by decide) ?_
        refine ⟨congrArg (fun z => some (vL z)) ?_, CP.rf hR hX⟩
        unfold a_stress
        first | rw [if_pos (by omega)] | (rw [if_neg (by omega)]; first | rw [if_pos (by omega)] | rw [if_neg (by omega)])
set_option maxRecDepth 20000 in
theorem c_orderAt {m : Nat → Int → Int} {f : Nat → Int → UInt32} {a : Nat → Int → Nat} {t : zT} (hR : CA m f a t) {p : Int} (hp : zi p) (hW : WF m f) (hX : XI m f) : zM yX3_orderAt cX3_orderAt 2 (some (.object "RopeWalk$Order")) 0 0 0 [vR (rf a 0 0), vI p] t (fun r t1 => ∃ v, r = some (vR (rf a 14 v)) ∧ ((v = p ∧ 0 ≤ p ∧ p < m 18 0) ∨ (v = -1 ∧ ¬ (0 ≤ p ∧ p < m 18 0))) ∧ CA m f a t1) := by
  refine zM.of2 [(0, vR (rf a 0 0)), (1, vI p)] (by decide +kernel) rfl (Nat.le_of_ble_eq_true rfl) ?_
  obtain ⟨hp1, hp2⟩ := hp
  have hn1 := hW.n.1
  have hn2 := hW.n.2
  have h60 := hX.1.1
  have h62 := hX.1.2.1
  have h64 := hX.1.2.2
  obtain ⟨ho1, ho2, ho3⟩ := hW.2.2.2.2.1
  refine z_iload_n 1 dX3_orderAt_0 rfl rfl ?_
  refine z_if_lt 18 4 dX3_orderAt_1 (by decide) rfl ⟨by omega, by omega⟩ (fun h1 => ?_) (fun h1 => ?_)
  · refine z_null 19 dX3_orderAt_18 rfl ?_
    refine z_areturn rfl (Or.inl ⟨_, rfl⟩) dX3_orderAt_19 (by decide) (by decide) ?_
    exact ⟨-1, rfl, Or.inr ⟨rfl, by omega⟩, hR⟩
  · refine z_iload_n 5 dX3_orderAt_4 rfl rfl ?_
    refine z_aload_n 6 dX3_orderAt_5 rfl rfl ?_
    refine c_getI 9 18 hR fl_X3_143 (by decide) (show cLive m 0 0 from l0) (show _ = m 18 0 from rfl) dX3_orderAt_6 rfl ?_
    refine z_icmp_ge 18 12 dX3_orderAt_9 (by decide) rfl ⟨by omega, by omega⟩ ⟨by omega, by omega⟩ (fun h9 => ?_) (fun h9 => ?_)
    · refine z_null 19 dX3_orderAt_18 rfl ?_
      refine z_areturn rfl (Or.inl ⟨_, rfl⟩) dX3_orderAt_19 (by decide) (by decide) ?_
      exact ⟨-1, rfl, Or.inr ⟨rfl, by omega⟩, hR⟩
    · refine z_iload_n 13 dX3_orderAt_12 rfl rfl ?_
      refine z_bipush 15 dX3_orderAt_13 rfl ⟨by decide, by decide⟩ ?_
      refine z_icmp_lt 20 18 dX3_orderAt_15 (by decide) rfl ⟨by omega, by omega⟩ ⟨by omega, by omega⟩ (fun h15 => ?_) (fun h15 => ?_)
      · refine z_aload_n 21 dX3_orderAt_20 rfl rfl ?_
        refine c_getL 24 4 hR fl_X3_26 (by decide) (show cLive m 0 0 from l0) dX3_orderAt_21 rfl ?_
        refine z_iload_n 25 dX3_orderAt_24 rfl rfl ?_
        refine c_aald 26 63 hR (c := 1) 6 (by decide) (show _ = p from rfl) (show cLive m 4 0 from l4) rfl (by decide) ⟨by omega, by omega⟩ (show _ = p from (hX.od (by omega) (by omega) (by omega))) dX3_orderAt_25 rfl (fun hl25 => ?_)
        refine z_areturn rfl (Or.inl ⟨_, rfl⟩) dX3_orderAt_26 (by decide) (by decide) ?_
        exact ⟨p, rfl, Or.inl ⟨rfl, by omega, by omega⟩, hR⟩
      · refine z_null 19 dX3_orderAt_18 rfl ?_
        refine z_areturn rfl (Or.inl ⟨_, rfl⟩) dX3_orderAt_19 (by decide) (by decide) ?_
        exact ⟨-1, rfl, Or.inr ⟨rfl, by omega⟩, hR⟩
theorem XI.join {m : Nat → Int → Int} {f : Nat → Int → UInt32} (hX : XI m f) (o : Int) : XI (up2 m 21 o (-1)) f := by
  obtain ⟨x1, x2, x3, x4, x5, x6, x7⟩ := hX
  have hw : wt (up2 m 21 o (-1)) = wt m := wt_cong rfl rfl rfl rfl
  refine ⟨x1, x2, x3, x4, x5, by unfold XP; rw [hw]; exact x6, fun q q0 q1 q2 => ?_⟩
  rw [up_ite] at q2
  split at q2
  · exfalso; omega
  · exact x7 q q0 q1 q2
set_option maxRecDepth 20000 in
theorem c_join {m : Nat → Int → Int} {f : Nat → Int → UInt32} {a : Nat → Int → Nat} {t : zT} (hR : CA m f a t) {o : Int} (ho : zi o) (hW : WF m f) (hX : XI m f) : zM yX3_join cX3_join 4 (some .int) 1 0 0 [vR (rf a 0 0), vI o] t (fun r t1 => r = some (vI (a_join m o)) ∧ CP (a 0 0) (s_join m o, f) t1) := by
  refine zM.of2 [(0, vR (rf a 0 0)), (1, vI o)] (by decide +kernel) rfl (Nat.le_of_ble_eq_true rfl) ?_
  obtain ⟨ho1, ho2⟩ := ho
  have hn1 := hW.n.1
  have hn2 := hW.n.2
  have h60 := hX.1.1
  have h62 := hX.1.2.1
  have h64 := hX.1.2.2
  obtain ⟨ho1, ho2, ho3⟩ := hW.2.2.2.2.1
  refine z_aload_n 1 dX3_join_0 rfl rfl ?_
  refine z_iload_n 2 dX3_join_1 rfl rfl ?_
  refine z_callV 5 [_] la_X3_orderAt ml_X3_288 im_X3_orderAt se_X3_orderAt (hR.lv 0 0 (by decide) l0).1 (hR.lv 0 0 (by decide) l0).2.1 (by decide) rfl rfl (c_orderAt hR ⟨by omega, by omega⟩ hW hX) rfl rfl (by decide) (Nat.le_of_ble_eq_true rfl) (by decide) (by decide) dX3_join_2 rfl (fun r t hq => ?_)
  obtain ⟨v, rfl, hv, hR⟩ := hq
  refine z_astore_n (lv' := [(2, _), (0, _), (1, _)]) 6 dX3_join_5 rfl rfl rfl ?_
  refine z_aload_n 7 dX3_join_6 rfl rfl ?_
  refine c_ifnull 17 10 dX3_join_7 (by decide) rfl  (fun h7 => ?_) (fun h7 => ?_)
  · refine z_bipush 19 dX3_join_17 rfl ⟨by decide, by decide⟩ ?_
    refine z_ireturn rfl dX3_join_19 (by decide) (by decide) ?_
    refine ⟨congrArg (fun z => some (vI z)) ?_, ?_⟩
    · unfold a_join cif join_no; rw [if_pos (by omega)]
    · have e : s_join m o = m := if_pos (by unfold join_no; omega)
      rw [e]; exact CP.rf hR hX
  · obtain rfl : o = v := by omega
    have hod := hW.ord (o := o) (by omega) (by omega)
    refine z_aload_n 11 dX3_join_10 rfl rfl ?_
    refine c_getI 14 21 hR fl_X3_292 (by decide) (show cLive m 14 o from lo ⟨by omega, by omega⟩) (show _ = m 21 o from rfl) dX3_join_11 rfl ?_
    refine z_if_ge 20 17 dX3_join_14 (by decide) rfl ⟨by omega, by omega⟩ (fun h14 => ?_) (fun h14 => ?_)
    · refine z_sipush 23 dX3_join_20 rfl ⟨by decide, by decide⟩ ?_
      refine z_aload_n 24 dX3_join_23 rfl rfl ?_
      refine c_getI 27 21 hR fl_X3_292 (by decide) (show cLive m 14 o from lo ⟨by omega, by omega⟩) (show _ = m 21 o from rfl) dX3_join_24 rfl ?_
      refine z_imul 28 dX3_join_27 rfl ?_
      refine z_aload_n 29 dX3_join_28 rfl rfl ?_
      refine c_getI 32 48 hR fl_X3_305 (by decide) (show cLive m 14 o from lo ⟨by omega, by omega⟩) (show _ = m 22 o from (hX.cut (by omega) (by omega) (by omega))) dX3_join_29 rfl ?_
      refine z_iadd 33 dX3_join_32 rfl ?_
      refine z_istore_n (lv' := [(3, _), (2, _), (0, _), (1, _)]) 34 dX3_join_33 rfl rfl rfl ?_
      refine z_aload_n 35 dX3_join_34 rfl rfl ?_
      refine z_iconst 36 dX3_join_35 rfl ?_
      refine c_putI 39 21 hR fl_X3_292 (by decide) (show cLive m 14 o from lo ⟨by omega, by omega⟩) dX3_join_36 rfl (fun t hR => ?_)
      refine z_iload_n 40 dX3_join_39 rfl rfl ?_
      refine z_ireturn rfl dX3_join_40 (by decide) (by decide) ?_
      refine ⟨congrArg (fun z => some (vI z)) ?_, ?_⟩
      · unfold a_join cif join_no; rw [if_neg (by omega)]
      · have e : s_join m o = up2 m 21 o (-1) := if_neg (by unfold join_no; omega)
        rw [e]; exact CP.of hR (hX.join o) eqs.rf
    · refine z_bipush 19 dX3_join_17 rfl ⟨by decide, by decide⟩ ?_
      refine z_ireturn rfl dX3_join_19 (by decide) (by decide) ?_
      refine ⟨congrArg (fun z => some (vI z)) ?_, ?_⟩
      · unfold a_join cif join_no; rw [if_pos (by omega)]
      · have e : s_join m o = m := if_pos (by unfold join_no; omega)
        rw [e]; exact CP.rf hR hX
set_option maxRecDepth 20000 in
theorem c_lengthOn {m : Nat → Int → Int} {f : Nat → Int → UInt32} {a : Nat → Int → Nat} {t : zT} (hR : CA m f a t) {q : Int} (hq : zi q) (hW : WF m f) (hX : XI m f) : zM yX3_lengthOn cX3_lengthOn 2 (some .int) 1 0 0 [vR (rf a 0 0), vI q] t (fun r t1 => r = some (vI (if 0 ≤ q ∧ q < 6 ∧ 0 ≤ m 17 q then m 2 (m 17 q) else 0)) ∧ CA m f a t1) := by
  refine zM.of2 [(0, vR (rf a 0 0)), (1, vI q)] (by decide +kernel) rfl (Nat.le_of_ble_eq_true rfl) ?_
  obtain ⟨hq1, hq2⟩ := hq
  have hn1 := hW.n.1
  have hn2 := hW.n.2
  have h60 := hX.1.1
  have h62 := hX.1.2.1
  have h64 := hX.1.2.2
  refine z_iload_n 1 dX3_lengthOn_0 rfl rfl ?_
  refine z_callS 4 [_] la_X3_isReel ml_X3_266 sm_X3_isReel (c_isReel ⟨by omega, by omega⟩) rfl rfl (by decide) (Nat.le_of_ble_eq_true rfl) (by decide) (by decide) dX3_lengthOn_1 rfl (fun r t hq => ?_)
  obtain ⟨zr, rfl, hz4, hz5, hz6, rfl⟩ := hq
  refine z_if_eq 34 7 dX3_lengthOn_4 (by decide) rfl ⟨by omega, by omega⟩ (fun h4 => ?_) (fun h4 => ?_)
  · refine z_iconst 35 dX3_lengthOn_34 rfl ?_
    refine z_ireturn rfl dX3_lengthOn_35 (by decide) (by decide) ?_
    refine ⟨congrArg (fun z => some (vI z)) ?_, hR⟩
    first | rw [if_pos (by omega)] | rw [if_neg (by omega)]
  · obtain ⟨hr1, hr2, hr3⟩ := hW.2.2.2.1 q (by omega) (by omega)
    refine z_aload_n 8 dX3_lengthOn_7 rfl rfl ?_
    refine c_getL 11 3 hR fl_X3_20 (by decide) (show cLive m 0 0 from l0) dX3_lengthOn_8 rfl ?_
    refine z_iload_n 12 dX3_lengthOn_11 rfl rfl ?_
    refine c_aald 13 65 hR (c := 1) 6 (by decide) (show _ = q from rfl) (show cLive m 3 0 from l3) rfl (by decide) ⟨by omega, by omega⟩ (show _ = q from (hX.rl (by omega) (by omega))) dX3_lengthOn_12 rfl (fun hl12 => ?_)
    refine c_getP 16 17 hR fl_X3_270 (by decide) (show cLive m 11 q from lr ⟨by omega, by omega⟩) (show _ = m 17 q from rfl) dX3_lengthOn_13 rfl (fun hl13 => ?_)
    refine c_ifnull 34 19 dX3_lengthOn_16 (by decide) rfl  (fun h16 => ?_) (fun h16 => ?_)
    · refine z_iconst 35 dX3_lengthOn_34 rfl ?_
      refine z_ireturn rfl dX3_lengthOn_35 (by decide) (by decide) ?_
      refine ⟨congrArg (fun z => some (vI z)) ?_, hR⟩
      first | rw [if_pos (by omega)] | rw [if_neg (by omega)]
    · refine z_aload_n 20 dX3_lengthOn_19 rfl rfl ?_
      refine c_getL 23 3 hR fl_X3_20 (by decide) (show cLive m 0 0 from l0) dX3_lengthOn_20 rfl ?_
      refine z_iload_n 24 dX3_lengthOn_23 rfl rfl ?_
      refine c_aald 25 65 hR (c := 1) 6 (by decide) (show _ = q from rfl) (show cLive m 3 0 from l3) rfl (by decide) ⟨by omega, by omega⟩ (show _ = q from (hX.rl (by omega) (by omega))) dX3_lengthOn_24 rfl (fun hl24 => ?_)
      refine c_getP 28 17 hR fl_X3_270 (by decide) (show cLive m 11 q from lr ⟨by omega, by omega⟩) (show _ = m 17 q from rfl) dX3_lengthOn_25 rfl (fun hl25 => ?_)
      refine c_getI 31 2 hR fl_X3_113 (by decide) (show cLive m 6 (m 17 q) from lp ⟨by omega, by omega⟩) (show _ = m 2 (m 17 q) from rfl) dX3_lengthOn_28 rfl ?_
      refine z_goto 35 dX3_lengthOn_31 (by decide) ?_
      refine z_ireturn rfl dX3_lengthOn_35 (by decide) (by decide) ?_
      refine ⟨congrArg (fun z => some (vI z)) ?_, hR⟩
      first | rw [if_pos (by omega)] | rw [if_neg (by omega)]
set_option maxRecDepth 20000 in
theorem c_begun {m : Nat → Int → Int} {f : Nat → Int → UInt32} {a : Nat → Int → Nat} {t : zT} (hR : CA m f a t) (hW : WF m f) (hX : XI m f) : zM yX3_begun cX3_begun 3 (some .int) 2 0 0 [vR (rf a 0 0)] t (fun r t1 => r = some (vI (lenc m 6)) ∧ CP (a 0 0) (m, f) t1) := by
  refine zM.of2 [(0, vR (rf a 0 0))] (by decide +kernel) rfl (Nat.le_of_ble_eq_true rfl) ?_
  have hn1 := hW.n.1
  have hn2 := hW.n.2
  have h60 := hX.1.1
  have h62 := hX.1.2.1
  have h64 := hX.1.2.2
  have L4 : ∀ (fuel : Nat) (k : Nat) (t : zT) (hR : CA m f a t) (hk : k ≤ 6) (hf : 6 - (k : Int) < (fuel : Int)), zOK yX3_begun cX3_begun 3 (some .int) 2 0 0 (fun r t1 => r = some (vI (lenc m 6)) ∧ CP (a 0 0) (m, f) t1) 0 0 4 [(2, vI (k : Int)), (1, vI (lenc m k)), (0, vR (rf a 0 0))] [] t := by
    intro fuel
    induction fuel with
    | zero => intro k t hR hk hf; exfalso; omega
    | succ fuel ih4 =>
      intro k t hR hk hf
      refine z_iload_n 5 dX3_begun_4 rfl rfl ?_
      refine z_bipush 7 dX3_begun_5 rfl ⟨by decide, by decide⟩ ?_
      refine z_icmp_ge 32 10 dX3_begun_7 (by decide) rfl ⟨by omega, by omega⟩ ⟨by omega, by omega⟩ (fun h7 => ?_) (fun h7 => ?_)
      · refine z_iload_n 33 dX3_begun_32 rfl rfl ?_
        refine z_ireturn rfl dX3_begun_33 (by decide) (by decide) ?_
        have hkk : k = 6 := by omega
        subst hkk
        exact ⟨rfl, CP.rf hR hX⟩
      · refine z_aload_n 11 dX3_begun_10 rfl rfl ?_
        refine z_iload_n 12 dX3_begun_11 rfl rfl ?_
        refine z_callV 15 [_] la_X3_isCutFrom ml_X3_274 im_X3_isCutFrom se_X3_isCutFrom (hR.lv 0 0 (by decide) l0).1 (hR.lv 0 0 (by decide) l0).2.1 (by decide) rfl rfl (c_isCutFrom hR ⟨by omega, by omega⟩ hW hX) rfl rfl (by decide) (Nat.le_of_ble_eq_true rfl) (by decide) (by decide) dX3_begun_12 rfl (fun r t hq => ?_)
        obtain ⟨z, rfl, hy1, hy2, hy3, hR⟩ := hq
        have hc2 : lenc m (k + 1) = lenc m k + if z = 1 then m 2 (m 17 k) else 0 := by show lenc m k + cif (cutfr m k) (m 2 (m 17 k)) 0 = _; simp only [cif, ← hy3]
        refine z_if_eq 26 18 dX3_begun_15 (by decide) rfl ⟨by omega, by omega⟩ (fun h15 => ?_) (fun h15 => ?_)
        · refine z_sub (lv' := [(1, vI (lenc m (k + 1))), (2, _), (0, _)]) ⟨congrArg (fun z => some (vI z)) (by rw [hc2]; first | (rw [if_pos (by omega)]) | (rw [if_neg (by omega)]; omega)), rfl, rfl, trivial⟩ ?_
          refine z_iinc (lv' := [(2, _), (1, _), (0, _)]) 29 dX3_begun_26 rfl rfl rfl rfl ?_
          refine z_goto 4 dX3_begun_29 (by decide) ?_
          refine z_sub (lv' := [(2, _), (1, _), (0, _)]) ⟨rfl, rfl, rfl, trivial⟩ ?_
          exact ih4 (k + 1) _ hR (by omega) (by omega)
        · refine z_iload_n 19 dX3_begun_18 rfl rfl ?_
          refine z_aload_n 20 dX3_begun_19 rfl rfl ?_
          refine z_iload_n 21 dX3_begun_20 rfl rfl ?_
          refine z_callV 24 [_] la_X3_lengthOn ml_X3_308 im_X3_lengthOn se_X3_lengthOn (hR.lv 0 0 (by decide) l0).1 (hR.lv 0 0 (by decide) l0).2.1 (by decide) rfl rfl (c_lengthOn hR ⟨by omega, by omega⟩ hW hX) rfl rfl (by decide) (Nat.le_of_ble_eq_true rfl) (by decide) (by decide) dX3_begun_21 rfl (fun r t hq => ?_)
          obtain ⟨rfl, hR⟩ := hq
          obtain ⟨oc, oc0, oc1, oc2⟩ := hy3.mp (by omega)
          have hoc := (hW.ord oc0 oc1).2.2.2.2 (by omega)
          rw [oc2] at hoc
          rw [if_pos (show 0 ≤ (k : Int) ∧ (k : Int) < 6 ∧ 0 ≤ m 17 k by omega)]
          refine z_iadd 25 dX3_begun_24 rfl ?_
          refine z_istore_n (lv' := [(1, _), (2, _), (0, _)]) 26 dX3_begun_25 rfl rfl rfl ?_
          refine z_sub (lv' := [(1, vI (lenc m (k + 1))), (2, _), (0, _)]) ⟨congrArg (fun z => some (vI z)) (by rw [hc2]; first | (rw [if_pos (by omega)]) | (rw [if_neg (by omega)]; omega)), rfl, rfl, trivial⟩ ?_
          refine z_iinc (lv' := [(2, _), (1, _), (0, _)]) 29 dX3_begun_26 rfl rfl rfl rfl ?_
          refine z_goto 4 dX3_begun_29 (by decide) ?_
          refine z_sub (lv' := [(2, _), (1, _), (0, _)]) ⟨rfl, rfl, rfl, trivial⟩ ?_
          exact ih4 (k + 1) _ hR (by omega) (by omega)
  refine z_iconst 1 dX3_begun_0 rfl ?_
  refine z_istore_n (lv' := [(1, _), (0, _)]) 2 dX3_begun_1 rfl rfl rfl ?_
  refine z_iconst 3 dX3_begun_2 rfl ?_
  refine z_istore_n (lv' := [(2, _), (1, _), (0, _)]) 4 dX3_begun_3 rfl rfl rfl ?_
  refine z_sub (lv' := [(2, _), (1, _), (0, _)]) ⟨rfl, rfl, rfl, trivial⟩ ?_
  exact L4 7 0 _ hR (by omega) (by omega)
set_option maxRecDepth 20000 in
theorem c_hang {m : Nat → Int → Int} {f : Nat → Int → UInt32} {a : Nat → Int → Nat} {t : zT} (hR : CA m f a t) {q : Int} (hq : zi q) {p : Int} (hp : zi p) (hW : WF m f) (hX : XI m f) : zM yX3_hang cX3_hang 4 (some .int) 2 0 0 [vR (rf a 0 0), vI q, vI p] t (fun r t1 => r = some (vI (a_hang m q p)) ∧ CP (a 0 0) (s_hang m q p, f) t1) := by
  refine zM.of2 [(0, vR (rf a 0 0)), (1, vI q), (2, vI p)] (by decide +kernel) rfl (Nat.le_of_ble_eq_true rfl) ?_
  obtain ⟨hq1, hq2⟩ := hq
  obtain ⟨hp1, hp2⟩ := hp
  have hn1 := hW.n.1
  have hn2 := hW.n.2
  have h60 := hX.1.1
  have h62 := hX.1.2.1
  have h64 := hX.1.2.2
  refine z_aload_n 1 dX3_hang_0 rfl rfl ?_
  refine z_iload_n 2 dX3_hang_1 rfl rfl ?_
  refine z_callV 5 [_] la_X3_freePiece ml_X3_70 im_X3_freePiece se_X3_freePiece (hR.lv 0 0 (by decide) l0).1 (hR.lv 0 0 (by decide) l0).2.1 (by decide) rfl rfl (c_freePiece hR ⟨by omega, by omega⟩ hW hX) rfl rfl (by decide) (Nat.le_of_ble_eq_true rfl) (by decide) (by decide) dX3_hang_2 rfl (fun r t hq => ?_)
  obtain ⟨v, rfl, hv, hR⟩ := hq
  refine z_astore_n (lv' := [(3, _), (0, _), (1, _), (2, _)]) 6 dX3_hang_5 rfl rfl rfl ?_
  refine z_aload_n 7 dX3_hang_6 rfl rfl ?_
  refine c_ifnonnull 13 10 dX3_hang_7 (by decide) rfl  (fun h7 => ?_) (fun h7 => ?_)
  · obtain rfl : p = v := by omega
    have hBp := hW.b (p := p) (by omega) (by omega)
    refine z_iload_n 14 dX3_hang_13 rfl rfl ?_
    refine z_callS 17 [_] la_X3_isReel ml_X3_266 sm_X3_isReel (c_isReel ⟨by omega, by omega⟩) rfl rfl (by decide) (Nat.le_of_ble_eq_true rfl) (by decide) (by decide) dX3_hang_14 rfl (fun r t hq => ?_)
    obtain ⟨zr, rfl, hz4, hz5, hz6, rfl⟩ := hq
    refine z_if_ne 23 20 dX3_hang_17 (by decide) rfl ⟨by omega, by omega⟩ (fun h17 => ?_) (fun h17 => ?_)
    · obtain ⟨hr1, hr2, hr3⟩ := hW.2.2.2.1 q (by omega) (by omega)
      refine z_aload_n 24 dX3_hang_23 rfl rfl ?_
      refine c_getL 27 3 hR fl_X3_20 (by decide) (show cLive m 0 0 from l0) dX3_hang_24 rfl ?_
      refine z_iload_n 28 dX3_hang_27 rfl rfl ?_
      refine c_aald 29 65 hR (c := 1) 6 (by decide) (show _ = q from rfl) (show cLive m 3 0 from l3) rfl (by decide) ⟨by omega, by omega⟩ (show _ = q from (hX.rl (by omega) (by omega))) dX3_hang_28 rfl (fun hl28 => ?_)
      refine c_getP 32 17 hR fl_X3_270 (by decide) (show cLive m 11 q from lr ⟨by omega, by omega⟩) (show _ = m 17 q from rfl) dX3_hang_29 rfl (fun hl29 => ?_)
      refine c_ifnull 38 35 dX3_hang_32 (by decide) rfl  (fun h32 => ?_) (fun h32 => ?_)
      · refine z_aload_n 39 dX3_hang_38 rfl rfl ?_
        refine c_getL 42 3 hR fl_X3_20 (by decide) (show cLive m 0 0 from l0) dX3_hang_39 rfl ?_
        refine z_iload_n 43 dX3_hang_42 rfl rfl ?_
        refine c_aald 44 65 hR (c := 1) 6 (by decide) (show _ = q from rfl) (show cLive m 3 0 from l3) rfl (by decide) ⟨by omega, by omega⟩ (show _ = q from (hX.rl (by omega) (by omega))) dX3_hang_43 rfl (fun hl43 => ?_)
        refine z_aload_n 45 dX3_hang_44 rfl rfl ?_
        refine c_putR 48 17 p hR rfl (show p < m 60 0 by omega) fl_X3_270 (by decide) (show cLive m 11 q from lr ⟨by omega, by omega⟩) dX3_hang_45 rfl (fun t hR => ?_)
        refine z_aload_n 49 dX3_hang_48 rfl rfl ?_
        refine z_iconst 50 dX3_hang_49 rfl ?_
        refine c_putI 53 4 hR fl_X3_67 (by decide) (show cLive m 6 p from lp ⟨by omega, by omega⟩) dX3_hang_50 rfl (fun t hR => ?_)
        refine z_aload_n 54 dX3_hang_53 rfl rfl ?_
        refine c_getI 57 2 hR fl_X3_113 (by decide) (show cLive m 6 p from lp ⟨by omega, by omega⟩) (show _ = m 2 p from rfl) dX3_hang_54 rfl ?_
        refine z_ireturn rfl dX3_hang_57 (by decide) (by decide) ?_
        refine ⟨congrArg (fun z => some (vI z)) ?_, ?_⟩
        · unfold a_hang cif free; rw [if_neg (by omega), if_neg (by omega), if_neg (by omega)]
        · have e : s_hang m q p = up2 (up2 m 17 q p) 4 p 2 := if_pos (by unfold free; omega)
          rw [e]; exact CP.of hR ((hX.up (by decide) _ _).up (by decide) _ _) eqs.rf
      · refine z_bipush 37 dX3_hang_35 rfl ⟨by decide, by decide⟩ ?_
        refine z_ireturn rfl dX3_hang_37 (by decide) (by decide) ?_
        refine ⟨congrArg (fun z => some (vI z)) ?_, ?_⟩
        · unfold a_hang cif free; rw [if_neg (by omega), if_neg (by omega), if_pos (by omega)]
        · have e : s_hang m q p = m := if_neg (by unfold free; omega)
          rw [e]; exact CP.rf hR hX
    · refine z_bipush 22 dX3_hang_20 rfl ⟨by decide, by decide⟩ ?_
      refine z_ireturn rfl dX3_hang_22 (by decide) (by decide) ?_
      refine ⟨congrArg (fun z => some (vI z)) ?_, ?_⟩
      · unfold a_hang cif free; rw [if_neg (by omega), if_pos (by omega)]
      · have e : s_hang m q p = m := if_neg (by unfold free; omega)
        rw [e]; exact CP.rf hR hX
  · refine z_bipush 12 dX3_hang_10 rfl ⟨by decide, by decide⟩ ?_
    refine z_ireturn rfl dX3_hang_12 (by decide) (by decide) ?_
    refine ⟨congrArg (fun z => some (vI z)) ?_, ?_⟩
    · unfold a_hang cif free; rw [if_pos (by omega)]
    · have e : s_hang m q p = m := if_neg (by unfold free; omega)
      rw [e]; exact CP.rf hR hX
set_option maxRecDepth 20000 in
theorem c_off {m : Nat → Int → Int} {f : Nat → Int → UInt32} {a : Nat → Int → Nat} {t : zT} (hR : CA m f a t) {q : Int} (hq : zi q) (hW : WF m f) (hX : XI m f) : zM yX3_off cX3_off 3 (some .int) 1 0 0 [vR (rf a 0 0), vI q] t (fun r t1 => r = some (vI (a_off m q)) ∧ CP (a 0 0) (s_off m q, f) t1) := by
  refine zM.of2 [(0, vR (rf a 0 0)), (1, vI q)] (by decide +kernel) rfl (Nat.le_of_ble_eq_true rfl) ?_
  obtain ⟨hq1, hq2⟩ := hq
  have hn1 := hW.n.1
  have hn2 := hW.n.2
  have h60 := hX.1.1
  have h62 := hX.1.2.1
  have h64 := hX.1.2.2
  refine z_iload_n 1 dX3_off_0 rfl rfl ?_
  refine z_callS 4 [_] la_X3_isReel ml_X3_266 sm_X3_isReel (c_isReel ⟨by omega, by omega⟩) rfl rfl (by decide) (Nat.le_of_ble_eq_true rfl) (by decide) (by decide) dX3_off_1 rfl (fun r t hq => ?_)
  obtain ⟨zr, rfl, hz4, hz5, hz6, rfl⟩ := hq
  refine z_if_ne 10 7 dX3_off_4 (by decide) rfl ⟨by omega, by omega⟩ (fun h4 => ?_) (fun h4 => ?_)
  · obtain ⟨hr1, hr2, hr3⟩ := hW.2.2.2.1 q (by omega) (by omega)
    refine z_aload_n 11 dX3_off_10 rfl rfl ?_
    refine c_getL 14 3 hR fl_X3_20 (by decide) (show cLive m 0 0 from l0) dX3_off_11 rfl ?_
    refine z_iload_n 15 dX3_off_14 rfl rfl ?_
    refine c_aald 16 65 hR (c := 1) 6 (by decide) (show _ = q from rfl) (show cLive m 3 0 from l3) rfl (by decide) ⟨by omega, by omega⟩ (show _ = q from (hX.rl (by omega) (by omega))) dX3_off_15 rfl (fun hl15 => ?_)
    refine c_getP 19 17 hR fl_X3_270 (by decide) (show cLive m 11 q from lr ⟨by omega, by omega⟩) (show _ = m 17 q from rfl) dX3_off_16 rfl (fun hl16 => ?_)
    refine z_astore_n (lv' := [(2, _), (0, _), (1, _)]) 20 dX3_off_19 rfl rfl rfl ?_
    refine z_aload_n 21 dX3_off_20 rfl rfl ?_
    refine c_ifnonnull 27 24 dX3_off_21 (by decide) rfl  (fun h21 => ?_) (fun h21 => ?_)
    · refine z_aload_n 28 dX3_off_27 rfl rfl ?_
      refine z_iload_n 29 dX3_off_28 rfl rfl ?_
      refine z_callV 32 [_] la_X3_isCutFrom ml_X3_274 im_X3_isCutFrom se_X3_isCutFrom (hR.lv 0 0 (by decide) l0).1 (hR.lv 0 0 (by decide) l0).2.1 (by decide) rfl rfl (c_isCutFrom hR ⟨by omega, by omega⟩ hW hX) rfl rfl (by decide) (Nat.le_of_ble_eq_true rfl) (by decide) (by decide) dX3_off_29 rfl (fun r t hq => ?_)
      obtain ⟨z, rfl, hy1, hy2, hy3, hR⟩ := hq
      refine z_if_eq 38 35 dX3_off_32 (by decide) rfl ⟨by omega, by omega⟩ (fun h32 => ?_) (fun h32 => ?_)
      · refine z_aload_n 39 dX3_off_38 rfl rfl ?_
        refine c_getL 42 3 hR fl_X3_20 (by decide) (show cLive m 0 0 from l0) dX3_off_39 rfl ?_
        refine z_iload_n 43 dX3_off_42 rfl rfl ?_
        refine c_aald 44 65 hR (c := 1) 6 (by decide) (show _ = q from rfl) (show cLive m 3 0 from l3) rfl (by decide) ⟨by omega, by omega⟩ (show _ = q from (hX.rl (by omega) (by omega))) dX3_off_43 rfl (fun hl43 => ?_)
        refine z_null 45 dX3_off_44 rfl ?_
        refine c_putR 48 17 (-1) hR rfl (show (-1 : Int) < m 60 0 by omega) fl_X3_270 (by decide) (show cLive m 11 q from lr ⟨by omega, by omega⟩) dX3_off_45 rfl (fun t hR => ?_)
        refine z_aload_n 49 dX3_off_48 rfl rfl ?_
        refine z_iconst 50 dX3_off_49 rfl ?_
        refine c_putI 53 4 hR fl_X3_67 (by decide) (show cLive m 6 (m 17 q) from lp ⟨by omega, by omega⟩) dX3_off_50 rfl (fun t hR => ?_)
        refine z_aload_n 54 dX3_off_53 rfl rfl ?_
        refine c_getI 57 56 hR fl_X3_60 (by decide) (show cLive m 6 (m 17 q) from lp ⟨by omega, by omega⟩) (show _ = (m 17 q) from (hX.p (by omega) (by omega)).1) dX3_off_54 rfl ?_
        refine z_ireturn rfl dX3_off_57 (by decide) (by decide) ?_
        have hnc : ¬ cutfr m q := fun h => by have := hy3.mpr h; omega
        refine ⟨congrArg (fun z => some (vI z)) ?_, ?_⟩
        · unfold a_off cif; rw [if_neg (by omega), if_neg (by omega), if_neg hnc]
        · have e : s_off m q = up2 (up2 m 17 q (-1)) 4 (m 17 q) 0 := if_pos ⟨by omega, by omega, by omega, hnc⟩
          rw [e]; exact CP.of hR ((hX.up (by decide) _ _).up (by decide) _ _) eqs.rf
      · refine z_bipush 37 dX3_off_35 rfl ⟨by decide, by decide⟩ ?_
        refine z_ireturn rfl dX3_off_37 (by decide) (by decide) ?_
        refine ⟨congrArg (fun z => some (vI z)) ?_, ?_⟩
        · unfold a_off cif; rw [if_neg (by omega), if_neg (by omega), if_pos (hy3.mp (by omega))]
        · have e : s_off m q = m := if_neg (fun hh => by obtain ⟨e1, e2, e3, e4⟩ := hh; exact e4 (hy3.mp (by omega)))
          rw [e]; exact CP.rf hR hX
    · refine z_bipush 26 dX3_off_24 rfl ⟨by decide, by decide⟩ ?_
      refine z_ireturn rfl dX3_off_26 (by decide) (by decide) ?_
      refine ⟨congrArg (fun z => some (vI z)) ?_, ?_⟩
      · unfold a_off cif; rw [if_neg (by omega), if_pos (by omega)]
      · have e : s_off m q = m := if_neg (fun hh => by obtain ⟨e1, e2, e3, e4⟩ := hh; omega)
        rw [e]; exact CP.rf hR hX
  · refine z_bipush 9 dX3_off_7 rfl ⟨by decide, by decide⟩ ?_
    refine z_ireturn rfl dX3_off_9 (by decide) (by decide) ?_
    refine ⟨congrArg (fun z => some (vI z)) ?_, ?_⟩
    · unfold a_off cif; rw [if_pos (by omega)]
    · have e : s_off m q = m := if_neg (fun hh => by obtain ⟨e1, e2, e3, e4⟩ := hh; omega)
      rw [e]; exact CP.rf hR hX
set_option maxRecDepth 20000 in
theorem c_isOfKind {m : Nat → Int → Int} {f : Nat → Int → UInt32} {a : Nat → Int → Nat} {t : zT} (hR : CA m f a t) {k : Int} (hk : zi k) {p : Int} (hW : WF m f) (hX : XI m f) (hp : 0 ≤ p ∧ p < m 0 0) (hk0 : 0 ≤ k ∧ k ≤ 5) : zM yX3_isOfKind cX3_isOfKind 4 (some .boolean) 0 0 0 [vR (rf a 6 p), vI k] t (fun r t1 => ∃ z, r = some (vI z) ∧ 0 ≤ z ∧ z ≤ 1 ∧ (z = 1 ↔ isk (m 1 p) k) ∧ CA m f a t1) := by
  refine zM.of2 [(0, vR (rf a 6 p)), (1, vI k)] (by decide +kernel) rfl (Nat.le_of_ble_eq_true rfl) ?_
  obtain ⟨hk1, hk2⟩ := hk
  have hn1 := hW.n.1
  have hn2 := hW.n.2
  have h60 := hX.1.1
  have h62 := hX.1.2.1
  have h64 := hX.1.2.2
  have hB := hW.b (p := p) (by omega) (by omega)
  have L7 : ∀ (fuel : Nat) (i w : Int) (t : zT) (hR : CA m f a t) (hi : 0 ≤ i ∧ i + (if w = -1 then 0 else if w = 0 then 1 else if w = 1 ∨ w = 4 then 2 else if w = 2 then 3 else 4) ≤ 4) (hw : -1 ≤ w ∧ w ≤ 5) (hc : isk w k ↔ isk (m 1 p) k) (hf : 6 - i < (fuel : Int)), zOK yX3_isOfKind cX3_isOfKind 4 (some .boolean) 0 0 0 (fun r t1 => ∃ z, r = some (vI z) ∧ 0 ≤ z ∧ z ≤ 1 ∧ (z = 1 ↔ isk (m 1 p) k) ∧ CA m f a t1) 0 0 7 [(3, vI i), (2, vI w), (0, vR (rf a 6 p)), (1, vI k)] [] t := by
    intro fuel
    induction fuel with
    | zero => intro i w t hR hi hw hc hf; exfalso; omega
    | succ fuel ih7 =>
      intro i w t hR hi hw hc hf
      refine z_iload_n 8 dX3_isOfKind_7 rfl rfl ?_
      refine z_bipush 10 dX3_isOfKind_8 rfl ⟨by decide, by decide⟩ ?_
      refine z_icmp_ge 42 13 dX3_isOfKind_10 (by decide) rfl ⟨by omega, by omega⟩ ⟨by omega, by omega⟩ (fun h10 => ?_) (fun h10 => ?_)
      · refine z_iconst 43 dX3_isOfKind_42 rfl ?_
        refine z_zreturn rfl (by first | exact Or.inl rfl | exact Or.inr rfl | omega) dX3_isOfKind_43 (by decide) (by decide) ?_
        refine ⟨0, rfl, by decide, by decide, ⟨fun h => by omega, fun h => ?_⟩, hR⟩
        have h2 := hc.mpr h
        unfold isk abv at h2
        omega
      · refine z_iload_n 14 dX3_isOfKind_13 rfl rfl ?_
        refine z_if_lt 42 17 dX3_isOfKind_14 (by decide) rfl ⟨by omega, by omega⟩ (fun h14 => ?_) (fun h14 => ?_)
        · refine z_iconst 43 dX3_isOfKind_42 rfl ?_
          refine z_zreturn rfl (by first | exact Or.inl rfl | exact Or.inr rfl | omega) dX3_isOfKind_43 (by decide) (by decide) ?_
          refine ⟨0, rfl, by decide, by decide, ⟨fun h => by omega, fun h => ?_⟩, hR⟩
          have h2 := hc.mpr h
          unfold isk abv at h2
          omega
        · refine z_iload_n 18 dX3_isOfKind_17 rfl rfl ?_
          refine z_bipush 20 dX3_isOfKind_18 rfl ⟨by decide, by decide⟩ ?_
          refine z_icmp_ge 42 23 dX3_isOfKind_20 (by decide) rfl ⟨by omega, by omega⟩ ⟨by omega, by omega⟩ (fun h20 => ?_) (fun h20 => ?_)
          · refine z_iconst 43 dX3_isOfKind_42 rfl ?_
            refine z_zreturn rfl (by first | exact Or.inl rfl | exact Or.inr rfl | omega) dX3_isOfKind_43 (by decide) (by decide) ?_
            refine ⟨0, rfl, by decide, by decide, ⟨fun h => by omega, fun h => ?_⟩, hR⟩
            have h2 := hc.mpr h
            unfold isk abv at h2
            omega
          · refine z_iload_n 24 dX3_isOfKind_23 rfl rfl ?_
            refine z_iload_n 25 dX3_isOfKind_24 rfl rfl ?_
            refine z_icmp_ne 30 28 dX3_isOfKind_25 (by decide) rfl ⟨by omega, by omega⟩ ⟨by omega, by omega⟩ (fun h25 => ?_) (fun h25 => ?_)
            · refine z_above (pi := .return_) (ln := 0) 35 la_above rfl ⟨by omega, by omega⟩ dX3_isOfKind_30 ⟨2, rfl, dX3_isOfKind_33⟩ dX3_isOfKind_34 rfl ?_
              refine z_istore_n (lv' := [(2, _), (3, _), (0, _), (1, _)]) 36 dX3_isOfKind_35 rfl rfl rfl ?_
              refine z_iinc (lv' := [(3, _), (2, _), (0, _), (1, _)]) 39 dX3_isOfKind_36 rfl rfl rfl rfl ?_
              refine z_goto 7 dX3_isOfKind_39 (by decide) ?_
              have hab : (if w = 0 then -1 else if w = 1 then 0 else if w = 2 then 1 else if w = 3 then 2 else if w = 4 then 0 else 2) = abv w := by unfold abv; (repeat' split) <;> omega
              rw [hab]
              refine z_sub (lv' := [(3, _), (2, _), (0, _), (1, _)]) ⟨rfl, rfl, rfl, rfl, trivial⟩ ?_
              exact ih7 _ _ _ hR (by unfold abv; omega) (by unfold abv; omega) (by rw [← hc]; unfold isk abv; omega) (by omega)
            · refine z_iconst 29 dX3_isOfKind_28 rfl ?_
              refine z_zreturn rfl (by first | exact Or.inl rfl | exact Or.inr rfl | omega) dX3_isOfKind_29 (by decide) (by decide) ?_
              exact ⟨1, rfl, by decide, by decide, ⟨fun _ => hc.mp (Or.inl (by omega)), fun _ => rfl⟩, hR⟩
  refine z_aload_n 1 dX3_isOfKind_0 rfl rfl ?_
  refine c_getI 4 1 hR fl_X3_103 (by decide) (show cLive m 6 p from lp ⟨by omega, by omega⟩) (show _ = m 1 p from rfl) dX3_isOfKind_1 rfl ?_
  refine z_istore_n (lv' := [(2, _), (0, _), (1, _)]) 5 dX3_isOfKind_4 rfl rfl rfl ?_
  refine z_iconst 6 dX3_isOfKind_5 rfl ?_
  refine z_istore_n (lv' := [(3, _), (2, _), (0, _), (1, _)]) 7 dX3_isOfKind_6 rfl rfl rfl ?_
  refine z_sub (lv' := [(3, _), (2, _), (0, _), (1, _)]) ⟨rfl, rfl, rfl, rfl, trivial⟩ ?_
  exact L7 7 _ _ _ hR (by omega) (by omega) (Iff.rfl) (by omega)
set_option maxRecDepth 20000 in
theorem c_take {m : Nat → Int → Int} {f : Nat → Int → UInt32} {a : Nat → Int → Nat} {t : zT} (hR : CA m f a t) {q : Int} (hq : zi q) {k : Int} (hk : zi k) (hW : WF m f) (hX : XI m f) : zM yX3_take cX3_take 4 (some .int) 1 0 0 [vR (rf a 0 0), vI q, vI k] t (fun r t1 => r = some (vI (a_take m q k)) ∧ CP (a 0 0) (m, f) t1) := by
  refine zM.of2 [(0, vR (rf a 0 0)), (1, vI q), (2, vI k)] (by decide +kernel) rfl (Nat.le_of_ble_eq_true rfl) ?_
  obtain ⟨hq1, hq2⟩ := hq
  obtain ⟨hk1, hk2⟩ := hk
  have hn1 := hW.n.1
  have hn2 := hW.n.2
  have h60 := hX.1.1
  have h62 := hX.1.2.1
  have h64 := hX.1.2.2
  refine z_iload_n 1 dX3_take_0 rfl rfl ?_
  refine z_if_lt 10 4 dX3_take_1 (by decide) rfl ⟨by omega, by omega⟩ (fun h1 => ?_) (fun h1 => ?_)
  · refine z_bipush 12 dX3_take_10 rfl ⟨by decide, by decide⟩ ?_
    refine z_ireturn rfl dX3_take_12 (by decide) (by decide) ?_
    refine ⟨congrArg (fun z => some (vI z)) ?_, CP.rf hR hX⟩
    unfold a_take cif; rw [if_pos (by omega)]
  · refine z_iload_n 5 dX3_take_4 rfl rfl ?_
    refine z_bipush 7 dX3_take_5 rfl ⟨by decide, by decide⟩ ?_
    refine z_icmp_lt 13 10 dX3_take_7 (by decide) rfl ⟨by omega, by omega⟩ ⟨by omega, by omega⟩ (fun h7 => ?_) (fun h7 => ?_)
    · refine z_iload_n 14 dX3_take_13 rfl rfl ?_
      refine z_callS 17 [_] la_X3_isReel ml_X3_266 sm_X3_isReel (c_isReel ⟨by omega, by omega⟩) rfl rfl (by decide) (Nat.le_of_ble_eq_true rfl) (by decide) (by decide) dX3_take_14 rfl (fun r t hq => ?_)
      obtain ⟨zr, rfl, hz4, hz5, hz6, rfl⟩ := hq
      refine z_if_ne 23 20 dX3_take_17 (by decide) rfl ⟨by omega, by omega⟩ (fun h17 => ?_) (fun h17 => ?_)
      · obtain ⟨hr1, hr2, hr3⟩ := hW.2.2.2.1 q (by omega) (by omega)
        refine z_aload_n 24 dX3_take_23 rfl rfl ?_
        refine c_getL 27 3 hR fl_X3_20 (by decide) (show cLive m 0 0 from l0) dX3_take_24 rfl ?_
        refine z_iload_n 28 dX3_take_27 rfl rfl ?_
        refine c_aald 29 65 hR (c := 1) 6 (by decide) (show _ = q from rfl) (show cLive m 3 0 from l3) rfl (by decide) ⟨by omega, by omega⟩ (show _ = q from (hX.rl (by omega) (by omega))) dX3_take_28 rfl (fun hl28 => ?_)
        refine c_getP 32 17 hR fl_X3_270 (by decide) (show cLive m 11 q from lr ⟨by omega, by omega⟩) (show _ = m 17 q from rfl) dX3_take_29 rfl (fun hl29 => ?_)
        refine z_astore_n (lv' := [(3, _), (0, _), (1, _), (2, _)]) 33 dX3_take_32 rfl rfl rfl ?_
        refine z_aload_n 34 dX3_take_33 rfl rfl ?_
        refine c_ifnonnull 40 37 dX3_take_34 (by decide) rfl  (fun h34 => ?_) (fun h34 => ?_)
        · refine z_aload_n 41 dX3_take_40 rfl rfl ?_
          refine z_iload_n 42 dX3_take_41 rfl rfl ?_
          refine z_callS 45 [_, _] la_X3_isOfKind ml_X3_277 sm_X3_isOfKind (c_isOfKind hR ⟨by omega, by omega⟩ hW hX ⟨by omega, by omega⟩ ⟨by omega, by omega⟩) rfl rfl (by decide) (Nat.le_of_ble_eq_true rfl) (by decide) (by decide) dX3_take_42 rfl (fun r t hq => ?_)
          obtain ⟨z, rfl, hy1, hy2, hy3, hR⟩ := hq
          refine z_if_eq 55 48 dX3_take_45 (by decide) rfl ⟨by omega, by omega⟩ (fun h45 => ?_) (fun h45 => ?_)
          · refine z_bipush 57 dX3_take_55 rfl ⟨by decide, by decide⟩ ?_
            refine z_ireturn rfl dX3_take_57 (by decide) (by decide) ?_
            refine ⟨congrArg (fun z => some (vI z)) ?_, CP.rf hR hX⟩
            unfold a_take cif; rw [if_neg (by omega), if_neg (by omega), if_neg (by omega)]; simp only [← hy3]; first | rw [if_pos (by omega)] | rw [if_neg (by omega)]
          · refine z_aload_n 49 dX3_take_48 rfl rfl ?_
            refine c_getI 52 56 hR fl_X3_60 (by decide) (show cLive m 6 (m 17 q) from lp ⟨by omega, by omega⟩) (show _ = (m 17 q) from (hX.p (by omega) (by omega)).1) dX3_take_49 rfl ?_
            refine z_goto 57 dX3_take_52 (by decide) ?_
            refine z_ireturn rfl dX3_take_57 (by decide) (by decide) ?_
            refine ⟨congrArg (fun z => some (vI z)) ?_, CP.rf hR hX⟩
            unfold a_take cif; rw [if_neg (by omega), if_neg (by omega), if_neg (by omega)]; simp only [← hy3]; first | rw [if_pos (by omega)] | rw [if_neg (by omega)]
        · refine z_bipush 39 dX3_take_37 rfl ⟨by decide, by decide⟩ ?_
          refine z_ireturn rfl dX3_take_39 (by decide) (by decide) ?_
          refine ⟨congrArg (fun z => some (vI z)) ?_, CP.rf hR hX⟩
          unfold a_take cif; rw [if_neg (by omega), if_neg (by omega), if_pos (by omega)]
      · refine z_bipush 22 dX3_take_20 rfl ⟨by decide, by decide⟩ ?_
        refine z_ireturn rfl dX3_take_22 (by decide) (by decide) ?_
        refine ⟨congrArg (fun z => some (vI z)) ?_, CP.rf hR hX⟩
        unfold a_take cif; rw [if_neg (by omega), if_pos (by omega)]
    · refine z_bipush 12 dX3_take_10 rfl ⟨by decide, by decide⟩ ?_
      refine z_ireturn rfl dX3_take_12 (by decide) (by decide) ?_
      refine ⟨congrArg (fun z => some (vI z)) ?_, CP.rf hR hX⟩
      unfold a_take cif; rw [if_pos (by omega)]
