theorem lay_steady {m : Nat → Int → Int} {f : Nat → Int → UInt32} (hW : WF m f) {p k w s0 : Int} (hp : live m p) (hk : 0 ≤ k ∧ k < m 6 p) (hw : 0 ≤ w ∧ w < m 2 p) (h5 : m 1 p ≠ 5) (hs : steady m f (m 7 (9 * p + k)) (plc m p k w) s0) :
    w < (s0 * m 2 p + m 2 (m 7 (9 * p + k)) - 1) / m 2 (m 7 (9 * p + k)) ∧ (s0 * m 2 p + m 2 (m 7 (9 * p + k)) - 1) / m 2 (m 7 (9 * p + k)) ≤ 5000000 ∧ steadk m f p k w ((s0 * m 2 p + m 2 (m 7 (9 * p + k)) - 1) / m 2 (m 7 (9 * p + k))) ∧ 0 ≤ s0 * m 2 p ∧ s0 * m 2 p ≤ 4000000 := by
  obtain ⟨s1, s2, s3⟩ := hs
  have hpk := live_part hW hp hk.1 hk.2
  have hb := hW.b hpk.1.1 hpk.1.2.1
  have hB := hW.b hp.1 hp.2.1
  have pw : ∀ y, plc m p k y = y * m 2 (m 7 (9 * p + k)) / m 2 p := fun y => by unfold plc; rw [if_neg h5]
  have h0 := plc_n5 hW hp.1 hp.2.1 hk.1 hk.2 hw.1 hw.2 h5
  generalize m 2 (m 7 (9 * p + k)) = l at *
  generalize m 2 p = L at *
  have hsL : s0 * L ≤ 2000 * 2000 := Int.mul_le_mul (by omega) (by omega) (by omega) (by decide)
  have hsL0 : 0 ≤ s0 * L := Int.mul_nonneg (by omega) (by omega)
  have hd : (s0 * L + l - 1) / l ≤ 5000000 := by
    have := Int.ediv_le_self l (show 0 ≤ s0 * L + l - 1 by omega)
    omega
  have hwl : w * l < s0 * L := by
    have h1 : w * l / L < s0 := by rw [← pw]; exact s1
    exact Int.lt_mul_of_ediv_lt (by omega) h1
  have hw2 : w < (s0 * L + l - 1) / l := by
    have h1 : w + 1 ≤ (s0 * L + l - 1) / l := Int.le_ediv_of_mul_le (by omega) (by rw [Int.add_mul]; omega)
    omega
  refine ⟨hw2, hd, fun y y0 y1 y2 => ?_, hsL0, by omega⟩
  have hyl : y * l < s0 * L := by
    have h1 : y + 1 ≤ (s0 * L + l - 1) / l := by omega
    have h2 := Int.mul_le_of_le_ediv (show 0 < l by omega) h1
    rw [Int.add_mul] at h2
    omega
  have hy1 : plc m p k y < s0 := by rw [pw]; exact Int.ediv_lt_of_lt_mul (by omega) (by exact hyl)
  have hy0 : plc m p k w ≤ plc m p k y := by rw [pw, pw]; exact Int.ediv_le_ediv (by omega) (Int.mul_le_mul_of_nonneg_right y0 (by omega))
  exact ⟨⟨fun h => by omega, fun h => by omega⟩, fun _ => s3 _ hy0 hy1⟩
set_option maxRecDepth 20000 in
theorem c_laidSteadyTo {m : Nat → Int → Int} {f : Nat → Int → UInt32} {a : Nat → Int → Nat} {t : zT} (hR : CA m f a t) {N : Nat} {p k w dp : Int} (hW : WF m f) (hX : XI m f) (hp : live m p) (hw : 0 ≤ w ∧ w < m 2 p) (hd : 0 ≤ dp ∧ dp + hgt m p ≤ 40) (hg : hgt m p < N + 1) (hk : 0 ≤ k ∧ k < m 6 p) (h5 : m 1 p ≠ 5) (IH : ∀ (q z e : Int) (t : zT), CA m f a t → live m q → hgt m q < N → 0 ≤ z → z < m 2 q → 0 ≤ e → e + hgt m q ≤ 40 → zM yX3_steadyTo cX3_steadyTo 6 (some .int) (2 * N + 2) 0 0 [vR (rf a 6 q), vI z, vI e] t (fun r t1 => ∃ s, r = some (vI s) ∧ steady m f q z s ∧ CA m f a t1)) : zM yX3_laidSteadyTo cX3_laidSteadyTo 6 (some .int) (2 * N + 3) 0 0 [vR (rf a 6 p), vI k, vI w, vI dp] t (fun r t1 => ∃ s, r = some (vI s) ∧ w < s ∧ s ≤ 5000000 ∧ steadk m f p k w s ∧ CA m f a t1) := by
  refine zM.of2 [(0, vR (rf a 6 p)), (1, vI k), (2, vI w), (3, vI dp)] (by decide +kernel) rfl (Nat.le_of_ble_eq_true rfl) ?_
  have hn1 := hW.n.1
  have hn2 := hW.n.2
  have h60 := hX.1.1
  have h62 := hX.1.2.1
  have h64 := hX.1.2.2
  obtain ⟨hp1, hp2, hp3⟩ := id hp
  have hB := hW.b hp1 hp2
  have hNU := B_nums hW hp hw.1 hw.2
  have hpk := live_part hW hp (k := k) hk.1 hk.2
  obtain ⟨⟨hq1, hq2, hq3⟩, hq4⟩ := id hpk
  have hgk := hgt_part hW hp1 hp2 (k := k) hk.1 hk.2
  have hBk := hW.b hq1 hq2
  have hpb := plc_b hW hp1 hp2 (k := k) hk.1 hk.2 hw.1 hw.2
  have hp0 := plc_n5 hW hp1 hp2 hk.1 hk.2 hw.1 hw.2 h5
  have hpe : w * m 2 (m 7 (9 * p + k)) / m 2 p = plc m p k w := by unfold plc; rw [if_neg h5]
  refine z_aload_n 1 dX3_laidSteadyTo_0 rfl rfl ?_
  refine c_getL 4 7 hR fl_X3_125 (by decide) (show cLive m 6 p from lp ⟨by omega, by omega⟩) dX3_laidSteadyTo_1 rfl ?_
  refine z_iload_n 5 dX3_laidSteadyTo_4 rfl rfl ?_
  refine c_aald 6 7 hR (c := 9) (m 6 p).toNat (by decide) (show _ = 9 * p + k from rfl) (show cLive m 7 p from lp ⟨by omega, by omega⟩) rfl (by omega) ⟨by omega, by omega⟩ (show _ = m 7 (9 * p + k) from rfl) dX3_laidSteadyTo_5 rfl (fun hl5 => ?_)
  refine z_astore (lv' := [(4, _), (0, _), (1, _), (2, _), (3, _)]) 8 dX3_laidSteadyTo_6 rfl rfl rfl ?_
  refine z_aload 10 dX3_laidSteadyTo_8 rfl rfl ?_
  refine c_ifnull 22 13 dX3_laidSteadyTo_10 (by decide) rfl  (fun h10 => ?_) (fun h10 => ?_)
  · exfalso; omega
  refine z_aload 15 dX3_laidSteadyTo_13 rfl rfl ?_
  refine c_getI 18 2 hR fl_X3_113 (by decide) (show cLive m 6 (m 7 (9 * p + k)) from lp ⟨by omega, by omega⟩) (show _ = m 2 (m 7 (9 * p + k)) from rfl) dX3_laidSteadyTo_15 rfl ?_
  refine z_iconst 19 dX3_laidSteadyTo_18 rfl ?_
  refine z_icmp_ge 26 22 dX3_laidSteadyTo_19 (by decide) rfl ⟨by omega, by omega⟩ ⟨by omega, by omega⟩ (fun h19 => ?_) (fun h19 => ?_)
  rotate_left
  · exfalso; omega
  refine z_aload 28 dX3_laidSteadyTo_26 rfl rfl ?_
  refine z_aload 30 dX3_laidSteadyTo_28 rfl rfl ?_
  refine z_aload_n 31 dX3_laidSteadyTo_30 rfl rfl ?_
  refine z_iload_n 32 dX3_laidSteadyTo_31 rfl rfl ?_
  refine z_callS 35 [_, _, _] la_X3_placeOn ml_X3_188 sm_X3_placeOn (c_placeOn hR hW hX ⟨hq1, hq2⟩ ⟨hp1, hp2⟩ ⟨by omega, by omega⟩) rfl rfl (by omega) (Nat.le_of_ble_eq_true rfl) (by decide) (by decide) dX3_laidSteadyTo_32 rfl (fun r t hq => ?_)
  obtain ⟨rfl, hR⟩ := hq
  rw [hpe]
  refine z_iload_n 36 dX3_laidSteadyTo_35 rfl rfl ?_
  refine z_iconst 37 dX3_laidSteadyTo_36 rfl ?_
  refine z_iadd 38 dX3_laidSteadyTo_37 rfl ?_
  refine z_callS 41 [_, _, _] la_X3_steadyTo ml_X3_213 sm_X3_steadyTo (IH _ _ _ _ hR hpk.1 (by omega) hp0 (by omega) (by omega) (by omega)) rfl rfl (by omega) (Nat.le_of_ble_eq_true rfl) (by decide) (by decide) dX3_laidSteadyTo_38 rfl (fun r t hq => ?_)
  obtain ⟨s0, rfl, hst, hR⟩ := hq
  obtain ⟨ls1, ls2, ls3, ls4, ls5⟩ := lay_steady hW hp hk hw h5 hst
  refine z_istore (lv' := [(5, _), (4, _), (0, _), (1, _), (2, _), (3, _)]) 43 dX3_laidSteadyTo_41 rfl rfl rfl ?_
  refine z_iload 45 dX3_laidSteadyTo_43 rfl rfl ?_
  refine z_aload_n 46 dX3_laidSteadyTo_45 rfl rfl ?_
  refine c_getI 49 2 hR fl_X3_113 (by decide) (show cLive m 6 p from lp ⟨by omega, by omega⟩) (show _ = m 2 p from rfl) dX3_laidSteadyTo_46 rfl ?_
  refine z_imul 50 dX3_laidSteadyTo_49 rfl ?_
  refine z_aload 52 dX3_laidSteadyTo_50 rfl rfl ?_
  refine c_getI 55 2 hR fl_X3_113 (by decide) (show cLive m 6 (m 7 (9 * p + k)) from lp ⟨by omega, by omega⟩) (show _ = m 2 (m 7 (9 * p + k)) from rfl) dX3_laidSteadyTo_52 rfl ?_
  refine z_iadd 56 dX3_laidSteadyTo_55 rfl ?_
  refine z_iconst 57 dX3_laidSteadyTo_56 rfl ?_
  refine z_isub 58 dX3_laidSteadyTo_57 rfl ?_
  refine z_aload 60 dX3_laidSteadyTo_58 rfl rfl ?_
  refine c_getI 63 2 hR fl_X3_113 (by decide) (show cLive m 6 (m 7 (9 * p + k)) from lp ⟨by omega, by omega⟩) (show _ = m 2 (m 7 (9 * p + k)) from rfl) dX3_laidSteadyTo_60 rfl ?_
  refine z_idiv 64 dX3_laidSteadyTo_63 rfl ⟨by omega, by omega⟩ ⟨by omega, by omega⟩ (by omega) ?_
  refine z_top (w := vI ((s0 * m 2 p + m 2 (m 7 (9 * p + k)) - 1) / m 2 (m 7 (9 * p + k)))) (congrArg vI (Int.tdiv_eq_ediv_of_nonneg (by omega))) ?_
  refine z_ireturn rfl dX3_laidSteadyTo_64 (by decide) (by decide) ?_
  exact ⟨_, rfl, ls1, ls2, ls3, hR⟩
set_option maxRecDepth 20000 in
theorem c_splicedSteadyTo {m : Nat → Int → Int} {f : Nat → Int → UInt32} {a : Nat → Int → Nat} {t : zT} (hR : CA m f a t) {N : Nat} {p k w dp : Int} (hW : WF m f) (hX : XI m f) (hp : live m p) (hw : 0 ≤ w ∧ w < m 2 p) (hd : 0 ≤ dp ∧ dp + hgt m p ≤ 40) (hg : hgt m p < N + 1) (hk : 0 ≤ k ∧ k < m 6 p) (h5 : m 1 p = 5) (IH : ∀ (q z e : Int) (t : zT), CA m f a t → live m q → hgt m q < N → 0 ≤ z → z < m 2 q → 0 ≤ e → e + hgt m q ≤ 40 → zM yX3_steadyTo cX3_steadyTo 6 (some .int) (2 * N + 2) 0 0 [vR (rf a 6 q), vI z, vI e] t (fun r t1 => ∃ s, r = some (vI s) ∧ steady m f q z s ∧ CA m f a t1)) : zM yX3_splicedSteadyTo cX3_splicedSteadyTo 6 (some .int) (2 * N + 3) 0 0 [vR (rf a 6 p), vI k, vI w, vI dp] t (fun r t1 => ∃ s, r = some (vI s) ∧ w < s ∧ s ≤ 5000000 ∧ steadk m f p k w s ∧ CA m f a t1) := by
  refine zM.of2 [(0, vR (rf a 6 p)), (1, vI k), (2, vI w), (3, vI dp)] (by decide +kernel) rfl (Nat.le_of_ble_eq_true rfl) ?_
  have hn1 := hW.n.1
  have hn2 := hW.n.2
  have h60 := hX.1.1
  have h62 := hX.1.2.1
  have h64 := hX.1.2.2
  obtain ⟨hp1, hp2, hp3⟩ := id hp
  have hB := hW.b hp1 hp2
  have hNU := B_nums hW hp hw.1 hw.2
  have h62 := (hW.parts p hp1 hp2).2 h5
  have hpk := live_part hW hp (k := k) hk.1 hk.2
  obtain ⟨⟨hq1, hq2, hq3⟩, hq4⟩ := id hpk
  have hgk := hgt_part hW hp1 hp2 (k := k) hk.1 hk.2
  have hBk := hW.b hq1 hq2
  have hpb := plc_b hW hp1 hp2 (k := k) hk.1 hk.2 hw.1 hw.2
  have h55 := (hX.p hp1 hp2).2.2.2.2.1 h5
  have hpe := fun y => plc_at (m := m) (p := p) (k := k) (y := y) (F := (if k = 0 then 0 else m 55 p)) h5 (by rw [h55])
  have hF2 : 0 ≤ (if k = 0 then 0 else m 55 p) ∧ (if k = 0 then 0 else m 55 p) + m 2 (m 7 (9 * p + k)) ≤ m 2 p := by
    obtain ⟨-, -, z1, z2, z3, z4⟩ := (hW.2.1 p hp1 hp2).2.2.2.2.2.2.2.2.2.2 h5
    have hk01 : k = 0 ∨ k = 1 := by omega
    rcases hk01 with rfl | rfl
    · rw [Int.add_zero, if_pos rfl]; have y1 := live_part hW hp (k := 1) (by omega) (by omega); have y2 := hW.b y1.1.1 y1.1.2.1; omega
    · rw [if_neg (by decide), h55]; omega
  refine z_aload_n 1 dX3_splicedSteadyTo_0 rfl rfl ?_
  refine c_getL 4 7 hR fl_X3_125 (by decide) (show cLive m 6 p from lp ⟨by omega, by omega⟩) dX3_splicedSteadyTo_1 rfl ?_
  refine z_iload_n 5 dX3_splicedSteadyTo_4 rfl rfl ?_
  refine c_aald 6 7 hR (c := 9) (m 6 p).toNat (by decide) (show _ = 9 * p + k from rfl) (show cLive m 7 p from lp ⟨by omega, by omega⟩) rfl (by omega) ⟨by omega, by omega⟩ (show _ = m 7 (9 * p + k) from rfl) dX3_splicedSteadyTo_5 rfl (fun hl5 => ?_)
  refine z_astore (lv' := [(4, _), (0, _), (1, _), (2, _), (3, _)]) 8 dX3_splicedSteadyTo_6 rfl rfl rfl ?_
  refine z_aload 10 dX3_splicedSteadyTo_8 rfl rfl ?_
  refine c_ifnonnull 17 13 dX3_splicedSteadyTo_10 (by decide) rfl  (fun h10 => ?_) (fun h10 => ?_)
  rotate_left
  · exfalso; omega
  refine z_aload_n 18 dX3_splicedSteadyTo_17 rfl rfl ?_
  refine z_iload_n 19 dX3_splicedSteadyTo_18 rfl rfl ?_
  refine z_callS 22 [_, _] la_X3_splicedFrom ml_X3_198 sm_X3_splicedFrom (c_splicedFrom hR hW hX ⟨hp1, hp2⟩ ⟨by omega, by omega⟩) rfl rfl (by omega) (Nat.le_of_ble_eq_true rfl) (by decide) (by decide) dX3_splicedSteadyTo_19 rfl (fun r t hq => ?_)
  obtain ⟨rfl, hR⟩ := hq
  generalize (if k = 0 then 0 else m 55 p) = A at *
  refine z_istore (lv' := [(5, _), (4, _), (0, _), (1, _), (2, _), (3, _)]) 24 dX3_splicedSteadyTo_22 rfl rfl rfl ?_
  refine z_iload_n 25 dX3_splicedSteadyTo_24 rfl rfl ?_
  refine z_iload 27 dX3_splicedSteadyTo_25 rfl rfl ?_
  refine z_icmp_ge 33 30 dX3_splicedSteadyTo_27 (by decide) rfl ⟨by omega, by omega⟩ ⟨by omega, by omega⟩ (fun h27 => ?_) (fun h27 => ?_)
  · refine z_iload_n 34 dX3_splicedSteadyTo_33 rfl rfl ?_
    refine z_iload 36 dX3_splicedSteadyTo_34 rfl rfl ?_
    refine z_isub 37 dX3_splicedSteadyTo_36 rfl ?_
    refine z_aload 39 dX3_splicedSteadyTo_37 rfl rfl ?_
    refine c_getI 42 2 hR fl_X3_113 (by decide) (show cLive m 6 (m 7 (9 * p + k)) from lp ⟨by omega, by omega⟩) (show _ = m 2 (m 7 (9 * p + k)) from rfl) dX3_splicedSteadyTo_39 rfl ?_
    refine z_icmp_lt 50 45 dX3_splicedSteadyTo_42 (by decide) rfl ⟨by omega, by omega⟩ ⟨by omega, by omega⟩ (fun h42 => ?_) (fun h42 => ?_)
    · refine z_iload 52 dX3_splicedSteadyTo_50 rfl rfl ?_
      refine z_aload 54 dX3_splicedSteadyTo_52 rfl rfl ?_
      refine z_iload_n 55 dX3_splicedSteadyTo_54 rfl rfl ?_
      refine z_iload 57 dX3_splicedSteadyTo_55 rfl rfl ?_
      refine z_isub 58 dX3_splicedSteadyTo_57 rfl ?_
      refine z_iload_n 59 dX3_splicedSteadyTo_58 rfl rfl ?_
      refine z_iconst 60 dX3_splicedSteadyTo_59 rfl ?_
      refine z_iadd 61 dX3_splicedSteadyTo_60 rfl ?_
      refine z_callS 64 [_, _, _] la_X3_steadyTo ml_X3_213 sm_X3_steadyTo (IH _ _ _ _ hR hpk.1 (by omega) (by omega) (by omega) (by omega) (by omega)) rfl rfl (by omega) (Nat.le_of_ble_eq_true rfl) (by decide) (by decide) dX3_splicedSteadyTo_61 rfl (fun r t hq => ?_)
      obtain ⟨s0, rfl, ⟨st1, st2, st3⟩, hR⟩ := hq
      refine z_iadd 65 dX3_splicedSteadyTo_64 rfl ?_
      refine z_ireturn rfl dX3_splicedSteadyTo_65 (by decide) (by decide) ?_
      refine ⟨_, rfl, by omega, by omega, fun y y0 y1 y2 => ?_, hR⟩
      have e1 : plc m p k y = y - A := by rw [hpe, if_pos (by omega)]
      have e2 : plc m p k w = w - A := by rw [hpe, if_pos (by omega)]
      rw [e1, e2]
      exact ⟨⟨fun h => by omega, fun h => by omega⟩, fun _ => st3 _ (by omega) (by omega)⟩
    · refine z_aload_n 46 dX3_splicedSteadyTo_45 rfl rfl ?_
      refine c_getI 49 2 hR fl_X3_113 (by decide) (show cLive m 6 p from lp ⟨by omega, by omega⟩) (show _ = m 2 p from rfl) dX3_splicedSteadyTo_46 rfl ?_
      refine z_ireturn rfl dX3_splicedSteadyTo_49 (by decide) (by decide) ?_
      refine ⟨_, rfl, by omega, by omega, fun y y0 y1 y2 => ?_, hR⟩
      have e1 : plc m p k y = -1 := by rw [hpe, if_neg (by omega)]
      have e2 : plc m p k w = -1 := by rw [hpe, if_neg (by omega)]
      rw [e1, e2]
      exact ⟨Iff.rfl, fun h => by omega⟩
  · refine z_iload 32 dX3_splicedSteadyTo_30 rfl rfl ?_
    refine z_ireturn rfl dX3_splicedSteadyTo_32 (by decide) (by decide) ?_
    refine ⟨_, rfl, by omega, by omega, fun y y0 y1 y2 => ?_, hR⟩
    have e1 : plc m p k y = -1 := by rw [hpe, if_neg (by omega)]
    have e2 : plc m p k w = -1 := by rw [hpe, if_neg (by omega)]
    rw [e1, e2]
    exact ⟨Iff.rfl, fun h => by omega⟩
set_option maxRecDepth 20000 in
theorem c_rowSteadyTo {m : Nat → Int → Int} {f : Nat → Int → UInt32} {a : Nat → Int → Nat} {t : zT} (hR : CA m f a t) {p w mo : Int} (hW : WF m f) (hX : XI m f) (hp : live m p) (hw : 0 ≤ w ∧ w < mo) (hm : mo ≤ m 2 p) : zM yX3_rowSteadyTo cX3_rowSteadyTo 5 (some .int) 1 0 0 [vR (rf a 6 p), vI w, vI mo] t (fun r t1 => ∃ s, r = some (vI s) ∧ w < s ∧ s ≤ mo ∧ steadr m p w s (m 10 p) ∧ CA m f a t1) := by
  refine zM.of2 [(0, vR (rf a 6 p)), (1, vI w), (2, vI mo)] (by decide +kernel) rfl (Nat.le_of_ble_eq_true rfl) ?_
  have hn1 := hW.n.1
  have hn2 := hW.n.2
  have h60 := hX.1.1
  have h62 := hX.1.2.1
  have h64 := hX.1.2.2
  obtain ⟨hp1, hp2, hp3⟩ := id hp
  have hB := hW.b hp1 hp2
  have L5 : ∀ (fuel : Nat) (k u : Int) (t : zT) (hR : CA m f a t) (hk : 0 ≤ k ∧ (k ≤ m 10 p ∨ k = 0)) (hu : w < u ∧ u ≤ mo) (hsd : steadr m p w u k) (hf : 8 - k < (fuel : Int)), zOK yX3_rowSteadyTo cX3_rowSteadyTo 5 (some .int) 1 0 0 (fun r t1 => ∃ s, r = some (vI s) ∧ w < s ∧ s ≤ mo ∧ steadr m p w s (m 10 p) ∧ CA m f a t1) 0 0 5 [(4, vI k), (3, vI u), (0, vR (rf a 6 p)), (1, vI w)] [] t := by
    intro fuel
    induction fuel with
    | zero => intro k u t hR hk hu hsd hf; exfalso; omega
    | succ fuel ih5 =>
      intro k u t hR hk hu hsd hf
      refine z_iload 7 dX3_rowSteadyTo_5 rfl rfl ?_
      refine z_aload_n 8 dX3_rowSteadyTo_7 rfl rfl ?_
      refine c_getI 11 10 hR fl_X3_137 (by decide) (show cLive m 6 p from lp ⟨by omega, by omega⟩) (show _ = m 10 p from rfl) dX3_rowSteadyTo_8 rfl ?_
      refine z_icmp_ge 105 14 dX3_rowSteadyTo_11 (by decide) rfl ⟨by omega, by omega⟩ ⟨by omega, by omega⟩ (fun h11 => ?_) (fun h11 => ?_)
      · refine z_iload_n 106 dX3_rowSteadyTo_105 rfl rfl ?_
        refine z_ireturn rfl dX3_rowSteadyTo_106 (by decide) (by decide) ?_
        exact ⟨u, rfl, hu.1, hu.2, fun y y0 y1 i i0 i1 => hsd y y0 y1 i i0 (by omega), hR⟩
      · refine z_iload 16 dX3_rowSteadyTo_14 rfl rfl ?_
        refine z_bipush 18 dX3_rowSteadyTo_16 rfl ⟨by decide, by decide⟩ ?_
        refine z_icmp_ge 105 21 dX3_rowSteadyTo_18 (by decide) rfl ⟨by omega, by omega⟩ ⟨by omega, by omega⟩ (fun h18 => ?_) (fun h18 => ?_)
        · refine z_iload_n 106 dX3_rowSteadyTo_105 rfl rfl ?_
          refine z_ireturn rfl dX3_rowSteadyTo_106 (by decide) (by decide) ?_
          exact ⟨u, rfl, hu.1, hu.2, fun y y0 y1 i i0 i1 => hsd y y0 y1 i i0 (by omega), hR⟩
        · obtain ⟨hs1, hs2, hs3, hs4⟩ := (hX.p hp1 hp2).2.2.2.2.2 k (by omega) (by omega)
          have hs5 := fun h => (hs4 h).1
          have hs6 := fun h => (hs4 h).2.1
          clear hs4
          obtain ⟨hq1, hq2, hq3, hq4, hq5, hq6, -⟩ := (hW.2.1 p hp1 hp2).2.2.2.2.2.1 k (by omega) (by omega)
          refine z_aload_n 22 dX3_rowSteadyTo_21 rfl rfl ?_
          refine c_getL 25 10 hR fl_X3_155 (by decide) (show cLive m 6 p from lp ⟨by omega, by omega⟩) dX3_rowSteadyTo_22 rfl ?_
          refine z_iload 27 dX3_rowSteadyTo_25 rfl rfl ?_
          refine c_iald 28 54 hR (c := 8) 8 (by decide) (show _ = 8 * p + k from rfl) (show cLive m 10 p from lp ⟨by omega, by omega⟩) rfl rfl ⟨by omega, by omega⟩ (show _ = m 54 (8 * p + k) from rfl) dX3_rowSteadyTo_27 rfl ?_
          refine z_if_lt 99 31 dX3_rowSteadyTo_28 (by decide) rfl ⟨by omega, by omega⟩ (fun h28 => ?_) (fun h28 => ?_)
          · refine z_iinc (lv' := [(4, _), (3, _), (0, _), (1, _)]) 102 dX3_rowSteadyTo_99 rfl rfl rfl rfl ?_
            refine z_goto 5 dX3_rowSteadyTo_102 (by decide) ?_
            refine z_sub (lv' := [(4, _), (3, _), (0, _), (1, _)]) ⟨rfl, rfl, rfl, rfl, trivial⟩ ?_
            exact ih5 (k + 1) _ _ hR (by omega) (by omega) (fun y y0 y1 i i0 i1 htl => by by_cases e : i = k; (subst e; have g1 := hs5 htl; have g2 := hs6 htl; have g3 := hs3.mp htl; omega); exact hsd y y0 (by omega) i i0 (by omega) htl) (by omega)
          · refine z_aload_n 32 dX3_rowSteadyTo_31 rfl rfl ?_
            refine c_getL 35 8 hR fl_X3_158 (by decide) (show cLive m 6 p from lp ⟨by omega, by omega⟩) dX3_rowSteadyTo_32 rfl ?_
            refine z_iload 37 dX3_rowSteadyTo_35 rfl rfl ?_
            refine c_iald 38 52 hR (c := 8) 8 (by decide) (show _ = 8 * p + k from rfl) (show cLive m 8 p from lp ⟨by omega, by omega⟩) rfl rfl ⟨by omega, by omega⟩ (show _ = m 52 (8 * p + k) from rfl) dX3_rowSteadyTo_37 rfl ?_
            refine z_aload_n 39 dX3_rowSteadyTo_38 rfl rfl ?_
            refine c_getL 42 9 hR fl_X3_161 (by decide) (show cLive m 6 p from lp ⟨by omega, by omega⟩) dX3_rowSteadyTo_39 rfl ?_
            refine z_iload 44 dX3_rowSteadyTo_42 rfl rfl ?_
            refine c_iald 45 53 hR (c := 8) 8 (by decide) (show _ = 8 * p + k from rfl) (show cLive m 9 p from lp ⟨by omega, by omega⟩) rfl rfl ⟨by omega, by omega⟩ (show _ = m 53 (8 * p + k) from rfl) dX3_rowSteadyTo_44 rfl ?_
            refine z_icmp_gt 99 48 dX3_rowSteadyTo_45 (by decide) rfl ⟨by omega, by omega⟩ ⟨by omega, by omega⟩ (fun h45 => ?_) (fun h45 => ?_)
            · refine z_iinc (lv' := [(4, _), (3, _), (0, _), (1, _)]) 102 dX3_rowSteadyTo_99 rfl rfl rfl rfl ?_
              refine z_goto 5 dX3_rowSteadyTo_102 (by decide) ?_
              refine z_sub (lv' := [(4, _), (3, _), (0, _), (1, _)]) ⟨rfl, rfl, rfl, rfl, trivial⟩ ?_
              exact ih5 (k + 1) _ _ hR (by omega) (by omega) (fun y y0 y1 i i0 i1 htl => by by_cases e : i = k; (subst e; have g1 := hs5 htl; have g2 := hs6 htl; have g3 := hs3.mp htl; omega); exact hsd y y0 (by omega) i i0 (by omega) htl) (by omega)
            · refine z_iload_n 49 dX3_rowSteadyTo_48 rfl rfl ?_
              refine z_aload_n 50 dX3_rowSteadyTo_49 rfl rfl ?_
              refine c_getL 53 8 hR fl_X3_158 (by decide) (show cLive m 6 p from lp ⟨by omega, by omega⟩) dX3_rowSteadyTo_50 rfl ?_
              refine z_iload 55 dX3_rowSteadyTo_53 rfl rfl ?_
              refine c_iald 56 52 hR (c := 8) 8 (by decide) (show _ = 8 * p + k from rfl) (show cLive m 8 p from lp ⟨by omega, by omega⟩) rfl rfl ⟨by omega, by omega⟩ (show _ = m 52 (8 * p + k) from rfl) dX3_rowSteadyTo_55 rfl ?_
              refine z_icmp_ge 74 59 dX3_rowSteadyTo_56 (by decide) rfl ⟨by omega, by omega⟩ ⟨by omega, by omega⟩ (fun h56 => ?_) (fun h56 => ?_)
              · refine z_iload_n 75 dX3_rowSteadyTo_74 rfl rfl ?_
                refine z_aload_n 76 dX3_rowSteadyTo_75 rfl rfl ?_
                refine c_getL 79 9 hR fl_X3_161 (by decide) (show cLive m 6 p from lp ⟨by omega, by omega⟩) dX3_rowSteadyTo_76 rfl ?_
                refine z_iload 81 dX3_rowSteadyTo_79 rfl rfl ?_
                refine c_iald 82 53 hR (c := 8) 8 (by decide) (show _ = 8 * p + k from rfl) (show cLive m 9 p from lp ⟨by omega, by omega⟩) rfl rfl ⟨by omega, by omega⟩ (show _ = m 53 (8 * p + k) from rfl) dX3_rowSteadyTo_81 rfl ?_
                refine z_icmp_gt 99 85 dX3_rowSteadyTo_82 (by decide) rfl ⟨by omega, by omega⟩ ⟨by omega, by omega⟩ (fun h82 => ?_) (fun h82 => ?_)
                · refine z_iinc (lv' := [(4, _), (3, _), (0, _), (1, _)]) 102 dX3_rowSteadyTo_99 rfl rfl rfl rfl ?_
                  refine z_goto 5 dX3_rowSteadyTo_102 (by decide) ?_
                  refine z_sub (lv' := [(4, _), (3, _), (0, _), (1, _)]) ⟨rfl, rfl, rfl, rfl, trivial⟩ ?_
                  exact ih5 (k + 1) _ _ hR (by omega) (by omega) (fun y y0 y1 i i0 i1 htl => by by_cases e : i = k; (subst e; have g1 := hs5 htl; have g2 := hs6 htl; have g3 := hs3.mp htl; omega); exact hsd y y0 (by omega) i i0 (by omega) htl) (by omega)
                · refine z_iload_n 86 dX3_rowSteadyTo_85 rfl rfl ?_
                  refine z_aload_n 87 dX3_rowSteadyTo_86 rfl rfl ?_
                  refine c_getL 90 9 hR fl_X3_161 (by decide) (show cLive m 6 p from lp ⟨by omega, by omega⟩) dX3_rowSteadyTo_87 rfl ?_
                  refine z_iload 92 dX3_rowSteadyTo_90 rfl rfl ?_
                  refine c_iald 93 53 hR (c := 8) 8 (by decide) (show _ = 8 * p + k from rfl) (show cLive m 9 p from lp ⟨by omega, by omega⟩) rfl rfl ⟨by omega, by omega⟩ (show _ = m 53 (8 * p + k) from rfl) dX3_rowSteadyTo_92 rfl ?_
                  refine z_iconst 94 dX3_rowSteadyTo_93 rfl ?_
                  refine z_iadd 95 dX3_rowSteadyTo_94 rfl ?_
                  refine z_min 98 ⟨by omega, by omega⟩ ⟨by omega, by omega⟩ ml_X3_116 la_min1 la_math la_min2 (by omega) (by decide) (by decide) (by decide) dX3_rowSteadyTo_95 rfl ?_
                  refine z_istore_n (lv' := [(3, _), (4, _), (0, _), (1, _)]) 99 dX3_rowSteadyTo_98 rfl rfl rfl ?_
                  refine z_iinc (lv' := [(4, _), (3, _), (0, _), (1, _)]) 102 dX3_rowSteadyTo_99 rfl rfl rfl rfl ?_
                  refine z_goto 5 dX3_rowSteadyTo_102 (by decide) ?_
                  refine z_sub (lv' := [(4, _), (3, _), (0, _), (1, _)]) ⟨rfl, rfl, rfl, rfl, trivial⟩ ?_
                  exact ih5 (k + 1) _ _ hR (by omega) (by omega) (fun y y0 y1 i i0 i1 htl => by by_cases e : i = k; (subst e; have g1 := hs5 htl; have g2 := hs6 htl; have g3 := hs3.mp htl; omega); exact hsd y y0 (by omega) i i0 (by omega) htl) (by omega)
              · refine z_iload_n 60 dX3_rowSteadyTo_59 rfl rfl ?_
                refine z_aload_n 61 dX3_rowSteadyTo_60 rfl rfl ?_
                refine c_getL 64 8 hR fl_X3_158 (by decide) (show cLive m 6 p from lp ⟨by omega, by omega⟩) dX3_rowSteadyTo_61 rfl ?_
                refine z_iload 66 dX3_rowSteadyTo_64 rfl rfl ?_
                refine c_iald 67 52 hR (c := 8) 8 (by decide) (show _ = 8 * p + k from rfl) (show cLive m 8 p from lp ⟨by omega, by omega⟩) rfl rfl ⟨by omega, by omega⟩ (show _ = m 52 (8 * p + k) from rfl) dX3_rowSteadyTo_66 rfl ?_
                refine z_min 70 ⟨by omega, by omega⟩ ⟨by omega, by omega⟩ ml_X3_116 la_min1 la_math la_min2 (by omega) (by decide) (by decide) (by decide) dX3_rowSteadyTo_67 rfl ?_
                refine z_istore_n (lv' := [(3, _), (4, _), (0, _), (1, _)]) 71 dX3_rowSteadyTo_70 rfl rfl rfl ?_
                refine z_goto 99 dX3_rowSteadyTo_71 (by decide) ?_
                refine z_iinc (lv' := [(4, _), (3, _), (0, _), (1, _)]) 102 dX3_rowSteadyTo_99 rfl rfl rfl rfl ?_
                refine z_goto 5 dX3_rowSteadyTo_102 (by decide) ?_
                refine z_sub (lv' := [(4, _), (3, _), (0, _), (1, _)]) ⟨rfl, rfl, rfl, rfl, trivial⟩ ?_
                exact ih5 (k + 1) _ _ hR (by omega) (by omega) (fun y y0 y1 i i0 i1 htl => by by_cases e : i = k; (subst e; have g1 := hs5 htl; have g2 := hs6 htl; have g3 := hs3.mp htl; omega); exact hsd y y0 (by omega) i i0 (by omega) htl) (by omega)
  refine z_iload_n 1 dX3_rowSteadyTo_0 rfl rfl ?_
  refine z_istore_n (lv' := [(3, _), (0, _), (1, _), (2, _)]) 2 dX3_rowSteadyTo_1 rfl rfl rfl ?_
  refine z_iconst 3 dX3_rowSteadyTo_2 rfl ?_
  refine z_istore (lv' := [(4, _), (3, _), (0, _), (1, _), (2, _)]) 5 dX3_rowSteadyTo_3 rfl rfl rfl ?_
  refine z_sub (lv' := [(4, _), (3, _), (0, _), (1, _)]) ⟨rfl, rfl, rfl, rfl, trivial⟩ ?_
  exact L5 9 0 _ _ hR (by omega) (by omega) (fun y y0 y1 i i0 i1 => by omega) (by omega)
set_option maxRecDepth 20000 in
theorem c_steadyTo_s {m : Nat → Int → Int} {f : Nat → Int → UInt32} {a : Nat → Int → Nat} {t : zT} (hR : CA m f a t) {N : Nat} {p w dp : Int} (hW : WF m f) (hX : XI m f) (hp : live m p) (hw : 0 ≤ w ∧ w < m 2 p) (hd : 0 ≤ dp ∧ dp + hgt m p ≤ 40) (hg : hgt m p < N + 1) (IH : ∀ (q z e : Int) (t : zT), CA m f a t → live m q → hgt m q < N → 0 ≤ z → z < m 2 q → 0 ≤ e → e + hgt m q ≤ 40 → zM yX3_steadyTo cX3_steadyTo 6 (some .int) (2 * N + 2) 0 0 [vR (rf a 6 q), vI z, vI e] t (fun r t1 => ∃ s, r = some (vI s) ∧ steady m f q z s ∧ CA m f a t1)) : zM yX3_steadyTo cX3_steadyTo 6 (some .int) (2 * (N + 1) + 2) 0 0 [vR (rf a 6 p), vI w, vI dp] t (fun r t1 => ∃ s, r = some (vI s) ∧ steady m f p w s ∧ CA m f a t1) := by
  refine zM.of2 [(0, vR (rf a 6 p)), (1, vI w), (2, vI dp)] (by decide +kernel) rfl (Nat.le_of_ble_eq_true rfl) ?_
  have hn1 := hW.n.1
  have hn2 := hW.n.2
  have h60 := hX.1.1
  have h62 := hX.1.2.1
  have h64 := hX.1.2.2
  obtain ⟨hp1, hp2, hp3⟩ := id hp
  have hB := hW.b hp1 hp2
  have hNU := B_nums hW hp hw.1 hw.2
  have L22 : ∀ (fuel : Nat) (k : Nat) (u : Int) (t : zT) (hR : CA m f a t) (hk : (k : Int) ≤ m 6 p) (hu : w < u ∧ u ≤ m 2 p) (hsd : ∀ j, 0 ≤ j → j < (k : Int) → steadk m f p j w u) (hf : m 6 p - k < (fuel : Int)), zOK yX3_steadyTo cX3_steadyTo 6 (some .int) (2 * (N + 1) + 2) 0 0 (fun r t1 => ∃ s, r = some (vI s) ∧ steady m f p w s ∧ CA m f a t1) 0 0 22 [(4, vI (k : Int)), (3, vI u), (0, vR (rf a 6 p)), (1, vI w), (2, vI dp)] [] t := by
    intro fuel
    induction fuel with
    | zero => intro k u t hR hk hu hsd hf; exfalso; omega
    | succ fuel ih22 =>
      intro k u t hR hk hu hsd hf
      refine z_iload 24 dX3_steadyTo_22 rfl rfl ?_
      refine z_aload_n 25 dX3_steadyTo_24 rfl rfl ?_
      refine c_getL 28 7 hR fl_X3_125 (by decide) (show cLive m 6 p from lp ⟨by omega, by omega⟩) dX3_steadyTo_25 rfl ?_
      refine c_alen 29 hR (by decide) (show cLive m 7 p from lp ⟨by omega, by omega⟩) (show _ = m 6 p from Int.toNat_of_nonneg (by omega)) dX3_steadyTo_28 rfl ?_
      refine z_icmp_ge 74 32 dX3_steadyTo_29 (by decide) rfl ⟨by omega, by omega⟩ ⟨by omega, by omega⟩ (fun h29 => ?_) (fun h29 => ?_)
      · refine z_aload_n 75 dX3_steadyTo_74 rfl rfl ?_
        refine z_iload_n 76 dX3_steadyTo_75 rfl rfl ?_
        refine z_iload_n 77 dX3_steadyTo_76 rfl rfl ?_
        refine z_callS 80 [_, _, _] la_X3_rowSteadyTo ml_X3_209 sm_X3_rowSteadyTo (c_rowSteadyTo hR hW hX hp ⟨by omega, by omega⟩ (by omega)) rfl rfl (by omega) (Nat.le_of_ble_eq_true rfl) (by decide) (by decide) dX3_steadyTo_77 rfl (fun r t hq => ?_)
        obtain ⟨s2, rfl, ht1, ht2, ht3, hR⟩ := hq
        refine z_ireturn rfl dX3_steadyTo_80 (by decide) (by decide) ?_
        refine ⟨s2, rfl, steady_of hW hp hw.1 ht1 (by omega) (fun j j0 j1 => (hsd j j0 (by omega)).mono ht2) ht3, hR⟩
      · refine z_aload_n 33 dX3_steadyTo_32 rfl rfl ?_
        refine c_getI 36 1 hR fl_X3_103 (by decide) (show cLive m 6 p from lp ⟨by omega, by omega⟩) (show _ = m 1 p from rfl) dX3_steadyTo_33 rfl ?_
        refine z_iconst 37 dX3_steadyTo_36 rfl ?_
        refine z_icmp_ne 51 40 dX3_steadyTo_37 (by decide) rfl ⟨by omega, by omega⟩ ⟨by omega, by omega⟩ (fun h37 => ?_) (fun h37 => ?_)
        · refine z_aload_n 52 dX3_steadyTo_51 rfl rfl ?_
          refine z_iload 54 dX3_steadyTo_52 rfl rfl ?_
          refine z_iload_n 55 dX3_steadyTo_54 rfl rfl ?_
          refine z_iload_n 56 dX3_steadyTo_55 rfl rfl ?_
          refine z_callS 59 [_, _, _, _] la_X3_laidSteadyTo ml_X3_206 sm_X3_laidSteadyTo (c_laidSteadyTo hR hW hX hp hw hd hg ⟨by omega, by omega⟩ (by omega) IH) rfl rfl (by omega) (Nat.le_of_ble_eq_true rfl) (by decide) (by decide) dX3_steadyTo_56 rfl (fun r t hq => ?_)
          obtain ⟨s1, rfl, hs1, hs2, hsk, hR⟩ := hq
          refine z_istore (lv' := [(5, _), (4, _), (3, _), (0, _), (1, _), (2, _)]) 61 dX3_steadyTo_59 rfl rfl rfl ?_
          refine z_iload_n 62 dX3_steadyTo_61 rfl rfl ?_
          refine z_iload 64 dX3_steadyTo_62 rfl rfl ?_
          refine z_min 67 ⟨by omega, by omega⟩ ⟨by omega, by omega⟩ ml_X3_116 la_min1 la_math la_min2 (by omega) (by decide) (by decide) (by decide) dX3_steadyTo_64 rfl ?_
          refine z_istore_n (lv' := [(3, _), (5, _), (4, _), (0, _), (1, _), (2, _)]) 68 dX3_steadyTo_67 rfl rfl rfl ?_
          refine z_iinc (lv' := [(4, _), (3, _), (5, _), (0, _), (1, _), (2, _)]) 71 dX3_steadyTo_68 rfl rfl rfl rfl ?_
          refine z_goto 22 dX3_steadyTo_71 (by decide) ?_
          refine z_sub (lv' := [(4, _), (3, _), (0, _), (1, _), (2, _)]) ⟨rfl, rfl, rfl, rfl, rfl, trivial⟩ ?_
          exact ih22 (k + 1) _ _ hR (by omega) (by omega) (fun j j0 j1 => by by_cases e : j = (k : Int); (rw [e]; exact hsk.mono (by omega)); exact (hsd j j0 (by omega)).mono (by omega)) (by omega)
        · refine z_aload_n 41 dX3_steadyTo_40 rfl rfl ?_
          refine z_iload 43 dX3_steadyTo_41 rfl rfl ?_
          refine z_iload_n 44 dX3_steadyTo_43 rfl rfl ?_
          refine z_iload_n 45 dX3_steadyTo_44 rfl rfl ?_
          refine z_callS 48 [_, _, _, _] la_X3_splicedSteadyTo ml_X3_202 sm_X3_splicedSteadyTo (c_splicedSteadyTo hR hW hX hp hw hd hg ⟨by omega, by omega⟩ (by omega) IH) rfl rfl (by omega) (Nat.le_of_ble_eq_true rfl) (by decide) (by decide) dX3_steadyTo_45 rfl (fun r t hq => ?_)
          obtain ⟨s1, rfl, hs1, hs2, hsk, hR⟩ := hq
          refine z_goto 59 dX3_steadyTo_48 (by decide) ?_
          refine z_istore (lv' := [(5, _), (4, _), (3, _), (0, _), (1, _), (2, _)]) 61 dX3_steadyTo_59 rfl rfl rfl ?_
          refine z_iload_n 62 dX3_steadyTo_61 rfl rfl ?_
          refine z_iload 64 dX3_steadyTo_62 rfl rfl ?_
          refine z_min 67 ⟨by omega, by omega⟩ ⟨by omega, by omega⟩ ml_X3_116 la_min1 la_math la_min2 (by omega) (by decide) (by decide) (by decide) dX3_steadyTo_64 rfl ?_
          refine z_istore_n (lv' := [(3, _), (5, _), (4, _), (0, _), (1, _), (2, _)]) 68 dX3_steadyTo_67 rfl rfl rfl ?_
          refine z_iinc (lv' := [(4, _), (3, _), (5, _), (0, _), (1, _), (2, _)]) 71 dX3_steadyTo_68 rfl rfl rfl rfl ?_
          refine z_goto 22 dX3_steadyTo_71 (by decide) ?_
          refine z_sub (lv' := [(4, _), (3, _), (0, _), (1, _), (2, _)]) ⟨rfl, rfl, rfl, rfl, rfl, trivial⟩ ?_
          exact ih22 (k + 1) _ _ hR (by omega) (by omega) (fun j j0 j1 => by by_cases e : j = (k : Int); (rw [e]; exact hsk.mono (by omega)); exact (hsd j j0 (by omega)).mono (by omega)) (by omega)
  refine z_aload_n 1 dX3_steadyTo_0 rfl rfl ?_
  refine c_ifnull 10 4 dX3_steadyTo_1 (by decide) rfl  (fun h1 => ?_) (fun h1 => ?_)
  · exfalso; omega
  refine z_iload_n 5 dX3_steadyTo_4 rfl rfl ?_
  refine z_bipush 7 dX3_steadyTo_5 rfl ⟨by decide, by decide⟩ ?_
  refine z_icmp_le 14 10 dX3_steadyTo_7 (by decide) rfl ⟨by omega, by omega⟩ ⟨by omega, by omega⟩ (fun h7 => ?_) (fun h7 => ?_)
  rotate_left
  · exfalso; omega
  refine z_aload_n 15 dX3_steadyTo_14 rfl rfl ?_
  refine c_getI 18 2 hR fl_X3_113 (by decide) (show cLive m 6 p from lp ⟨by omega, by omega⟩) (show _ = m 2 p from rfl) dX3_steadyTo_15 rfl ?_
  refine z_istore_n (lv' := [(3, _), (0, _), (1, _), (2, _)]) 19 dX3_steadyTo_18 rfl rfl rfl ?_
  refine z_iconst 20 dX3_steadyTo_19 rfl ?_
  refine z_istore (lv' := [(4, _), (3, _), (0, _), (1, _), (2, _)]) 22 dX3_steadyTo_20 rfl rfl rfl ?_
  refine z_sub (lv' := [(4, _), (3, _), (0, _), (1, _), (2, _)]) ⟨rfl, rfl, rfl, rfl, rfl, trivial⟩ ?_
  exact L22 10 0 _ _ hR (by omega) (by omega) (fun j j0 j1 => by omega) (by omega)
theorem c_steadyN {m : Nat → Int → Int} {f : Nat → Int → UInt32} {a : Nat → Int → Nat} (hW : WF m f) (hX : XI m f) : ∀ (N : Nat) (q z e : Int) (t : zT), CA m f a t → live m q → hgt m q < N → 0 ≤ z → z < m 2 q → 0 ≤ e → e + hgt m q ≤ 40 → zM yX3_steadyTo cX3_steadyTo 6 (some .int) (2 * N + 2) 0 0 [vR (rf a 6 q), vI z, vI e] t (fun r t1 => ∃ s, r = some (vI s) ∧ steady m f q z s ∧ CA m f a t1) := by
  intro N
  induction N with
  | zero => intro q z e t _ _ h; exact absurd h (Nat.not_lt_zero _)
  | succ N ih => intro q z e t hR hq hg h0 h1 h2 h3; exact c_steadyTo_s hR hW hX hq ⟨h0, h1⟩ ⟨h2, h3⟩ hg ih
theorem c_steadyTo {m : Nat → Int → Int} {f : Nat → Int → UInt32} {a : Nat → Int → Nat} {t : zT} (hR : CA m f a t) (hW : WF m f) (hX : XI m f) {p w : Int} (hp : live m p) (h0 : 0 ≤ w) (h1 : w < m 2 p) : zM yX3_steadyTo cX3_steadyTo 6 (some .int) 28 0 0 [vR (rf a 6 p), vI w, vI 0] t (fun r t1 => ∃ s, r = some (vI s) ∧ steady m f p w s ∧ CA m f a t1) :=
  c_steadyN hW hX 13 p w 0 t hR hp (by have := hgt_b hW hp; omega) h0 h1 (by omega) (by have := hgt_b hW hp; omega)
set_option maxRecDepth 20000 in
theorem c_weakestPlace {m : Nat → Int → Int} {f : Nat → Int → UInt32} {a : Nat → Int → Nat} {t : zT} (hR : CA m f a t) {p : Int} (hW : WF m f) (hX : XI m f) (hp : live m p) : zM yX3_weakestPlace cX3_weakestPlace 5 (some .int) 29 0 0 [vR (rf a 6 p)] t (fun r t1 => r = some (vI (weak m f p)) ∧ CA m f a t1) := by
  refine zM.of2 [(0, vR (rf a 6 p))] (by decide +kernel) rfl (Nat.le_of_ble_eq_true rfl) ?_
  have hn1 := hW.n.1
  have hn2 := hW.n.2
  have h60 := hX.1.1
  have h62 := hX.1.2.1
  have h64 := hX.1.2.2
  obtain ⟨hp1, hp2, hp3⟩ := id hp
  have hB := hW.b hp1 hp2
  have L11 : ∀ (fuel : Nat) (w v : Int) (b : UInt32) (t : zT) (hR : CA m f a t) (hw : 0 ≤ w ∧ w ≤ m 2 p) (hv : v = wk m f p (w - 1).toNat) (hb : b = B m f p v) (hf : m 2 p - w < (fuel : Int)), zOK yX3_weakestPlace cX3_weakestPlace 5 (some .int) 29 0 0 (fun r t1 => r = some (vI (weak m f p)) ∧ CA m f a t1) 0 0 11 [(3, vI w), (2, vF b), (1, vI v), (0, vR (rf a 6 p))] [] t := by
    intro fuel
    induction fuel with
    | zero => intro w v b t hR hw hv hb hf; exfalso; omega
    | succ fuel ih11 =>
      intro w v b t hR hw hv hb hf
      refine z_iload_n 12 dX3_weakestPlace_11 rfl rfl ?_
      refine z_aload_n 13 dX3_weakestPlace_12 rfl rfl ?_
      refine c_getI 16 2 hR fl_X3_113 (by decide) (show cLive m 6 p from lp ⟨by omega, by omega⟩) (show _ = m 2 p from rfl) dX3_weakestPlace_13 rfl ?_
      refine z_icmp_ge 55 19 dX3_weakestPlace_16 (by decide) rfl ⟨by omega, by omega⟩ ⟨by omega, by omega⟩ (fun h16 => ?_) (fun h16 => ?_)
      · refine z_iload_n 56 dX3_weakestPlace_55 rfl rfl ?_
        refine z_ireturn rfl dX3_weakestPlace_56 (by decide) (by decide) ?_
        refine ⟨congrArg (fun z => some (vI z)) ?_, hR⟩
        rw [hv]; unfold weak; rw [show w = m 2 p by omega]
      · refine z_aload_n 20 dX3_weakestPlace_19 rfl rfl ?_
        refine z_iload_n 21 dX3_weakestPlace_20 rfl rfl ?_
        refine z_iconst 22 dX3_weakestPlace_21 rfl ?_
        refine z_callS 25 [_, _, _] la_X3_bearing ml_X3_192 sm_X3_bearing (c_bearing hR hW hX hp (by omega) (by omega)) rfl rfl (by decide) (Nat.le_of_ble_eq_true rfl) (by decide) (by decide) dX3_weakestPlace_22 rfl (fun r t hq => ?_)
        obtain ⟨rfl, hR⟩ := hq
        refine z_fstore (lv' := [(4, _), (3, _), (2, _), (1, _), (0, _)]) 27 dX3_weakestPlace_25 rfl rfl rfl ?_
        refine z_fload 29 dX3_weakestPlace_27 rfl rfl ?_
        refine z_fload_n 30 dX3_weakestPlace_29 rfl rfl ?_
        refine z_fcmp 31 dX3_weakestPlace_30 rfl ?_
        refine z_if_ge 39 34 dX3_weakestPlace_31 (by decide) rfl zfc_i (fun h31 => ?_) (fun h31 => ?_)
        · refine z_iload_n 40 dX3_weakestPlace_39 rfl rfl ?_
          refine z_iconst 41 dX3_weakestPlace_40 rfl ?_
          refine z_iadd 42 dX3_weakestPlace_41 rfl ?_
          refine z_aload_n 43 dX3_weakestPlace_42 rfl rfl ?_
          refine z_iload_n 44 dX3_weakestPlace_43 rfl rfl ?_
          refine z_iconst 45 dX3_weakestPlace_44 rfl ?_
          refine z_callS 48 [_, _, _] la_X3_steadyTo ml_X3_213 sm_X3_steadyTo (c_steadyTo hR hW hX hp (by omega) (by omega)) rfl rfl (by decide) (Nat.le_of_ble_eq_true rfl) (by decide) (by decide) dX3_weakestPlace_45 rfl (fun r t hq => ?_)
          obtain ⟨s, rfl, hst, hR⟩ := hq
          have hst1 := hst.1
          have hst2 := hst.2.1
          refine z_max 51 ⟨by omega, by omega⟩ ⟨by omega, by omega⟩ ml_X3_122 la_max1 la_math la_max2 (by omega) (by decide) (by decide) (by decide) dX3_weakestPlace_48 rfl ?_
          refine z_top (w := vI s) (congrArg vI (by omega)) ?_
          refine z_istore_n (lv' := [(3, _), (4, _), (2, _), (1, _), (0, _)]) 52 dX3_weakestPlace_51 rfl rfl rfl ?_
          refine z_goto 11 dX3_weakestPlace_52 (by decide) ?_
          have hwk := wk_steady hW hp hw.1 hst
          rw [← hv, ← hb] at hwk
          refine z_sub (lv' := [(3, _), (2, _), (1, _), (0, _)]) ⟨rfl, rfl, rfl, rfl, trivial⟩ ?_
          exact ih11 _ _ _ _ hR (by have := hst.2.1; have := hst.1; omega) (by rw [hwk]; first | (rw [if_pos (by omega)]) | (rw [if_neg (by omega)])) (by first | exact hb | rfl) (by omega)
        · refine z_fload 36 dX3_weakestPlace_34 rfl rfl ?_
          refine z_fstore_n (lv' := [(2, _), (4, _), (3, _), (1, _), (0, _)]) 37 dX3_weakestPlace_36 rfl rfl rfl ?_
          refine z_iload_n 38 dX3_weakestPlace_37 rfl rfl ?_
          refine z_istore_n (lv' := [(1, _), (2, _), (4, _), (3, _), (0, _)]) 39 dX3_weakestPlace_38 rfl rfl rfl ?_
          refine z_iload_n 40 dX3_weakestPlace_39 rfl rfl ?_
          refine z_iconst 41 dX3_weakestPlace_40 rfl ?_
          refine z_iadd 42 dX3_weakestPlace_41 rfl ?_
          refine z_aload_n 43 dX3_weakestPlace_42 rfl rfl ?_
          refine z_iload_n 44 dX3_weakestPlace_43 rfl rfl ?_
          refine z_iconst 45 dX3_weakestPlace_44 rfl ?_
          refine z_callS 48 [_, _, _] la_X3_steadyTo ml_X3_213 sm_X3_steadyTo (c_steadyTo hR hW hX hp (by omega) (by omega)) rfl rfl (by decide) (Nat.le_of_ble_eq_true rfl) (by decide) (by decide) dX3_weakestPlace_45 rfl (fun r t hq => ?_)
          obtain ⟨s, rfl, hst, hR⟩ := hq
          have hst1 := hst.1
          have hst2 := hst.2.1
          refine z_max 51 ⟨by omega, by omega⟩ ⟨by omega, by omega⟩ ml_X3_122 la_max1 la_math la_max2 (by omega) (by decide) (by decide) (by decide) dX3_weakestPlace_48 rfl ?_
          refine z_top (w := vI s) (congrArg vI (by omega)) ?_
          refine z_istore_n (lv' := [(3, _), (1, _), (2, _), (4, _), (0, _)]) 52 dX3_weakestPlace_51 rfl rfl rfl ?_
          refine z_goto 11 dX3_weakestPlace_52 (by decide) ?_
          have hwk := wk_steady hW hp hw.1 hst
          rw [← hv, ← hb] at hwk
          refine z_sub (lv' := [(3, _), (2, _), (1, _), (0, _)]) ⟨rfl, rfl, rfl, rfl, trivial⟩ ?_
          exact ih11 _ _ _ _ hR (by have := hst.2.1; have := hst.1; omega) (by rw [hwk]; first | (rw [if_pos (by omega)]) | (rw [if_neg (by omega)])) (by first | exact hb | rfl) (by omega)
  refine z_iconst 1 dX3_weakestPlace_0 rfl ?_
  refine z_istore_n (lv' := [(1, _), (0, _)]) 2 dX3_weakestPlace_1 rfl rfl rfl ?_
  refine z_aload_n 3 dX3_weakestPlace_2 rfl rfl ?_
  refine z_iconst 4 dX3_weakestPlace_3 rfl ?_
  refine z_iconst 5 dX3_weakestPlace_4 rfl ?_
  refine z_callS 8 [_, _, _] la_X3_bearing ml_X3_192 sm_X3_bearing (c_bearing hR hW hX hp (by omega) (by omega)) rfl rfl (by decide) (Nat.le_of_ble_eq_true rfl) (by decide) (by decide) dX3_weakestPlace_5 rfl (fun r t hq => ?_)
  obtain ⟨rfl, hR⟩ := hq
  refine z_fstore_n (lv' := [(2, _), (1, _), (0, _)]) 9 dX3_weakestPlace_8 rfl rfl rfl ?_
  refine z_iconst 10 dX3_weakestPlace_9 rfl ?_
  refine z_istore_n (lv' := [(3, _), (2, _), (1, _), (0, _)]) 11 dX3_weakestPlace_10 rfl rfl rfl ?_
  refine z_sub (lv' := [(3, _), (2, _), (1, _), (0, _)]) ⟨rfl, rfl, rfl, rfl, trivial⟩ ?_
  exact L11 2001 _ _ _ _ hR (by omega) (rfl) (rfl) (by omega)
set_option maxRecDepth 20000 in
theorem c_leastBorne {m : Nat → Int → Int} {f : Nat → Int → UInt32} {a : Nat → Int → Nat} {t : zT} (hR : CA m f a t) {p : Int} (hW : WF m f) (hX : XI m f) (hp : live m p) : zM yX3_leastBorne cX3_leastBorne 1 (some .float) 30 0 0 [vR (rf a 6 p)] t (fun r t1 => r = some (vF (leastv m f p)) ∧ CA m f a t1) := by
  refine zM.of2 [(0, vR (rf a 6 p))] (by decide +kernel) rfl (Nat.le_of_ble_eq_true rfl) ?_
  have hn1 := hW.n.1
  have hn2 := hW.n.2
  have h60 := hX.1.1
  have h62 := hX.1.2.1
  have h64 := hX.1.2.2
  obtain ⟨hp1, hp2, hp3⟩ := id hp
  have hB := hW.b hp1 hp2
  have hwb := weak_b hW hp
  refine z_aload_n 1 dX3_leastBorne_0 rfl rfl ?_
  refine z_aload_n 2 dX3_leastBorne_1 rfl rfl ?_
  refine z_callS 5 [_] la_X3_weakestPlace ml_X3_216 sm_X3_weakestPlace (c_weakestPlace hR hW hX hp) rfl rfl (by decide) (Nat.le_of_ble_eq_true rfl) (by decide) (by decide) dX3_leastBorne_2 rfl (fun r t hq => ?_)
  obtain ⟨rfl, hR⟩ := hq
  refine z_iconst 6 dX3_leastBorne_5 rfl ?_
  refine z_callS 9 [_, _, _] la_X3_bearing ml_X3_192 sm_X3_bearing (c_bearing hR hW hX hp (by omega) (by omega)) rfl rfl (by decide) (Nat.le_of_ble_eq_true rfl) (by decide) (by decide) dX3_leastBorne_6 rfl (fun r t hq => ?_)
  obtain ⟨rfl, hR⟩ := hq
  refine z_freturn rfl dX3_leastBorne_9 (by decide) (by decide) ?_
  exact ⟨rfl, hR⟩
set_option maxRecDepth 20000 in
theorem c_bears {m : Nat → Int → Int} {f : Nat → Int → UInt32} {a : Nat → Int → Nat} {t : zT} (hR : CA m f a t) {p : Int} (hp : zi p) {w : Int} (hw : zi w) (hW : WF m f) (hX : XI m f) : zM yX3_bears cX3_bears 4 (some .double) 29 0 0 [vR (rf a 0 0), vI p, vI w] t (fun r t1 => r = some (vD (a_bears m f p w)) ∧ CP (a 0 0) (m, f) t1) := by
  refine zM.of2 [(0, vR (rf a 0 0)), (1, vI p), (2, vI w)] (by decide +kernel) rfl (Nat.le_of_ble_eq_true rfl) ?_
  obtain ⟨hp1, hp2⟩ := hp
  obtain ⟨hw1, hw2⟩ := hw
  have hn1 := hW.n.1
  have hn2 := hW.n.2
  have h60 := hX.1.1
  have h62 := hX.1.2.1
  have h64 := hX.1.2.2
  refine z_aload_n 1 dX3_bears_0 rfl rfl ?_
  refine z_iload_n 2 dX3_bears_1 rfl rfl ?_
  refine z_callV 5 [_] la_X3_pieceNotGone ml_X3_152 im_X3_pieceNotGone se_X3_pieceNotGone (hR.lv 0 0 (by decide) l0).1 (hR.lv 0 0 (by decide) l0).2.1 (by decide) rfl rfl (c_pieceNotGone hR ⟨by omega, by omega⟩ hW hX) rfl rfl (by decide) (Nat.le_of_ble_eq_true rfl) (by decide) (by decide) dX3_bears_2 rfl (fun r t hq => ?_)
  obtain ⟨v, rfl, hv, hR⟩ := hq
  refine z_astore_n (lv' := [(3, _), (0, _), (1, _), (2, _)]) 6 dX3_bears_5 rfl rfl rfl ?_
  refine z_aload_n 7 dX3_bears_6 rfl rfl ?_
  refine c_ifnull 22 10 dX3_bears_7 (by decide) rfl  (fun h7 => ?_) (fun h7 => ?_)
  · refine z_ldc2d 25 co_X3_219 dX3_bears_22 rfl ?_
    refine z_dreturn rfl dX3_bears_25 (by decide) (by decide) ?_
    refine ⟨congrArg (fun z => some (vD z)) ?_, CP.rf hR hX⟩
    unfold a_bears there cif; first | (rw [if_pos (by omega)]; try rfl) | (rw [if_neg (by omega)]; try rfl)
  · obtain rfl : p = v := by omega
    have hBp := hW.b (p := p) (by omega) (by omega)
    have hl : live m p := ⟨by omega, by omega, by omega⟩
    refine z_iload_n 11 dX3_bears_10 rfl rfl ?_
    refine z_if_lt 22 14 dX3_bears_11 (by decide) rfl ⟨by omega, by omega⟩ (fun h11 => ?_) (fun h11 => ?_)
    · refine z_ldc2d 25 co_X3_219 dX3_bears_22 rfl ?_
      refine z_dreturn rfl dX3_bears_25 (by decide) (by decide) ?_
      refine ⟨congrArg (fun z => some (vD z)) ?_, CP.rf hR hX⟩
      unfold a_bears there cif; first | (rw [if_pos (by omega)]; try rfl) | (rw [if_neg (by omega)]; try rfl)
    · refine z_iload_n 15 dX3_bears_14 rfl rfl ?_
      refine z_aload_n 16 dX3_bears_15 rfl rfl ?_
      refine c_getI 19 2 hR fl_X3_113 (by decide) (show cLive m 6 p from lp ⟨by omega, by omega⟩) (show _ = m 2 p from rfl) dX3_bears_16 rfl ?_
      refine z_icmp_lt 26 22 dX3_bears_19 (by decide) rfl ⟨by omega, by omega⟩ ⟨by omega, by omega⟩ (fun h19 => ?_) (fun h19 => ?_)
      · refine z_aload_n 27 dX3_bears_26 rfl rfl ?_
        refine z_iload_n 28 dX3_bears_27 rfl rfl ?_
        refine z_iconst 29 dX3_bears_28 rfl ?_
        refine z_callS 32 [_, _, _] la_X3_bearing ml_X3_192 sm_X3_bearing (c_bearing hR hW hX hl (by omega) (by omega)) rfl rfl (by decide) (Nat.le_of_ble_eq_true rfl) (by decide) (by decide) dX3_bears_29 rfl (fun r t hq => ?_)
        obtain ⟨rfl, hR⟩ := hq
        have hok := B_ok hW hl (z := w) (by omega) (by omega)
        refine z_f2d 33 dX3_bears_32 rfl (okv_f2d hok) ?_
        refine z_dreturn rfl dX3_bears_33 (by decide) (by decide) ?_
        refine ⟨congrArg (fun z => some (vD z)) ?_, CP.rf hR hX⟩
        unfold a_bears there cif; first | (rw [if_pos (by omega)]; try rfl) | (rw [if_neg (by omega)]; try rfl)
      · refine z_ldc2d 25 co_X3_219 dX3_bears_22 rfl ?_
        refine z_dreturn rfl dX3_bears_25 (by decide) (by decide) ?_
        refine ⟨congrArg (fun z => some (vD z)) ?_, CP.rf hR hX⟩
        unfold a_bears there cif; first | (rw [if_pos (by omega)]; try rfl) | (rw [if_neg (by omega)]; try rfl)
set_option maxRecDepth 20000 in
theorem c_least {m : Nat → Int → Int} {f : Nat → Int → UInt32} {a : Nat → Int → Nat} {t : zT} (hR : CA m f a t) {p : Int} (hp : zi p) (hW : WF m f) (hX : XI m f) : zM yX3_least cX3_least 3 (some .double) 31 0 0 [vR (rf a 0 0), vI p] t (fun r t1 => r = some (vD (a_least m f p)) ∧ CP (a 0 0) (m, f) t1) := by
  refine zM.of2 [(0, vR (rf a 0 0)), (1, vI p)] (by decide +kernel) rfl (Nat.le_of_ble_eq_true rfl) ?_
  obtain ⟨hp1, hp2⟩ := hp
  have hn1 := hW.n.1
  have hn2 := hW.n.2
  have h60 := hX.1.1
  have h62 := hX.1.2.1
  have h64 := hX.1.2.2
  refine z_aload_n 1 dX3_least_0 rfl rfl ?_
  refine z_iload_n 2 dX3_least_1 rfl rfl ?_
  refine z_callV 5 [_] la_X3_pieceNotGone ml_X3_152 im_X3_pieceNotGone se_X3_pieceNotGone (hR.lv 0 0 (by decide) l0).1 (hR.lv 0 0 (by decide) l0).2.1 (by decide) rfl rfl (c_pieceNotGone hR ⟨by omega, by omega⟩ hW hX) rfl rfl (by decide) (Nat.le_of_ble_eq_true rfl) (by decide) (by decide) dX3_least_2 rfl (fun r t hq => ?_)
  obtain ⟨v, rfl, hv, hR⟩ := hq
  refine z_astore_n (lv' := [(2, _), (0, _), (1, _)]) 6 dX3_least_5 rfl rfl rfl ?_
  refine z_aload_n 7 dX3_least_6 rfl rfl ?_
  refine c_ifnonnull 16 10 dX3_least_7 (by decide) rfl  (fun h7 => ?_) (fun h7 => ?_)
  · obtain rfl : p = v := by omega
    have hBp := hW.b (p := p) (by omega) (by omega)
    have hl : live m p := ⟨by omega, by omega, by omega⟩
    refine z_aload_n 17 dX3_least_16 rfl rfl ?_
    refine z_callS 20 [_] la_X3_leastBorne ml_X3_221 sm_X3_leastBorne (c_leastBorne hR hW hX hl) rfl rfl (by decide) (Nat.le_of_ble_eq_true rfl) (by decide) (by decide) dX3_least_17 rfl (fun r t hq => ?_)
    obtain ⟨rfl, hR⟩ := hq
    have hok := least_ok hW hl
    refine z_f2d 21 dX3_least_20 rfl (okv_f2d hok) ?_
    refine z_dreturn rfl dX3_least_21 (by decide) (by decide) ?_
    refine ⟨congrArg (fun z => some (vD z)) ?_, CP.rf hR hX⟩
    unfold a_least there cif; first | (rw [if_pos (by omega)]; try rfl) | (rw [if_neg (by omega)]; try rfl)
  · refine z_ldc2d 13 co_X3_219 dX3_least_10 rfl ?_
    refine z_goto 21 dX3_least_13 (by decide) ?_
    refine z_dreturn rfl dX3_least_21 (by decide) (by decide) ?_
    refine ⟨congrArg (fun z => some (vD z)) ?_, CP.rf hR hX⟩
    unfold a_least there cif; first | (rw [if_pos (by omega)]; try rfl) | (rw [if_neg (by omega)]; try rfl)
set_option maxRecDepth 20000 in
theorem c_where {m : Nat → Int → Int} {f : Nat → Int → UInt32} {a : Nat → Int → Nat} {t : zT} (hR : CA m f a t) {p : Int} (hp : zi p) (hW : WF m f) (hX : XI m f) : zM yX3_where cX3_where 3 (some .int) 30 0 0 [vR (rf a 0 0), vI p] t (fun r t1 => r = some (vI (a_where m f p)) ∧ CP (a 0 0) (m, f) t1) := by
  refine zM.of2 [(0, vR (rf a 0 0)), (1, vI p)] (by decide +kernel) rfl (Nat.le_of_ble_eq_true rfl) ?_
  obtain ⟨hp1, hp2⟩ := hp
  have hn1 := hW.n.1
  have hn2 := hW.n.2
  have h60 := hX.1.1
  have h62 := hX.1.2.1
  have h64 := hX.1.2.2
  refine z_aload_n 1 dX3_where_0 rfl rfl ?_
  refine z_iload_n 2 dX3_where_1 rfl rfl ?_
  refine z_callV 5 [_] la_X3_pieceNotGone ml_X3_152 im_X3_pieceNotGone se_X3_pieceNotGone (hR.lv 0 0 (by decide) l0).1 (hR.lv 0 0 (by decide) l0).2.1 (by decide) rfl rfl (c_pieceNotGone hR ⟨by omega, by omega⟩ hW hX) rfl rfl (by decide) (Nat.le_of_ble_eq_true rfl) (by decide) (by decide) dX3_where_2 rfl (fun r t hq => ?_)
  obtain ⟨v, rfl, hv, hR⟩ := hq
  refine z_astore_n (lv' := [(2, _), (0, _), (1, _)]) 6 dX3_where_5 rfl rfl rfl ?_
  refine z_aload_n 7 dX3_where_6 rfl rfl ?_
  refine c_ifnonnull 15 10 dX3_where_7 (by decide) rfl  (fun h7 => ?_) (fun h7 => ?_)
  · obtain rfl : p = v := by omega
    have hBp := hW.b (p := p) (by omega) (by omega)
    have hl : live m p := ⟨by omega, by omega, by omega⟩
    refine z_aload_n 16 dX3_where_15 rfl rfl ?_
    refine z_callS 19 [_] la_X3_weakestPlace ml_X3_216 sm_X3_weakestPlace (c_weakestPlace hR hW hX hl) rfl rfl (by decide) (Nat.le_of_ble_eq_true rfl) (by decide) (by decide) dX3_where_16 rfl (fun r t hq => ?_)
    obtain ⟨rfl, hR⟩ := hq
    refine z_ireturn rfl dX3_where_19 (by decide) (by decide) ?_
    refine ⟨congrArg (fun z => some (vI z)) ?_, CP.rf hR hX⟩
    unfold a_where there cif; first | (rw [if_pos (by omega)]; try rfl) | (rw [if_neg (by omega)]; try rfl)
  · refine z_bipush 12 dX3_where_10 rfl ⟨by decide, by decide⟩ ?_
    refine z_goto 19 dX3_where_12 (by decide) ?_
    refine z_ireturn rfl dX3_where_19 (by decide) (by decide) ?_
    refine ⟨congrArg (fun z => some (vI z)) ?_, CP.rf hR hX⟩
    unfold a_where there cif; first | (rw [if_pos (by omega)]; try rfl) | (rw [if_neg (by omega)]; try rfl)
set_option maxRecDepth 20000 in
theorem c_grams {m : Nat → Int → Int} {f : Nat → Int → UInt32} {a : Nat → Int → Nat} {t : zT} (hR : CA m f a t) {p : Int} (hp : zi p) (hW : WF m f) (hX : XI m f) : zM yX3_grams cX3_grams 3 (some .long) 31 0 0 [vR (rf a 0 0), vI p] t (fun r t1 => r = some (vL (a_grams m f p)) ∧ CP (a 0 0) (m, f) t1) := by
  refine zM.of2 [(0, vR (rf a 0 0)), (1, vI p)] (by decide +kernel) rfl (Nat.le_of_ble_eq_true rfl) ?_
  obtain ⟨hp1, hp2⟩ := hp
  have hn1 := hW.n.1
  have hn2 := hW.n.2
  have h60 := hX.1.1
  have h62 := hX.1.2.1
  have h64 := hX.1.2.2
  refine z_aload_n 1 dX3_grams_0 rfl rfl ?_
  refine z_iload_n 2 dX3_grams_1 rfl rfl ?_
  refine z_callV 5 [_] la_X3_pieceNotGone ml_X3_152 im_X3_pieceNotGone se_X3_pieceNotGone (hR.lv 0 0 (by decide) l0).1 (hR.lv 0 0 (by decide) l0).2.1 (by decide) rfl rfl (c_pieceNotGone hR ⟨by omega, by omega⟩ hW hX) rfl rfl (by decide) (Nat.le_of_ble_eq_true rfl) (by decide) (by decide) dX3_grams_2 rfl (fun r t hq => ?_)
  obtain ⟨v, rfl, hv, hR⟩ := hq
  refine z_astore_n (lv' := [(2, _), (0, _), (1, _)]) 6 dX3_grams_5 rfl rfl rfl ?_
  refine z_aload_n 7 dX3_grams_6 rfl rfl ?_
  refine c_ifnonnull 16 10 dX3_grams_7 (by decide) rfl  (fun h7 => ?_) (fun h7 => ?_)
  · obtain rfl : p = v := by omega
    have hBp := hW.b (p := p) (by omega) (by omega)
    have hl : live m p := ⟨by omega, by omega, by omega⟩
    refine z_aload_n 17 dX3_grams_16 rfl rfl ?_
    refine z_callS 20 [_] la_X3_leastBorne ml_X3_221 sm_X3_leastBorne (c_leastBorne hR hW hX hl) rfl rfl (by decide) (Nat.le_of_ble_eq_true rfl) (by decide) (by decide) dX3_grams_17 rfl (fun r t hq => ?_)
    obtain ⟨rfl, hR⟩ := hq
    have hok := least_ok hW hl
    refine z_ldcf 22 co_X3_227 dX3_grams_20 rfl ?_
    refine z_fmul 23 dX3_grams_22 rfl (okv_g hok) ?_
    refine z_f2l 24 dX3_grams_23 rfl (fl_eq _) ?_
    refine z_lreturn rfl dX3_grams_24 (by decide) (by decide) ?_
    refine ⟨congrArg (fun z => some (vL z)) ?_, CP.rf hR hX⟩
    unfold a_grams there cif; first | (rw [if_pos (by omega)]; try rfl) | (rw [if_neg (by omega)]; try rfl)
  · refine z_ldc2l 13 co_X3_225 dX3_grams_10 rfl ?_
    refine z_goto 24 dX3_grams_13 (by decide) ?_
    refine z_lreturn rfl dX3_grams_24 (by decide) (by decide) ?_
    refine ⟨congrArg (fun z => some (vL z)) ?_, CP.rf hR hX⟩
    unfold a_grams there cif; first | (rw [if_pos (by omega)]; try rfl) | (rw [if_neg (by omega)]; try rfl)
