set_option maxRecDepth 20000 in
theorem c_remainder {t : zT} {v s : UInt64} (h : rmok v s) : zM yX3_remainder cX3_remainder 6 (some .double) 0 0 0 [vD v, vD s] t (fun r t1 => r = some (vD (rmd v s)) ∧ t1 = t) := by
  refine zM.of2 [(0, vD v), (2, vD s)] (by decide +kernel) rfl (Nat.le_of_ble_eq_true rfl) ?_
  obtain ⟨h0, hn1, hn2, hn3⟩ := h
  refine z_dload_n 1 dX3_remainder_0 rfl rfl ?_
  refine z_dconst0 2 dX3_remainder_1 rfl ?_
  refine z_dcmp 3 dX3_remainder_2 rfl ?_
  refine z_if_gt 8 6 dX3_remainder_3 (by decide) rfl zfc_i (fun h3 => ?_) (fun h3 => ?_)
  rotate_left
  · exfalso; omega
  refine z_dload_n 9 dX3_remainder_8 rfl rfl ?_
  refine z_dload_n 10 dX3_remainder_9 rfl rfl ?_
  refine z_ddiv 11 dX3_remainder_10 rfl (hn1) ?_
  refine z_d2l 12 dX3_remainder_11 rfl (dl_eq _) ?_
  refine z_lstore (lv' := [(4, _), (0, _), (2, _)]) 14 dX3_remainder_12 rfl rfl rfl ?_
  refine z_dload_n 15 dX3_remainder_14 rfl rfl ?_
  refine z_lload 17 dX3_remainder_15 rfl rfl ?_
  refine z_l2d 18 dX3_remainder_17 rfl ?_
  refine z_dload_n 19 dX3_remainder_18 rfl rfl ?_
  refine z_dmul 20 dX3_remainder_19 rfl (hn2) ?_
  refine z_dsub 21 dX3_remainder_20 rfl (hn3) ?_
  refine z_dreturn rfl dX3_remainder_21 (by decide) (by decide) ?_
  exact ⟨rfl, rfl⟩
set_option maxRecDepth 20000 in
theorem c_rest {m : Nat → Int → Int} {f : Nat → Int → UInt32} {a : Nat → Int → Nat} {t : zT} (hR : CA m f a t) {p : Int} (hp : zi p) {w : Int} (hw : zi w) (hW : WF m f) (hX : XI m f) : zM yX3_rest cX3_rest 4 (some .double) 31 0 0 [vR (rf a 0 0), vI p, vI w] t (fun r t1 => r = some (vD (a_rest m f p w)) ∧ CP (a 0 0) (m, f) t1) := by
  refine zM.of2 [(0, vR (rf a 0 0)), (1, vI p), (2, vI w)] (by decide +kernel) rfl (Nat.le_of_ble_eq_true rfl) ?_
  obtain ⟨hp1, hp2⟩ := hp
  obtain ⟨hw1, hw2⟩ := hw
  have hn1 := hW.n.1
  have hn2 := hW.n.2
  have h60 := hX.1.1
  have h62 := hX.1.2.1
  have h64 := hX.1.2.2
  refine z_aload_n 1 dX3_rest_0 rfl rfl ?_
  refine z_iload_n 2 dX3_rest_1 rfl rfl ?_
  refine z_callV 5 [_] la_X3_pieceNotGone ml_X3_152 im_X3_pieceNotGone se_X3_pieceNotGone (hR.lv 0 0 (by decide) l0).1 (hR.lv 0 0 (by decide) l0).2.1 (by decide) rfl rfl (c_pieceNotGone hR ⟨by omega, by omega⟩ hW hX) rfl rfl (by decide) (Nat.le_of_ble_eq_true rfl) (by decide) (by decide) dX3_rest_2 rfl (fun r t hq => ?_)
  obtain ⟨v, rfl, hv, hR⟩ := hq
  refine z_astore_n (lv' := [(3, _), (0, _), (1, _), (2, _)]) 6 dX3_rest_5 rfl rfl rfl ?_
  refine z_aload_n 7 dX3_rest_6 rfl rfl ?_
  refine c_ifnull 21 10 dX3_rest_7 (by decide) rfl  (fun h7 => ?_) (fun h7 => ?_)
  · refine z_ldc2d 24 co_X3_219 dX3_rest_21 rfl ?_
    refine z_dreturn rfl dX3_rest_24 (by decide) (by decide) ?_
    refine ⟨congrArg (fun z => some (vD z)) ?_, CP.rf hR hX⟩
    unfold a_rest there cif; first | (rw [if_pos (by omega)]; try rfl) | (rw [if_neg (by omega)]; try rfl)
  · obtain rfl : p = v := by omega
    have hBp := hW.b (p := p) (by omega) (by omega)
    have hl : live m p := ⟨by omega, by omega, by omega⟩
    refine z_iload_n 11 dX3_rest_10 rfl rfl ?_
    refine z_iconst 12 dX3_rest_11 rfl ?_
    refine z_icmp_lt 21 15 dX3_rest_12 (by decide) rfl ⟨by omega, by omega⟩ ⟨by omega, by omega⟩ (fun h12 => ?_) (fun h12 => ?_)
    · refine z_ldc2d 24 co_X3_219 dX3_rest_21 rfl ?_
      refine z_dreturn rfl dX3_rest_24 (by decide) (by decide) ?_
      refine ⟨congrArg (fun z => some (vD z)) ?_, CP.rf hR hX⟩
      unfold a_rest there cif; first | (rw [if_pos (by omega)]; try rfl) | (rw [if_neg (by omega)]; try rfl)
    · refine z_iload_n 16 dX3_rest_15 rfl rfl ?_
      refine z_ldc 18 co_X3_39 dX3_rest_16 rfl ?_
      refine z_icmp_le 25 21 dX3_rest_18 (by decide) rfl ⟨by omega, by omega⟩ ⟨by omega, by omega⟩ (fun h18 => ?_) (fun h18 => ?_)
      · refine z_aload_n 26 dX3_rest_25 rfl rfl ?_
        refine z_callS 29 [_] la_X3_leastBorne ml_X3_221 sm_X3_leastBorne (c_leastBorne hR hW hX hl) rfl rfl (by decide) (Nat.le_of_ble_eq_true rfl) (by decide) (by decide) dX3_rest_26 rfl (fun r t hq => ?_)
        obtain ⟨rfl, hR⟩ := hq
        have hok := least_ok hW hl
        obtain ⟨hr1, hr2, hr3⟩ := rest_n hok (e := w) (by omega) (by omega)
        refine z_f2d 30 dX3_rest_29 rfl (okv_f2d hok) ?_
        refine z_iload_n 31 dX3_rest_30 rfl rfl ?_
        refine z_i2f 32 dX3_rest_31 rfl ?_
        refine z_ldcf 34 co_X3_44 dX3_rest_32 rfl ?_
        refine z_fmul 35 dX3_rest_34 rfl (E8_num (by omega) (by omega)) ?_
        refine z_f2d 36 dX3_rest_35 rfl (hr1) ?_
        refine z_callS 39 [_, _] la_X3_remainder ml_X3_228 sm_X3_remainder (c_remainder hr2) rfl rfl (by decide) (Nat.le_of_ble_eq_true rfl) (by decide) (by decide) dX3_rest_36 rfl (fun r t hq => ?_)
        obtain ⟨rfl, rfl⟩ := hq
        refine z_dreturn rfl dX3_rest_39 (by decide) (by decide) ?_
        refine ⟨congrArg (fun z => some (vD z)) ?_, CP.rf hR hX⟩
        unfold a_rest there cif; rw [if_neg (by omega)]; exact hr3
      · refine z_ldc2d 24 co_X3_219 dX3_rest_21 rfl ?_
        refine z_dreturn rfl dX3_rest_24 (by decide) (by decide) ?_
        refine ⟨congrArg (fun z => some (vD z)) ?_, CP.rf hR hX⟩
        unfold a_rest there cif; first | (rw [if_pos (by omega)]; try rfl) | (rw [if_neg (by omega)]; try rfl)
set_option maxRecDepth 20000 in
theorem c_left {m : Nat → Int → Int} {f : Nat → Int → UInt32} {a : Nat → Int → Nat} {t : zT} (hR : CA m f a t) {p : Int} (hp : zi p) {w : Int} (hw : zi w) (hW : WF m f) (hX : XI m f) : zM yX3_left cX3_left 4 (some .double) 31 0 0 [vR (rf a 0 0), vI p, vI w] t (fun r t1 => r = some (vD (a_left m f p w)) ∧ CP (a 0 0) (m, f) t1) := by
  refine zM.of2 [(0, vR (rf a 0 0)), (1, vI p), (2, vI w)] (by decide +kernel) rfl (Nat.le_of_ble_eq_true rfl) ?_
  obtain ⟨hp1, hp2⟩ := hp
  obtain ⟨hw1, hw2⟩ := hw
  have hn1 := hW.n.1
  have hn2 := hW.n.2
  have h60 := hX.1.1
  have h62 := hX.1.2.1
  have h64 := hX.1.2.2
  refine z_aload_n 1 dX3_left_0 rfl rfl ?_
  refine z_iload_n 2 dX3_left_1 rfl rfl ?_
  refine z_callV 5 [_] la_X3_pieceNotGone ml_X3_152 im_X3_pieceNotGone se_X3_pieceNotGone (hR.lv 0 0 (by decide) l0).1 (hR.lv 0 0 (by decide) l0).2.1 (by decide) rfl rfl (c_pieceNotGone hR ⟨by omega, by omega⟩ hW hX) rfl rfl (by decide) (Nat.le_of_ble_eq_true rfl) (by decide) (by decide) dX3_left_2 rfl (fun r t hq => ?_)
  obtain ⟨v, rfl, hv, hR⟩ := hq
  refine z_astore_n (lv' := [(3, _), (0, _), (1, _), (2, _)]) 6 dX3_left_5 rfl rfl rfl ?_
  refine z_aload_n 7 dX3_left_6 rfl rfl ?_
  refine c_ifnull 21 10 dX3_left_7 (by decide) rfl  (fun h7 => ?_) (fun h7 => ?_)
  · refine z_ldc2d 24 co_X3_219 dX3_left_21 rfl ?_
    refine z_dreturn rfl dX3_left_24 (by decide) (by decide) ?_
    refine ⟨congrArg (fun z => some (vD z)) ?_, CP.rf hR hX⟩
    unfold a_left there cif; first | (rw [if_pos (by omega)]; try rfl) | (rw [if_neg (by omega)]; try rfl)
  · obtain rfl : p = v := by omega
    have hBp := hW.b (p := p) (by omega) (by omega)
    have hl : live m p := ⟨by omega, by omega, by omega⟩
    refine z_iload_n 11 dX3_left_10 rfl rfl ?_
    refine z_iconst 12 dX3_left_11 rfl ?_
    refine z_icmp_lt 21 15 dX3_left_12 (by decide) rfl ⟨by omega, by omega⟩ ⟨by omega, by omega⟩ (fun h12 => ?_) (fun h12 => ?_)
    · refine z_ldc2d 24 co_X3_219 dX3_left_21 rfl ?_
      refine z_dreturn rfl dX3_left_24 (by decide) (by decide) ?_
      refine ⟨congrArg (fun z => some (vD z)) ?_, CP.rf hR hX⟩
      unfold a_left there cif; first | (rw [if_pos (by omega)]; try rfl) | (rw [if_neg (by omega)]; try rfl)
    · refine z_iload_n 16 dX3_left_15 rfl rfl ?_
      refine z_ldc 18 co_X3_232 dX3_left_16 rfl ?_
      refine z_icmp_le 25 21 dX3_left_18 (by decide) rfl ⟨by omega, by omega⟩ ⟨by omega, by omega⟩ (fun h18 => ?_) (fun h18 => ?_)
      · refine z_aload_n 26 dX3_left_25 rfl rfl ?_
        refine z_callS 29 [_] la_X3_leastBorne ml_X3_221 sm_X3_leastBorne (c_leastBorne hR hW hX hl) rfl rfl (by decide) (Nat.le_of_ble_eq_true rfl) (by decide) (by decide) dX3_left_26 rfl (fun r t hq => ?_)
        obtain ⟨rfl, hR⟩ := hq
        have hok := least_ok hW hl
        obtain ⟨hr2, hr3⟩ := left_n hok (e := w) (by omega) (by omega)
        refine z_f2d 30 dX3_left_29 rfl (okv_f2d hok) ?_
        refine z_iload_n 31 dX3_left_30 rfl rfl ?_
        refine z_i2d 32 dX3_left_31 rfl ?_
        refine z_ldc2d 35 co_X3_233 dX3_left_32 rfl ?_
        refine z_dmul 36 dX3_left_35 rfl ((okv_left hok (by omega) (by omega)).1) ?_
        refine z_callS 39 [_, _] la_X3_remainder ml_X3_228 sm_X3_remainder (c_remainder hr2) rfl rfl (by decide) (Nat.le_of_ble_eq_true rfl) (by decide) (by decide) dX3_left_36 rfl (fun r t hq => ?_)
        obtain ⟨rfl, rfl⟩ := hq
        refine z_dreturn rfl dX3_left_39 (by decide) (by decide) ?_
        refine ⟨congrArg (fun z => some (vD z)) ?_, CP.rf hR hX⟩
        unfold a_left there cif; rw [if_neg (by omega)]; exact hr3
      · refine z_ldc2d 24 co_X3_219 dX3_left_21 rfl ?_
        refine z_dreturn rfl dX3_left_24 (by decide) (by decide) ?_
        refine ⟨congrArg (fun z => some (vD z)) ?_, CP.rf hR hX⟩
        unfold a_left there cif; first | (rw [if_pos (by omega)]; try rfl) | (rw [if_neg (by omega)]; try rfl)
set_option maxRecDepth 20000 in
theorem c_notAbove {t : zT} {v : UInt64} : zM yX3_notAbove cX3_notAbove 4 (some .long) 0 0 0 [vD v] t (fun r t1 => r = some (vL (flo v)) ∧ t1 = t) := by
  refine zM.of2 [(0, vD v)] (by decide +kernel) rfl (Nat.le_of_ble_eq_true rfl) ?_
  refine z_dload_n 1 dX3_notAbove_0 rfl rfl ?_
  refine z_d2l 2 dX3_notAbove_1 rfl (dl_eq _) ?_
  refine z_lstore_n (lv' := [(2, _), (0, _)]) 3 dX3_notAbove_2 rfl rfl rfl ?_
  refine z_lload_n 4 dX3_notAbove_3 rfl rfl ?_
  refine z_l2d 5 dX3_notAbove_4 rfl ?_
  refine z_dload_n 6 dX3_notAbove_5 rfl rfl ?_
  refine z_dcmp 7 dX3_notAbove_6 rfl ?_
  refine z_if_le 16 10 dX3_notAbove_7 (by decide) rfl zfc_i (fun h7 => ?_) (fun h7 => ?_)
  · refine z_lload_n 17 dX3_notAbove_16 rfl rfl ?_
    refine z_lreturn rfl dX3_notAbove_17 (by decide) (by decide) ?_
    refine ⟨congrArg (fun z => some (vL z)) ?_, rfl⟩
    unfold flo ld; first | rw [if_pos (by omega)] | rw [if_neg (by omega)]
  · refine z_lload_n 11 dX3_notAbove_10 rfl rfl ?_
    refine z_lconst (z := 1) 12 dX3_notAbove_11 rfl rfl ?_
    refine z_lsub 13 dX3_notAbove_12 rfl ?_
    refine z_goto 17 dX3_notAbove_13 (by decide) ?_
    refine z_lreturn rfl dX3_notAbove_17 (by decide) (by decide) ?_
    refine ⟨congrArg (fun z => some (vL z)) ?_, rfl⟩
    unfold flo ld; first | rw [if_pos (by omega)] | rw [if_neg (by omega)]
set_option maxRecDepth 20000 in
theorem c_nearest {t : zT} {v : UInt64} (hv : vf_n64 (FP.dsub v (ld (dl v)))) : zM yX3_nearest cX3_nearest 7 (some .long) 0 0 0 [vD v] t (fun r t1 => r = some (vL (neaC v)) ∧ t1 = t) := by
  refine zM.of2 [(0, vD v)] (by decide +kernel) rfl (Nat.le_of_ble_eq_true rfl) ?_
  have hb := dl_b v
  refine z_dload_n 1 dX3_nearest_0 rfl rfl ?_
  refine z_d2l 2 dX3_nearest_1 rfl (dl_eq _) ?_
  refine z_lstore_n (lv' := [(2, _), (0, _)]) 3 dX3_nearest_2 rfl rfl rfl ?_
  refine z_dload_n 4 dX3_nearest_3 rfl rfl ?_
  refine z_lload_n 5 dX3_nearest_4 rfl rfl ?_
  refine z_l2d 6 dX3_nearest_5 rfl ?_
  refine z_dsub 7 dX3_nearest_6 rfl (hv) ?_
  refine z_dstore (lv' := [(4, _), (2, _), (0, _)]) 9 dX3_nearest_7 rfl rfl rfl ?_
  refine z_dload 11 dX3_nearest_9 rfl rfl ?_
  refine z_ldc2d 14 co_X3_264 dX3_nearest_11 rfl ?_
  refine z_dcmp 15 dX3_nearest_14 rfl ?_
  refine z_if_gt 35 18 dX3_nearest_15 (by decide) rfl zfc_i (fun h15 => ?_) (fun h15 => ?_)
  · refine z_iconst 36 dX3_nearest_35 rfl ?_
    refine z_goto 40 dX3_nearest_36 (by decide) ?_
    refine z_istore (lv' := [(6, _), (4, _), (2, _), (0, _)]) 42 dX3_nearest_40 rfl rfl rfl ?_
    refine z_iload 44 dX3_nearest_42 rfl rfl ?_
    refine z_if_eq 53 47 dX3_nearest_44 (by decide) rfl ⟨by omega, by omega⟩ (fun h44 => ?_) (fun h44 => ?_)
    · refine z_lload_n 54 dX3_nearest_53 rfl rfl ?_
      refine z_lreturn rfl dX3_nearest_54 (by decide) (by decide) ?_
      first
      | (exfalso; omega)
      | (refine ⟨congrArg (fun z => some (vL z)) ?_, rfl⟩
         unfold neaC
         unfold ld at *
         first | rw [if_pos (by omega)] | rw [if_neg (by omega)])
    · refine z_lload_n 48 dX3_nearest_47 rfl rfl ?_
      refine z_lconst (z := 1) 49 dX3_nearest_48 rfl rfl ?_
      refine z_ladd 50 dX3_nearest_49 rfl ?_
      refine z_goto 54 dX3_nearest_50 (by decide) ?_
      refine z_lreturn rfl dX3_nearest_54 (by decide) (by decide) ?_
      first
      | (exfalso; omega)
      | (refine ⟨congrArg (fun z => some (vL z)) ?_, rfl⟩
         unfold neaC
         unfold ld at *
         first | rw [if_pos (by omega)] | rw [if_neg (by omega)])
  · refine z_dload 20 dX3_nearest_18 rfl rfl ?_
    refine z_ldc2d 23 co_X3_264 dX3_nearest_20 rfl ?_
    refine z_dcmp 24 dX3_nearest_23 rfl ?_
    refine z_if_ne 39 27 dX3_nearest_24 (by decide) rfl zfc_i (fun h24 => ?_) (fun h24 => ?_)
    · refine z_iconst 40 dX3_nearest_39 rfl ?_
      refine z_istore (lv' := [(6, _), (4, _), (2, _), (0, _)]) 42 dX3_nearest_40 rfl rfl rfl ?_
      refine z_iload 44 dX3_nearest_42 rfl rfl ?_
      refine z_if_eq 53 47 dX3_nearest_44 (by decide) rfl ⟨by omega, by omega⟩ (fun h44 => ?_) (fun h44 => ?_)
      · refine z_lload_n 54 dX3_nearest_53 rfl rfl ?_
        refine z_lreturn rfl dX3_nearest_54 (by decide) (by decide) ?_
        first
        | (exfalso; omega)
        | (refine ⟨congrArg (fun z => some (vL z)) ?_, rfl⟩
           unfold neaC
           unfold ld at *
           first | rw [if_pos (by omega)] | rw [if_neg (by omega)])
      · refine z_lload_n 48 dX3_nearest_47 rfl rfl ?_
        refine z_lconst (z := 1) 49 dX3_nearest_48 rfl rfl ?_
        refine z_ladd 50 dX3_nearest_49 rfl ?_
        refine z_goto 54 dX3_nearest_50 (by decide) ?_
        refine z_lreturn rfl dX3_nearest_54 (by decide) (by decide) ?_
        first
        | (exfalso; omega)
        | (refine ⟨congrArg (fun z => some (vL z)) ?_, rfl⟩
           unfold neaC
           unfold ld at *
           first | rw [if_pos (by omega)] | rw [if_neg (by omega)])
    · refine z_lload_n 28 dX3_nearest_27 rfl rfl ?_
      refine z_lconst (z := 1) 29 dX3_nearest_28 rfl rfl ?_
      refine z_land 30 dX3_nearest_29 rfl (land1 _) ?_
      refine z_lconst (z := 1) 31 dX3_nearest_30 rfl rfl ?_
      refine z_lcmp 32 dX3_nearest_31 rfl ⟨by omega, by omega⟩ ⟨by omega, by omega⟩ ?_
      refine z_if_ne 39 35 dX3_nearest_32 (by decide) rfl zlc_i (fun h32 => ?_) (fun h32 => ?_)
      · have h35 : ¬ (dl v % 2 = 1) := fun e => h32 (zlc_0.mpr e)
        refine z_iconst 40 dX3_nearest_39 rfl ?_
        refine z_istore (lv' := [(6, _), (4, _), (2, _), (0, _)]) 42 dX3_nearest_40 rfl rfl rfl ?_
        refine z_iload 44 dX3_nearest_42 rfl rfl ?_
        refine z_if_eq 53 47 dX3_nearest_44 (by decide) rfl ⟨by omega, by omega⟩ (fun h44 => ?_) (fun h44 => ?_)
        · refine z_lload_n 54 dX3_nearest_53 rfl rfl ?_
          refine z_lreturn rfl dX3_nearest_54 (by decide) (by decide) ?_
          first
          | (exfalso; omega)
          | (refine ⟨congrArg (fun z => some (vL z)) ?_, rfl⟩
             unfold neaC
             unfold ld at *
             first | rw [if_pos (by omega)] | rw [if_neg (by omega)])
        · refine z_lload_n 48 dX3_nearest_47 rfl rfl ?_
          refine z_lconst (z := 1) 49 dX3_nearest_48 rfl rfl ?_
          refine z_ladd 50 dX3_nearest_49 rfl ?_
          refine z_goto 54 dX3_nearest_50 (by decide) ?_
          refine z_lreturn rfl dX3_nearest_54 (by decide) (by decide) ?_
          first
          | (exfalso; omega)
          | (refine ⟨congrArg (fun z => some (vL z)) ?_, rfl⟩
             unfold neaC
             unfold ld at *
             first | rw [if_pos (by omega)] | rw [if_neg (by omega)])
      · have h35 : dl v % 2 = 1 := zlc_0.mp (by omega)
        refine z_iconst 36 dX3_nearest_35 rfl ?_
        refine z_goto 40 dX3_nearest_36 (by decide) ?_
        refine z_istore (lv' := [(6, _), (4, _), (2, _), (0, _)]) 42 dX3_nearest_40 rfl rfl rfl ?_
        refine z_iload 44 dX3_nearest_42 rfl rfl ?_
        refine z_if_eq 53 47 dX3_nearest_44 (by decide) rfl ⟨by omega, by omega⟩ (fun h44 => ?_) (fun h44 => ?_)
        · refine z_lload_n 54 dX3_nearest_53 rfl rfl ?_
          refine z_lreturn rfl dX3_nearest_54 (by decide) (by decide) ?_
          first
          | (exfalso; omega)
          | (refine ⟨congrArg (fun z => some (vL z)) ?_, rfl⟩
             unfold neaC
             unfold ld at *
             first | rw [if_pos (by omega)] | rw [if_neg (by omega)])
        · refine z_lload_n 48 dX3_nearest_47 rfl rfl ?_
          refine z_lconst (z := 1) 49 dX3_nearest_48 rfl rfl ?_
          refine z_ladd 50 dX3_nearest_49 rfl ?_
          refine z_goto 54 dX3_nearest_50 (by decide) ?_
          refine z_lreturn rfl dX3_nearest_54 (by decide) (by decide) ?_
          first
          | (exfalso; omega)
          | (refine ⟨congrArg (fun z => some (vL z)) ?_, rfl⟩
             unfold neaC
             unfold ld at *
             first | rw [if_pos (by omega)] | rw [if_neg (by omega)])
set_option maxRecDepth 20000 in
theorem c_turnedDouble {t : zT} {v : UInt64} {g : UInt32} {u : Int} (hv : TD v) (hD : DF v) (hu : 0 ≤ u ∧ u ≤ 7) : zM yX3_turnedDouble cX3_turnedDouble 3 (some .long) 1 0 0 [vD v, vI u] t (fun r t1 => r = some (vL (turn v g u)) ∧ t1 = t) := by
  refine zM.of2 [(0, vD v), (2, vI u)] (by decide +kernel) rfl (Nat.le_of_ble_eq_true rfl) ?_
  obtain ⟨hn1, hn2, hn3⟩ := near_n hv
  have hcn := ceil_n hv
  refine z_iload_n 1 dX3_turnedDouble_0 rfl rfl ?_
  by_cases hs1 : u < 0 ∨ 6 < u
  · refine z_swOut 160 dX3_turnedDouble_1 ⟨by omega, by omega⟩ hs1 (by decide) ?_
    refine z_dload_n 161 dX3_turnedDouble_160 rfl rfl ?_
    refine z_dconst0 162 dX3_turnedDouble_161 rfl ?_
    refine z_dcmp 163 dX3_turnedDouble_162 rfl ?_
    refine z_if_ge 172 166 dX3_turnedDouble_163 (by decide) rfl zfc_i (fun h163 => ?_) (fun h163 => ?_)
    · refine z_ldc2l 175 co_X3_260 dX3_turnedDouble_172 rfl ?_
      refine z_lreturn rfl dX3_turnedDouble_175 (by decide) (by decide) ?_
      refine ⟨congrArg (fun z => some (vL z)) ?_, rfl⟩
      rw [show u = 7 by omega, turn_7]
      first | done | rfl | rw [if_pos (by omega)] | (rw [if_neg (by omega)]; first | done | rw [if_pos (by omega)] | rw [if_neg (by omega)])
    · refine z_ldc2l 169 co_X3_225 dX3_turnedDouble_166 rfl ?_
      refine z_goto 175 dX3_turnedDouble_169 (by decide) ?_
      refine z_lreturn rfl dX3_turnedDouble_175 (by decide) (by decide) ?_
      refine ⟨congrArg (fun z => some (vL z)) ?_, rfl⟩
      rw [show u = 7 by omega, turn_7]
      first | done | rfl | rw [if_pos (by omega)] | (rw [if_neg (by omega)]; first | done | rw [if_pos (by omega)] | rw [if_neg (by omega)])
  · obtain hs1 | hs1 | hs1 | hs1 | hs1 | hs1 | hs1 : u = 0 ∨ u = 1 ∨ u = 2 ∨ u = 3 ∨ u = 4 ∨ u = 5 ∨ u = 6 := by omega
    · refine z_swIn 44 dX3_turnedDouble_1 ⟨by omega, by omega⟩ (by omega) (by omega) (by rw [hs1]; rfl) (by decide) ?_
      refine z_dload_n 45 dX3_turnedDouble_44 rfl rfl ?_
      refine z_callS 48 [_] la_X3_notAbove ml_X3_247 sm_X3_notAbove (c_notAbove) rfl rfl (by decide) (Nat.le_of_ble_eq_true rfl) (by decide) (by decide) dX3_turnedDouble_45 rfl (fun r t hq => ?_)
      obtain ⟨rfl, rfl⟩ := hq
      refine z_lreturn rfl dX3_turnedDouble_48 (by decide) (by decide) ?_
      refine ⟨congrArg (fun z => some (vL z)) ?_, rfl⟩
      rw [hs1, turn_0]
    · refine z_swIn 49 dX3_turnedDouble_1 ⟨by omega, by omega⟩ (by omega) (by omega) (by rw [hs1]; rfl) (by decide) ?_
      refine z_dload_n 50 dX3_turnedDouble_49 rfl rfl ?_
      refine z_dneg 51 dX3_turnedDouble_50 rfl ?_
      refine z_callS 54 [_] la_X3_notAbove ml_X3_247 sm_X3_notAbove (c_notAbove) rfl rfl (by decide) (Nat.le_of_ble_eq_true rfl) (by decide) (by decide) dX3_turnedDouble_51 rfl (fun r t hq => ?_)
      obtain ⟨rfl, rfl⟩ := hq
      refine z_lneg 55 dX3_turnedDouble_54 rfl ?_
      refine z_lreturn rfl dX3_turnedDouble_55 (by decide) (by decide) ?_
      refine ⟨congrArg (fun z => some (vL z)) ?_, rfl⟩
      rw [hs1, turn_1]
      exact hcn
    · refine z_swIn 56 dX3_turnedDouble_1 ⟨by omega, by omega⟩ (by omega) (by omega) (by rw [hs1]; rfl) (by decide) ?_
      refine z_dload_n 57 dX3_turnedDouble_56 rfl rfl ?_
      refine z_dconst0 58 dX3_turnedDouble_57 rfl ?_
      refine z_dcmp 59 dX3_turnedDouble_58 rfl ?_
      refine z_if_ge 71 62 dX3_turnedDouble_59 (by decide) rfl zfc_i (fun h59 => ?_) (fun h59 => ?_)
      · refine z_dload_n 72 dX3_turnedDouble_71 rfl rfl ?_
        refine z_callS 75 [_] la_X3_nearest ml_X3_251 sm_X3_nearest (c_nearest hn1) rfl rfl (by decide) (Nat.le_of_ble_eq_true rfl) (by decide) (by decide) dX3_turnedDouble_72 rfl (fun r t hq => ?_)
        obtain ⟨rfl, rfl⟩ := hq
        refine z_lreturn rfl dX3_turnedDouble_75 (by decide) (by decide) ?_
        refine ⟨congrArg (fun z => some (vL z)) ?_, rfl⟩
        rw [hs1, turn_2]
        rw [← hn3]; first | rw [if_pos (by omega)] | rw [if_neg (by omega)]
      · refine z_dload_n 63 dX3_turnedDouble_62 rfl rfl ?_
        refine z_dneg 64 dX3_turnedDouble_63 rfl ?_
        refine z_callS 67 [_] la_X3_nearest ml_X3_251 sm_X3_nearest (c_nearest hn2) rfl rfl (by decide) (Nat.le_of_ble_eq_true rfl) (by decide) (by decide) dX3_turnedDouble_64 rfl (fun r t hq => ?_)
        obtain ⟨rfl, rfl⟩ := hq
        refine z_lneg 68 dX3_turnedDouble_67 rfl ?_
        refine z_goto 75 dX3_turnedDouble_68 (by decide) ?_
        refine z_lreturn rfl dX3_turnedDouble_75 (by decide) (by decide) ?_
        refine ⟨congrArg (fun z => some (vL z)) ?_, rfl⟩
        rw [hs1, turn_2]
        rw [← hn3]; first | rw [if_pos (by omega)] | rw [if_neg (by omega)]
    · refine z_swIn 76 dX3_turnedDouble_1 ⟨by omega, by omega⟩ (by omega) (by omega) (by rw [hs1]; rfl) (by decide) ?_
      refine z_dload_n 77 dX3_turnedDouble_76 rfl rfl ?_
      refine z_dconst0 78 dX3_turnedDouble_77 rfl ?_
      refine z_dcmp 79 dX3_turnedDouble_78 rfl ?_
      refine z_if_ge 88 82 dX3_turnedDouble_79 (by decide) rfl zfc_i (fun h79 => ?_) (fun h79 => ?_)
      · refine z_dload_n 89 dX3_turnedDouble_88 rfl rfl ?_
        refine z_dconst0 90 dX3_turnedDouble_89 rfl ?_
        refine z_dcmp 91 dX3_turnedDouble_90 rfl ?_
        refine z_if_le 98 94 dX3_turnedDouble_91 (by decide) rfl zfc_i (fun h91 => ?_) (fun h91 => ?_)
        · refine z_lconst (z := 0) 99 dX3_turnedDouble_98 rfl rfl ?_
          refine z_lreturn rfl dX3_turnedDouble_99 (by decide) (by decide) ?_
          refine ⟨congrArg (fun z => some (vL z)) ?_, rfl⟩
          rw [hs1, turn_3]
          first | done | rfl | rw [if_pos (by omega)] | (rw [if_neg (by omega)]; first | done | rw [if_pos (by omega)] | rw [if_neg (by omega)])
        · refine z_lconst (z := 1) 95 dX3_turnedDouble_94 rfl rfl ?_
          refine z_goto 99 dX3_turnedDouble_95 (by decide) ?_
          refine z_lreturn rfl dX3_turnedDouble_99 (by decide) (by decide) ?_
          refine ⟨congrArg (fun z => some (vL z)) ?_, rfl⟩
          rw [hs1, turn_3]
          first | done | rfl | rw [if_pos (by omega)] | (rw [if_neg (by omega)]; first | done | rw [if_pos (by omega)] | rw [if_neg (by omega)])
      · refine z_ldc2l 85 co_X3_254 dX3_turnedDouble_82 rfl ?_
        refine z_goto 99 dX3_turnedDouble_85 (by decide) ?_
        refine z_lreturn rfl dX3_turnedDouble_99 (by decide) (by decide) ?_
        refine ⟨congrArg (fun z => some (vL z)) ?_, rfl⟩
        rw [hs1, turn_3]
        first | done | rfl | rw [if_pos (by omega)] | (rw [if_neg (by omega)]; first | done | rw [if_pos (by omega)] | rw [if_neg (by omega)])
    · refine z_swIn 100 dX3_turnedDouble_1 ⟨by omega, by omega⟩ (by omega) (by omega) (by rw [hs1]; rfl) (by decide) ?_
      refine z_ldc2d 103 co_X3_256 dX3_turnedDouble_100 rfl ?_
      refine z_dload_n 104 dX3_turnedDouble_103 rfl rfl ?_
      refine z_dconst0 105 dX3_turnedDouble_104 rfl ?_
      refine z_dcmp 106 dX3_turnedDouble_105 rfl ?_
      refine z_if_ge 114 109 dX3_turnedDouble_106 (by decide) rfl zfc_i (fun h106 => ?_) (fun h106 => ?_)
      · refine z_dload_n 115 dX3_turnedDouble_114 rfl rfl ?_
        refine z_dmul 116 dX3_turnedDouble_115 rfl (by first | exact hD.mul8 | exact hD.neg.mul8) ?_
        refine z_d2l 117 dX3_turnedDouble_116 rfl (dl_eq _) ?_
        refine z_lreturn rfl dX3_turnedDouble_117 (by decide) (by decide) ?_
        refine ⟨congrArg (fun z => some (vL z)) ?_, rfl⟩
        rw [hs1, turn_4]
        first | done | rfl | rw [if_pos (by omega)] | (rw [if_neg (by omega)]; first | done | rw [if_pos (by omega)] | rw [if_neg (by omega)])
      · refine z_dload_n 110 dX3_turnedDouble_109 rfl rfl ?_
        refine z_dneg 111 dX3_turnedDouble_110 rfl ?_
        refine z_goto 115 dX3_turnedDouble_111 (by decide) ?_
        refine z_dmul 116 dX3_turnedDouble_115 rfl (by first | exact hD.mul8 | exact hD.neg.mul8) ?_
        refine z_d2l 117 dX3_turnedDouble_116 rfl (dl_eq _) ?_
        refine z_lreturn rfl dX3_turnedDouble_117 (by decide) (by decide) ?_
        refine ⟨congrArg (fun z => some (vL z)) ?_, rfl⟩
        rw [hs1, turn_4]
        first | done | rfl | rw [if_pos (by omega)] | (rw [if_neg (by omega)]; first | done | rw [if_pos (by omega)] | rw [if_neg (by omega)])
    · refine z_swIn 118 dX3_turnedDouble_1 ⟨by omega, by omega⟩ (by omega) (by omega) (by rw [hs1]; rfl) (by decide) ?_
      refine z_ldc2d 121 co_X3_256 dX3_turnedDouble_118 rfl ?_
      refine z_dload_n 122 dX3_turnedDouble_121 rfl rfl ?_
      refine z_ldc2d 125 co_X3_258 dX3_turnedDouble_122 rfl ?_
      refine z_dcmp 126 dX3_turnedDouble_125 rfl ?_
      refine z_if_le 133 129 dX3_turnedDouble_126 (by decide) rfl zfc_i (fun h126 => ?_) (fun h126 => ?_)
      · refine z_ldc2d 136 co_X3_258 dX3_turnedDouble_133 rfl ?_
        refine z_dmul 137 dX3_turnedDouble_136 rfl (by first | exact hD.mul8 | exact DF.q.mul8) ?_
        refine z_d2l 138 dX3_turnedDouble_137 rfl (dl_eq _) ?_
        refine z_lreturn rfl dX3_turnedDouble_138 (by decide) (by decide) ?_
        refine ⟨congrArg (fun z => some (vL z)) ?_, rfl⟩
        rw [hs1, turn_5]
        first | done | rfl | rw [if_pos (by omega)] | (rw [if_neg (by omega)]; first | done | rw [if_pos (by omega)] | rw [if_neg (by omega)])
      · refine z_dload_n 130 dX3_turnedDouble_129 rfl rfl ?_
        refine z_goto 136 dX3_turnedDouble_130 (by decide) ?_
        refine z_dmul 137 dX3_turnedDouble_136 rfl (by first | exact hD.mul8 | exact DF.q.mul8) ?_
        refine z_d2l 138 dX3_turnedDouble_137 rfl (dl_eq _) ?_
        refine z_lreturn rfl dX3_turnedDouble_138 (by decide) (by decide) ?_
        refine ⟨congrArg (fun z => some (vL z)) ?_, rfl⟩
        rw [hs1, turn_5]
        first | done | rfl | rw [if_pos (by omega)] | (rw [if_neg (by omega)]; first | done | rw [if_pos (by omega)] | rw [if_neg (by omega)])
    · refine z_swIn 139 dX3_turnedDouble_1 ⟨by omega, by omega⟩ (by omega) (by omega) (by rw [hs1]; rfl) (by decide) ?_
      refine z_ldc2d 142 co_X3_256 dX3_turnedDouble_139 rfl ?_
      refine z_dload_n 143 dX3_turnedDouble_142 rfl rfl ?_
      refine z_ldc2d 146 co_X3_258 dX3_turnedDouble_143 rfl ?_
      refine z_dcmp 147 dX3_turnedDouble_146 rfl ?_
      refine z_if_ge 154 150 dX3_turnedDouble_147 (by decide) rfl zfc_i (fun h147 => ?_) (fun h147 => ?_)
      · refine z_ldc2d 157 co_X3_258 dX3_turnedDouble_154 rfl ?_
        refine z_dmul 158 dX3_turnedDouble_157 rfl (by first | exact hD.mul8 | exact DF.q.mul8) ?_
        refine z_d2l 159 dX3_turnedDouble_158 rfl (dl_eq _) ?_
        refine z_lreturn rfl dX3_turnedDouble_159 (by decide) (by decide) ?_
        refine ⟨congrArg (fun z => some (vL z)) ?_, rfl⟩
        rw [hs1, turn_6]
        first | done | rfl | rw [if_pos (by omega)] | (rw [if_neg (by omega)]; first | done | rw [if_pos (by omega)] | rw [if_neg (by omega)])
      · refine z_dload_n 151 dX3_turnedDouble_150 rfl rfl ?_
        refine z_goto 157 dX3_turnedDouble_151 (by decide) ?_
        refine z_dmul 158 dX3_turnedDouble_157 rfl (by first | exact hD.mul8 | exact DF.q.mul8) ?_
        refine z_d2l 159 dX3_turnedDouble_158 rfl (dl_eq _) ?_
        refine z_lreturn rfl dX3_turnedDouble_159 (by decide) (by decide) ?_
        refine ⟨congrArg (fun z => some (vL z)) ?_, rfl⟩
        rw [hs1, turn_6]
        first | done | rfl | rw [if_pos (by omega)] | (rw [if_neg (by omega)]; first | done | rw [if_pos (by omega)] | rw [if_neg (by omega)])
set_option maxRecDepth 20000 in
theorem c_turnedFloat {t : zT} {v : UInt32} {d : UInt64} {u : Int} (hF : FF v) (hu : 3 ≤ u ∧ u ≤ 7) : zM yX3_turnedFloat cX3_turnedFloat 2 (some .long) 0 0 0 [vF v, vI u] t (fun r t1 => r = some (vL (turn d v (u + 5))) ∧ t1 = t) := by
  refine zM.of2 [(0, vF v), (1, vI u)] (by decide +kernel) rfl (Nat.le_of_ble_eq_true rfl) ?_
  refine z_iload_n 1 dX3_turnedFloat_0 rfl rfl ?_
  by_cases hs1 : u < 3 ∨ 6 < u
  · refine z_swOut 116 dX3_turnedFloat_1 ⟨by omega, by omega⟩ hs1 (by decide) ?_
    refine z_fload_n 117 dX3_turnedFloat_116 rfl rfl ?_
    refine z_fconst0 118 dX3_turnedFloat_117 rfl ?_
    refine z_fcmp 119 dX3_turnedFloat_118 rfl ?_
    refine z_if_ge 128 122 dX3_turnedFloat_119 (by decide) rfl zfc_i (fun h119 => ?_) (fun h119 => ?_)
    · refine z_ldc2l 131 co_X3_260 dX3_turnedFloat_128 rfl ?_
      refine z_lreturn rfl dX3_turnedFloat_131 (by decide) (by decide) ?_
      refine ⟨congrArg (fun z => some (vL z)) ?_, rfl⟩
      rw [show u = 7 by omega]; show _ = turn d v 12; rw [show turn d v 12 = (if zfc (FP.fcmp v 0) CmpOp.g < 0 then -2 else 2) from rfl]
      first | done | rfl | rw [if_pos (by omega)] | (rw [if_neg (by omega)]; first | done | rw [if_pos (by omega)] | rw [if_neg (by omega)])
    · refine z_ldc2l 125 co_X3_225 dX3_turnedFloat_122 rfl ?_
      refine z_goto 131 dX3_turnedFloat_125 (by decide) ?_
      refine z_lreturn rfl dX3_turnedFloat_131 (by decide) (by decide) ?_
      refine ⟨congrArg (fun z => some (vL z)) ?_, rfl⟩
      rw [show u = 7 by omega]; show _ = turn d v 12; rw [show turn d v 12 = (if zfc (FP.fcmp v 0) CmpOp.g < 0 then -2 else 2) from rfl]
      first | done | rfl | rw [if_pos (by omega)] | (rw [if_neg (by omega)]; first | done | rw [if_pos (by omega)] | rw [if_neg (by omega)])
  · obtain hs1 | hs1 | hs1 | hs1 : u = 3 ∨ u = 4 ∨ u = 5 ∨ u = 6 := by omega
    · refine z_swIn 32 dX3_turnedFloat_1 ⟨by omega, by omega⟩ (by omega) (by omega) (by rw [hs1]; rfl) (by decide) ?_
      refine z_fload_n 33 dX3_turnedFloat_32 rfl rfl ?_
      refine z_fconst0 34 dX3_turnedFloat_33 rfl ?_
      refine z_fcmp 35 dX3_turnedFloat_34 rfl ?_
      refine z_if_ge 44 38 dX3_turnedFloat_35 (by decide) rfl zfc_i (fun h35 => ?_) (fun h35 => ?_)
      · refine z_fload_n 45 dX3_turnedFloat_44 rfl rfl ?_
        refine z_fconst0 46 dX3_turnedFloat_45 rfl ?_
        refine z_fcmp 47 dX3_turnedFloat_46 rfl ?_
        refine z_if_le 54 50 dX3_turnedFloat_47 (by decide) rfl zfc_i (fun h47 => ?_) (fun h47 => ?_)
        · refine z_lconst (z := 0) 55 dX3_turnedFloat_54 rfl rfl ?_
          refine z_lreturn rfl dX3_turnedFloat_55 (by decide) (by decide) ?_
          refine ⟨congrArg (fun z => some (vL z)) ?_, rfl⟩
          rw [hs1]; show _ = turn d v 8; rw [turn_8]
          first | done | rfl | rw [if_pos (by omega)] | (rw [if_neg (by omega)]; first | done | rw [if_pos (by omega)] | rw [if_neg (by omega)])
        · refine z_lconst (z := 1) 51 dX3_turnedFloat_50 rfl rfl ?_
          refine z_goto 55 dX3_turnedFloat_51 (by decide) ?_
          refine z_lreturn rfl dX3_turnedFloat_55 (by decide) (by decide) ?_
          refine ⟨congrArg (fun z => some (vL z)) ?_, rfl⟩
          rw [hs1]; show _ = turn d v 8; rw [turn_8]
          first | done | rfl | rw [if_pos (by omega)] | (rw [if_neg (by omega)]; first | done | rw [if_pos (by omega)] | rw [if_neg (by omega)])
      · refine z_ldc2l 41 co_X3_254 dX3_turnedFloat_38 rfl ?_
        refine z_goto 55 dX3_turnedFloat_41 (by decide) ?_
        refine z_lreturn rfl dX3_turnedFloat_55 (by decide) (by decide) ?_
        refine ⟨congrArg (fun z => some (vL z)) ?_, rfl⟩
        rw [hs1]; show _ = turn d v 8; rw [turn_8]
        first | done | rfl | rw [if_pos (by omega)] | (rw [if_neg (by omega)]; first | done | rw [if_pos (by omega)] | rw [if_neg (by omega)])
    · refine z_swIn 56 dX3_turnedFloat_1 ⟨by omega, by omega⟩ (by omega) (by omega) (by rw [hs1]; rfl) (by decide) ?_
      refine z_ldcwf 59 co_X3_262 dX3_turnedFloat_56 rfl ?_
      refine z_fload_n 60 dX3_turnedFloat_59 rfl rfl ?_
      refine z_fconst0 61 dX3_turnedFloat_60 rfl ?_
      refine z_fcmp 62 dX3_turnedFloat_61 rfl ?_
      refine z_if_ge 70 65 dX3_turnedFloat_62 (by decide) rfl zfc_i (fun h62 => ?_) (fun h62 => ?_)
      · refine z_fload_n 71 dX3_turnedFloat_70 rfl rfl ?_
        refine z_fmul 72 dX3_turnedFloat_71 rfl (by first | exact hF.mul8 | exact hF.neg.mul8) ?_
        refine z_f2l 73 dX3_turnedFloat_72 rfl (fl_eq _) ?_
        refine z_lreturn rfl dX3_turnedFloat_73 (by decide) (by decide) ?_
        refine ⟨congrArg (fun z => some (vL z)) ?_, rfl⟩
        rw [hs1]; show _ = turn d v 9; rw [turn_9]
        first | done | rfl | rw [if_pos (by omega)] | (rw [if_neg (by omega)]; first | done | rw [if_pos (by omega)] | rw [if_neg (by omega)])
      · refine z_fload_n 66 dX3_turnedFloat_65 rfl rfl ?_
        refine z_fneg 67 dX3_turnedFloat_66 rfl ?_
        refine z_goto 71 dX3_turnedFloat_67 (by decide) ?_
        refine z_fmul 72 dX3_turnedFloat_71 rfl (by first | exact hF.mul8 | exact hF.neg.mul8) ?_
        refine z_f2l 73 dX3_turnedFloat_72 rfl (fl_eq _) ?_
        refine z_lreturn rfl dX3_turnedFloat_73 (by decide) (by decide) ?_
        refine ⟨congrArg (fun z => some (vL z)) ?_, rfl⟩
        rw [hs1]; show _ = turn d v 9; rw [turn_9]
        first | done | rfl | rw [if_pos (by omega)] | (rw [if_neg (by omega)]; first | done | rw [if_pos (by omega)] | rw [if_neg (by omega)])
    · refine z_swIn 74 dX3_turnedFloat_1 ⟨by omega, by omega⟩ (by omega) (by omega) (by rw [hs1]; rfl) (by decide) ?_
      refine z_ldcwf 77 co_X3_262 dX3_turnedFloat_74 rfl ?_
      refine z_fload_n 78 dX3_turnedFloat_77 rfl rfl ?_
      refine z_ldcwf 81 co_X3_263 dX3_turnedFloat_78 rfl ?_
      refine z_fcmp 82 dX3_turnedFloat_81 rfl ?_
      refine z_if_le 89 85 dX3_turnedFloat_82 (by decide) rfl zfc_i (fun h82 => ?_) (fun h82 => ?_)
      · refine z_ldcwf 92 co_X3_263 dX3_turnedFloat_89 rfl ?_
        refine z_fmul 93 dX3_turnedFloat_92 rfl (by first | exact hF.mul8 | exact FF.q.mul8) ?_
        refine z_f2l 94 dX3_turnedFloat_93 rfl (fl_eq _) ?_
        refine z_lreturn rfl dX3_turnedFloat_94 (by decide) (by decide) ?_
        refine ⟨congrArg (fun z => some (vL z)) ?_, rfl⟩
        rw [hs1]; show _ = turn d v 10; rw [turn_10]
        first | done | rfl | rw [if_pos (by omega)] | (rw [if_neg (by omega)]; first | done | rw [if_pos (by omega)] | rw [if_neg (by omega)])
      · refine z_fload_n 86 dX3_turnedFloat_85 rfl rfl ?_
        refine z_goto 92 dX3_turnedFloat_86 (by decide) ?_
        refine z_fmul 93 dX3_turnedFloat_92 rfl (by first | exact hF.mul8 | exact FF.q.mul8) ?_
        refine z_f2l 94 dX3_turnedFloat_93 rfl (fl_eq _) ?_
        refine z_lreturn rfl dX3_turnedFloat_94 (by decide) (by decide) ?_
        refine ⟨congrArg (fun z => some (vL z)) ?_, rfl⟩
        rw [hs1]; show _ = turn d v 10; rw [turn_10]
        first | done | rfl | rw [if_pos (by omega)] | (rw [if_neg (by omega)]; first | done | rw [if_pos (by omega)] | rw [if_neg (by omega)])
    · refine z_swIn 95 dX3_turnedFloat_1 ⟨by omega, by omega⟩ (by omega) (by omega) (by rw [hs1]; rfl) (by decide) ?_
      refine z_ldcwf 98 co_X3_262 dX3_turnedFloat_95 rfl ?_
      refine z_fload_n 99 dX3_turnedFloat_98 rfl rfl ?_
      refine z_ldcwf 102 co_X3_263 dX3_turnedFloat_99 rfl ?_
      refine z_fcmp 103 dX3_turnedFloat_102 rfl ?_
      refine z_if_ge 110 106 dX3_turnedFloat_103 (by decide) rfl zfc_i (fun h103 => ?_) (fun h103 => ?_)
      · refine z_ldcwf 113 co_X3_263 dX3_turnedFloat_110 rfl ?_
        refine z_fmul 114 dX3_turnedFloat_113 rfl (by first | exact hF.mul8 | exact FF.q.mul8) ?_
        refine z_f2l 115 dX3_turnedFloat_114 rfl (fl_eq _) ?_
        refine z_lreturn rfl dX3_turnedFloat_115 (by decide) (by decide) ?_
        refine ⟨congrArg (fun z => some (vL z)) ?_, rfl⟩
        rw [hs1]; show _ = turn d v 11; rw [turn_11]
        first | done | rfl | rw [if_pos (by omega)] | (rw [if_neg (by omega)]; first | done | rw [if_pos (by omega)] | rw [if_neg (by omega)])
      · refine z_fload_n 107 dX3_turnedFloat_106 rfl rfl ?_
        refine z_goto 113 dX3_turnedFloat_107 (by decide) ?_
        refine z_fmul 114 dX3_turnedFloat_113 rfl (by first | exact hF.mul8 | exact FF.q.mul8) ?_
        refine z_f2l 115 dX3_turnedFloat_114 rfl (fl_eq _) ?_
        refine z_lreturn rfl dX3_turnedFloat_115 (by decide) (by decide) ?_
        refine ⟨congrArg (fun z => some (vL z)) ?_, rfl⟩
        rw [hs1]; show _ = turn d v 11; rw [turn_11]
        first | done | rfl | rw [if_pos (by omega)] | (rw [if_neg (by omega)]; first | done | rw [if_pos (by omega)] | rw [if_neg (by omega)])
set_option maxRecDepth 20000 in
theorem c_turned {m : Nat → Int → Int} {f : Nat → Int → UInt32} {a : Nat → Int → Nat} {t : zT} (hR : CA m f a t) {p : Int} (hp : zi p) {w : Int} (hw : zi w) {u : Int} (hu : zi u) (hW : WF m f) (hX : XI m f) : zM yX3_turned cX3_turned 6 (some .long) 31 0 0 [vR (rf a 0 0), vI p, vI w, vI u] t (fun r t1 => r = some (vL (a_turned m f p w u)) ∧ CP (a 0 0) (m, f) t1) := by
  refine zM.of2 [(0, vR (rf a 0 0)), (1, vI p), (2, vI w), (3, vI u)] (by decide +kernel) rfl (Nat.le_of_ble_eq_true rfl) ?_
  obtain ⟨hp1, hp2⟩ := hp
  obtain ⟨hw1, hw2⟩ := hw
  obtain ⟨hu1, hu2⟩ := hu
  have hn1 := hW.n.1
  have hn2 := hW.n.2
  have h60 := hX.1.1
  have h62 := hX.1.2.1
  have h64 := hX.1.2.2
  refine z_aload_n 1 dX3_turned_0 rfl rfl ?_
  refine z_iload_n 2 dX3_turned_1 rfl rfl ?_
  refine z_callV 5 [_] la_X3_pieceNotGone ml_X3_152 im_X3_pieceNotGone se_X3_pieceNotGone (hR.lv 0 0 (by decide) l0).1 (hR.lv 0 0 (by decide) l0).2.1 (by decide) rfl rfl (c_pieceNotGone hR ⟨by omega, by omega⟩ hW hX) rfl rfl (by decide) (Nat.le_of_ble_eq_true rfl) (by decide) (by decide) dX3_turned_2 rfl (fun r t hq => ?_)
  obtain ⟨v, rfl, hv, hR⟩ := hq
  refine z_astore (lv' := [(4, _), (0, _), (1, _), (2, _), (3, _)]) 7 dX3_turned_5 rfl rfl rfl ?_
  refine z_aload 9 dX3_turned_7 rfl rfl ?_
  refine c_ifnull 32 12 dX3_turned_9 (by decide) rfl  (fun h9 => ?_) (fun h9 => ?_)
  · refine z_ldc2l 35 co_X3_235 dX3_turned_32 rfl ?_
    refine z_lreturn rfl dX3_turned_35 (by decide) (by decide) ?_
    refine ⟨congrArg (fun z => some (vL z)) ?_, CP.rf hR hX⟩
    unfold a_turned there cif; rw [if_pos (by omega)]
  · obtain rfl : p = v := by omega
    have hBp := hW.b (p := p) (by omega) (by omega)
    have hl : live m p := ⟨by omega, by omega, by omega⟩
    refine z_iload_n 13 dX3_turned_12 rfl rfl ?_
    refine z_if_lt 32 16 dX3_turned_13 (by decide) rfl ⟨by omega, by omega⟩ (fun h13 => ?_) (fun h13 => ?_)
    · refine z_ldc2l 35 co_X3_235 dX3_turned_32 rfl ?_
      refine z_lreturn rfl dX3_turned_35 (by decide) (by decide) ?_
      refine ⟨congrArg (fun z => some (vL z)) ?_, CP.rf hR hX⟩
      unfold a_turned there cif; rw [if_pos (by omega)]
    · refine z_iload_n 17 dX3_turned_16 rfl rfl ?_
      refine z_ldc 19 co_X3_39 dX3_turned_17 rfl ?_
      refine z_icmp_gt 32 22 dX3_turned_19 (by decide) rfl ⟨by omega, by omega⟩ ⟨by omega, by omega⟩ (fun h19 => ?_) (fun h19 => ?_)
      · refine z_ldc2l 35 co_X3_235 dX3_turned_32 rfl ?_
        refine z_lreturn rfl dX3_turned_35 (by decide) (by decide) ?_
        refine ⟨congrArg (fun z => some (vL z)) ?_, CP.rf hR hX⟩
        unfold a_turned there cif; rw [if_pos (by omega)]
      · refine z_iload_n 23 dX3_turned_22 rfl rfl ?_
        refine z_if_lt 32 26 dX3_turned_23 (by decide) rfl ⟨by omega, by omega⟩ (fun h23 => ?_) (fun h23 => ?_)
        · refine z_ldc2l 35 co_X3_235 dX3_turned_32 rfl ?_
          refine z_lreturn rfl dX3_turned_35 (by decide) (by decide) ?_
          refine ⟨congrArg (fun z => some (vL z)) ?_, CP.rf hR hX⟩
          unfold a_turned there cif; rw [if_pos (by omega)]
        · refine z_iload_n 27 dX3_turned_26 rfl rfl ?_
          refine z_bipush 29 dX3_turned_27 rfl ⟨by decide, by decide⟩ ?_
          refine z_icmp_le 36 32 dX3_turned_29 (by decide) rfl ⟨by omega, by omega⟩ ⟨by omega, by omega⟩ (fun h29 => ?_) (fun h29 => ?_)
          · refine z_aload 38 dX3_turned_36 rfl rfl ?_
            refine z_callS 41 [_] la_X3_leastBorne ml_X3_221 sm_X3_leastBorne (c_leastBorne hR hW hX hl) rfl rfl (by decide) (Nat.le_of_ble_eq_true rfl) (by decide) (by decide) dX3_turned_38 rfl (fun r t hq => ?_)
            obtain ⟨rfl, hR⟩ := hq
            have hok := least_ok hW hl
            obtain ⟨hn1a, hn2a, hn3a, hn4a, hn5a⟩ := okv_td hok (e := w) (by omega) (by omega)
            refine z_fstore (lv' := [(5, _), (4, _), (0, _), (1, _), (2, _), (3, _)]) 43 dX3_turned_41 rfl rfl rfl ?_
            refine z_iload_n 44 dX3_turned_43 rfl rfl ?_
            refine z_bipush 46 dX3_turned_44 rfl ⟨by decide, by decide⟩ ?_
            refine z_icmp_lt 64 49 dX3_turned_46 (by decide) rfl ⟨by omega, by omega⟩ ⟨by omega, by omega⟩ (fun h46 => ?_) (fun h46 => ?_)
            · refine z_fload 66 dX3_turned_64 rfl rfl ?_
              refine z_f2d 67 dX3_turned_66 rfl (okv_f2d hok) ?_
              refine z_iload_n 68 dX3_turned_67 rfl rfl ?_
              refine z_i2d 69 dX3_turned_68 rfl ?_
              refine z_ldc2d 72 co_X3_241 dX3_turned_69 rfl ?_
              refine z_dmul 73 dX3_turned_72 rfl (hn1a) ?_
              refine z_dsub 74 dX3_turned_73 rfl (hn2a) ?_
              refine z_top (w := vD (td (leastv m f p) w)) rfl ?_
              refine z_iload_n 75 dX3_turned_74 rfl rfl ?_
              refine z_callS 78 [_, _] la_X3_turnedDouble ml_X3_243 sm_X3_turnedDouble (c_turnedDouble (g := tf (leastv m f p) w) ⟨_, _, hok, by omega, by omega, rfl⟩ hn4a ⟨by omega, by omega⟩) rfl rfl (by decide) (Nat.le_of_ble_eq_true rfl) (by decide) (by decide) dX3_turned_75 rfl (fun r t hq => ?_)
              obtain ⟨rfl, rfl⟩ := hq
              refine z_lreturn rfl dX3_turned_78 (by decide) (by decide) ?_
              refine ⟨congrArg (fun z => some (vL z)) ?_, CP.rf hR hX⟩
              unfold a_turned there cif; rw [if_neg (by omega)]
            · refine z_fload 51 dX3_turned_49 rfl rfl ?_
              refine z_iload_n 52 dX3_turned_51 rfl rfl ?_
              refine z_i2f 53 dX3_turned_52 rfl ?_
              refine z_ldcf 55 co_X3_44 dX3_turned_53 rfl ?_
              refine z_fmul 56 dX3_turned_55 rfl (E8_num (by omega) (by omega)) ?_
              refine z_fsub 57 dX3_turned_56 rfl (hn3a) ?_
              refine z_top (w := vF (tf (leastv m f p) w)) rfl ?_
              refine z_iload_n 58 dX3_turned_57 rfl rfl ?_
              refine z_iconst 59 dX3_turned_58 rfl ?_
              refine z_isub 60 dX3_turned_59 rfl ?_
              refine z_callS 63 [_, _] la_X3_turnedFloat ml_X3_237 sm_X3_turnedFloat (c_turnedFloat (d := td (leastv m f p) w) hn5a ⟨by omega, by omega⟩) rfl rfl (by decide) (Nat.le_of_ble_eq_true rfl) (by decide) (by decide) dX3_turned_60 rfl (fun r t hq => ?_)
              obtain ⟨rfl, rfl⟩ := hq
              refine z_lreturn rfl dX3_turned_63 (by decide) (by decide) ?_
              refine ⟨congrArg (fun z => some (vL z)) ?_, CP.rf hR hX⟩
              unfold a_turned there cif; rw [if_neg (by omega), show u - 5 + 5 = u by omega]
          · refine z_ldc2l 35 co_X3_235 dX3_turned_32 rfl ?_
            refine z_lreturn rfl dX3_turned_35 (by decide) (by decide) ?_
            refine ⟨congrArg (fun z => some (vL z)) ?_, CP.rf hR hX⟩
            unfold a_turned there cif; rw [if_pos (by omega)]
