set_option maxRecDepth 20000 in
theorem r_isPiece {m : Nat → Int → Int} {f : Nat → Int → UInt32} {x : Nat} {g : Nat → Nat} {t : zT} (hR : RA m f x g t) {p : Int} (hp : zi p) (hn : 0 ≤ m 0 0 ∧ m 0 0 ≤ 120) : zM yX4_isPiece cX4_isPiece 2 (some .boolean) 0 0 0 [vR (some x), vI p] t (fun r t1 => ∃ z, r = some (vI z) ∧ 0 ≤ z ∧ z ≤ 1 ∧ (z = 1 ↔ (0 ≤ p ∧ p < m 0 0)) ∧ RA m f x g t1) := by
  refine zM.of [(0, vR (some x)), (1, vI p)] (by decide +kernel) rfl (Nat.le_of_ble_eq_true rfl) ?_
  obtain ⟨hp1, hp2⟩ := hp
  obtain ⟨hn1, hn2⟩ := hn
  refine z_iload_n 1 dX4_isPiece_0 rfl rfl ?_
  refine z_if_lt 16 4 dX4_isPiece_1 (by decide) rfl ⟨by omega, by omega⟩ (fun h1 => ?_) (fun h1 => ?_)
  · refine z_iconst 17 dX4_isPiece_16 rfl ?_
    refine z_zreturn rfl (by first | exact Or.inl rfl | exact Or.inr rfl | omega) dX4_isPiece_17 (by decide) (by decide) ?_
    refine ⟨_, rfl, by omega, by omega, by omega, hR⟩
  · refine z_iload_n 5 dX4_isPiece_4 rfl rfl ?_
    refine z_aload_n 6 dX4_isPiece_5 rfl rfl ?_
    refine r_getI 9 hR fl_X4_105 (by decide) dX4_isPiece_6 rfl ?_
    refine z_icmp_ge 16 12 dX4_isPiece_9 (by decide) rfl ⟨by omega, by omega⟩ ⟨by omega, by omega⟩ (fun h9 => ?_) (fun h9 => ?_)
    · refine z_iconst 17 dX4_isPiece_16 rfl ?_
      refine z_zreturn rfl (by first | exact Or.inl rfl | exact Or.inr rfl | omega) dX4_isPiece_17 (by decide) (by decide) ?_
      refine ⟨_, rfl, by omega, by omega, by omega, hR⟩
    · refine z_iconst 13 dX4_isPiece_12 rfl ?_
      refine z_goto 17 dX4_isPiece_13 (by decide) ?_
      refine z_zreturn rfl (by first | exact Or.inl rfl | exact Or.inr rfl | omega) dX4_isPiece_17 (by decide) (by decide) ?_
      refine ⟨_, rfl, by omega, by omega, by omega, hR⟩
set_option maxRecDepth 20000 in
theorem r_isThere {m : Nat → Int → Int} {f : Nat → Int → UInt32} {x : Nat} {g : Nat → Nat} {t : zT} (hR : RA m f x g t) {p : Int} (hp : zi p) (hn : 0 ≤ m 0 0 ∧ m 0 0 ≤ 120) (h4 : ∀ p, 0 ≤ p → p < m 0 0 → 0 ≤ m 4 p ∧ m 4 p ≤ 3) : zM yX4_isThere cX4_isThere 2 (some .boolean) 1 0 0 [vR (some x), vI p] t (fun r t1 => ∃ z, r = some (vI z) ∧ 0 ≤ z ∧ z ≤ 1 ∧ (z = 1 ↔ (0 ≤ p ∧ p < m 0 0 ∧ m 4 p ≠ 3)) ∧ RA m f x g t1) := by
  refine zM.of [(0, vR (some x)), (1, vI p)] (by decide +kernel) rfl (Nat.le_of_ble_eq_true rfl) ?_
  obtain ⟨hp1, hp2⟩ := hp
  have hn1 := hn.1
  have hn2 := hn.2
  refine z_aload_n 1 dX4_isThere_0 rfl rfl ?_
  refine z_iload_n 2 dX4_isThere_1 rfl rfl ?_
  refine z_callV 5 [_] la_X4_isPiece ml_X4_109 im_X4_isPiece se_X4_isPiece hR.1.1 hR.1.2.1 (by decide) rfl rfl (r_isPiece hR ⟨hp1, hp2⟩ hn) rfl rfl (by decide) (Nat.le_of_ble_eq_true rfl) (by decide) (by decide) dX4_isThere_2 rfl (fun r t hq => ?_)
  obtain ⟨z, rfl, hz1, hz2, hz3, hR⟩ := hq
  refine z_if_eq 22 8 dX4_isThere_5 (by decide) rfl ⟨by omega, by omega⟩ (fun h5 => ?_) (fun h5 => ?_)
  · refine z_iconst 23 dX4_isThere_22 rfl ?_
    refine z_zreturn rfl (by first | exact Or.inl rfl | exact Or.inr rfl | omega) dX4_isThere_23 (by decide) (by decide) ?_
    refine ⟨_, rfl, by omega, by omega, by omega, hR⟩
  · have h4p := h4 p (by omega) (by omega)
    refine z_aload_n 9 dX4_isThere_8 rfl rfl ?_
    refine r_getP 12 hR fl_X4_19 (by decide) dX4_isThere_9 rfl ?_
    refine z_iload_n 13 dX4_isThere_12 rfl rfl ?_
    refine r_iald 14 4 120 hR rk4 ⟨by omega, by omega⟩ dX4_isThere_13 rfl ?_
    refine z_iconst 15 dX4_isThere_14 rfl ?_
    refine z_icmp_eq 22 18 dX4_isThere_15 (by decide) rfl ⟨by omega, by omega⟩ ⟨by omega, by omega⟩ (fun h15 => ?_) (fun h15 => ?_)
    · refine z_iconst 23 dX4_isThere_22 rfl ?_
      refine z_zreturn rfl (by first | exact Or.inl rfl | exact Or.inr rfl | omega) dX4_isThere_23 (by decide) (by decide) ?_
      refine ⟨_, rfl, by omega, by omega, by omega, hR⟩
    · refine z_iconst 19 dX4_isThere_18 rfl ?_
      refine z_goto 23 dX4_isThere_19 (by decide) ?_
      refine z_zreturn rfl (by first | exact Or.inl rfl | exact Or.inr rfl | omega) dX4_isThere_23 (by decide) (by decide) ?_
      refine ⟨_, rfl, by omega, by omega, by omega, hR⟩
set_option maxRecDepth 20000 in
theorem r_isFree {m : Nat → Int → Int} {f : Nat → Int → UInt32} {x : Nat} {g : Nat → Nat} {t : zT} (hR : RA m f x g t) {p : Int} (hp : zi p) (hn : 0 ≤ m 0 0 ∧ m 0 0 ≤ 120) (h4 : ∀ p, 0 ≤ p → p < m 0 0 → 0 ≤ m 4 p ∧ m 4 p ≤ 3) : zM yX4_isFree cX4_isFree 2 (some .boolean) 1 0 0 [vR (some x), vI p] t (fun r t1 => ∃ z, r = some (vI z) ∧ 0 ≤ z ∧ z ≤ 1 ∧ (z = 1 ↔ (0 ≤ p ∧ p < m 0 0 ∧ m 4 p = 0)) ∧ RA m f x g t1) := by
  refine zM.of [(0, vR (some x)), (1, vI p)] (by decide +kernel) rfl (Nat.le_of_ble_eq_true rfl) ?_
  obtain ⟨hp1, hp2⟩ := hp
  have hn1 := hn.1
  have hn2 := hn.2
  refine z_aload_n 1 dX4_isFree_0 rfl rfl ?_
  refine z_iload_n 2 dX4_isFree_1 rfl rfl ?_
  refine z_callV 5 [_] la_X4_isPiece ml_X4_109 im_X4_isPiece se_X4_isPiece hR.1.1 hR.1.2.1 (by decide) rfl rfl (r_isPiece hR ⟨hp1, hp2⟩ hn) rfl rfl (by decide) (Nat.le_of_ble_eq_true rfl) (by decide) (by decide) dX4_isFree_2 rfl (fun r t hq => ?_)
  obtain ⟨z, rfl, hz1, hz2, hz3, hR⟩ := hq
  refine z_if_eq 21 8 dX4_isFree_5 (by decide) rfl ⟨by omega, by omega⟩ (fun h5 => ?_) (fun h5 => ?_)
  · refine z_iconst 22 dX4_isFree_21 rfl ?_
    refine z_zreturn rfl (by first | exact Or.inl rfl | exact Or.inr rfl | omega) dX4_isFree_22 (by decide) (by decide) ?_
    refine ⟨_, rfl, by omega, by omega, by omega, hR⟩
  · have h4p := h4 p (by omega) (by omega)
    refine z_aload_n 9 dX4_isFree_8 rfl rfl ?_
    refine r_getP 12 hR fl_X4_19 (by decide) dX4_isFree_9 rfl ?_
    refine z_iload_n 13 dX4_isFree_12 rfl rfl ?_
    refine r_iald 14 4 120 hR rk4 ⟨by omega, by omega⟩ dX4_isFree_13 rfl ?_
    refine z_if_ne 21 17 dX4_isFree_14 (by decide) rfl ⟨by omega, by omega⟩ (fun h14 => ?_) (fun h14 => ?_)
    · refine z_iconst 22 dX4_isFree_21 rfl ?_
      refine z_zreturn rfl (by first | exact Or.inl rfl | exact Or.inr rfl | omega) dX4_isFree_22 (by decide) (by decide) ?_
      refine ⟨_, rfl, by omega, by omega, by omega, hR⟩
    · refine z_iconst 18 dX4_isFree_17 rfl ?_
      refine z_goto 22 dX4_isFree_18 (by decide) ?_
      refine z_zreturn rfl (by first | exact Or.inl rfl | exact Or.inr rfl | omega) dX4_isFree_22 (by decide) (by decide) ?_
      refine ⟨_, rfl, by omega, by omega, by omega, hR⟩
set_option maxRecDepth 20000 in
theorem r_newPiece {m : Nat → Int → Int} {f : Nat → Int → UInt32} {x : Nat} {g : Nat → Nat} {t : zT} (hR : RA m f x g t) {k : Int} (hk : zi k) {w : Int} (hw : zi w) {q : Int} (hq : zi q) (hn : 0 ≤ m 0 0 ∧ m 0 0 < 120) : zM yX4_newPiece cX4_newPiece 5 (some .int) 0 0 0 [vR (some x), vI k, vI w, vI q] t (fun r t1 => r = some (vI (m 0 0)) ∧ RA (np m k w q) f x g t1) := by
  refine zM.of [(0, vR (some x)), (1, vI k), (2, vI w), (3, vI q)] (by decide +kernel) rfl (Nat.le_of_ble_eq_true rfl) ?_
  obtain ⟨hn1, hn2⟩ := hn
  refine z_aload_n 1 dX4_newPiece_0 rfl rfl ?_
  refine r_getI 4 hR fl_X4_105 (by decide) dX4_newPiece_1 rfl ?_
  refine z_istore (lv' := [(4, _), (0, _), (1, _), (2, _), (3, _)]) 6 dX4_newPiece_4 rfl rfl rfl ?_
  refine z_aload_n 7 dX4_newPiece_6 rfl rfl ?_
  refine z_dup 8 dX4_newPiece_7 rfl rfl ?_
  refine r_getI 11 hR fl_X4_105 (by decide) dX4_newPiece_8 rfl ?_
  refine z_iconst 12 dX4_newPiece_11 rfl ?_
  refine z_iadd 13 dX4_newPiece_12 rfl ?_
  refine r_putI 16 hR fl_X4_105 (by decide) dX4_newPiece_13 rfl (fun t hR => ?_)
  refine z_aload_n 17 dX4_newPiece_16 rfl rfl ?_
  refine r_getP 20 hR fl_X4_9 (by decide) dX4_newPiece_17 rfl ?_
  refine z_iload 22 dX4_newPiece_20 rfl rfl ?_
  refine z_iload_n 23 dX4_newPiece_22 rfl rfl ?_
  refine r_iast 24 1 120 hR rk1 ⟨by omega, by omega⟩ dX4_newPiece_23 rfl (fun t hR => ?_)
  refine z_aload_n 25 dX4_newPiece_24 rfl rfl ?_
  refine r_getP 28 hR fl_X4_13 (by decide) dX4_newPiece_25 rfl ?_
  refine z_iload 30 dX4_newPiece_28 rfl rfl ?_
  refine z_iload_n 31 dX4_newPiece_30 rfl rfl ?_
  refine r_iast 32 2 120 hR rk2 ⟨by omega, by omega⟩ dX4_newPiece_31 rfl (fun t hR => ?_)
  refine z_aload_n 33 dX4_newPiece_32 rfl rfl ?_
  refine r_getP 36 hR fl_X4_16 (by decide) dX4_newPiece_33 rfl ?_
  refine z_iload 38 dX4_newPiece_36 rfl rfl ?_
  refine z_iload_n 39 dX4_newPiece_38 rfl rfl ?_
  refine r_iast 40 3 120 hR rk3 ⟨by omega, by omega⟩ dX4_newPiece_39 rfl (fun t hR => ?_)
  refine z_aload_n 41 dX4_newPiece_40 rfl rfl ?_
  refine r_getP 44 hR fl_X4_19 (by decide) dX4_newPiece_41 rfl ?_
  refine z_iload 46 dX4_newPiece_44 rfl rfl ?_
  refine z_iconst 47 dX4_newPiece_46 rfl ?_
  refine r_iast 48 4 120 hR rk4 ⟨by omega, by omega⟩ dX4_newPiece_47 rfl (fun t hR => ?_)
  refine z_aload_n 49 dX4_newPiece_48 rfl rfl ?_
  refine r_getP 52 hR fl_X4_26 (by decide) dX4_newPiece_49 rfl ?_
  refine z_iload 54 dX4_newPiece_52 rfl rfl ?_
  refine z_iconst 55 dX4_newPiece_54 rfl ?_
  refine r_iast 56 6 120 hR rk6 ⟨by omega, by omega⟩ dX4_newPiece_55 rfl (fun t hR => ?_)
  refine z_aload_n 57 dX4_newPiece_56 rfl rfl ?_
  refine r_getP 60 hR fl_X4_32 (by decide) dX4_newPiece_57 rfl ?_
  refine z_iload 62 dX4_newPiece_60 rfl rfl ?_
  refine z_iconst 63 dX4_newPiece_62 rfl ?_
  refine r_iast 64 8 120 hR rk8 ⟨by omega, by omega⟩ dX4_newPiece_63 rfl (fun t hR => ?_)
  refine z_aload_n 65 dX4_newPiece_64 rfl rfl ?_
  refine r_getP 68 hR fl_X4_38 (by decide) dX4_newPiece_65 rfl ?_
  refine z_iload 70 dX4_newPiece_68 rfl rfl ?_
  refine z_iconst 71 dX4_newPiece_70 rfl ?_
  refine r_iast 72 10 120 hR rk10 ⟨by omega, by omega⟩ dX4_newPiece_71 rfl (fun t hR => ?_)
  refine z_iload 74 dX4_newPiece_72 rfl rfl ?_
  refine z_ireturn rfl dX4_newPiece_74 (by decide) (by decide) ?_
  exact ⟨rfl, hR⟩
set_option maxRecDepth 20000 in
theorem r_single {m : Nat → Int → Int} {f : Nat → Int → UInt32} {x : Nat} {g : Nat → Nat} {t : zT} (hR : RA m f x g t) {k : Int} (hk : zi k) {w : Int} (hw : zi w) {e : Int} (he : zi e) (hn : 0 ≤ m 0 0 ∧ m 0 0 ≤ 120) : zM yX4_single cX4_single 5 (some .int) 1 0 0 [vR (some x), vI k, vI w, vI e] t (fun r t1 => r = some (vI (a_new m w e)) ∧ RA (s_new m f k w e).1 (s_new m f k w e).2 x g t1) := by
  refine zM.of [(0, vR (some x)), (1, vI k), (2, vI w), (3, vI e)] (by decide +kernel) rfl (Nat.le_of_ble_eq_true rfl) ?_
  obtain ⟨hw1, hw2⟩ := hw
  obtain ⟨he1, he2⟩ := he
  obtain ⟨hn3, hn4⟩ := hn
  refine z_iload_n 1 dX4_single_0 rfl rfl ?_
  refine z_iconst 2 dX4_single_1 rfl ?_
  refine z_icmp_lt 31 5 dX4_single_2 (by decide) rfl ⟨by omega, by omega⟩ ⟨by omega, by omega⟩ (fun h2 => ?_) (fun h2 => ?_)
  · refine z_bipush 33 dX4_single_31 rfl ⟨by decide, by decide⟩ ?_
    refine z_ireturn rfl dX4_single_33 (by decide) (by decide) ?_
    have hc : new_no m w e ∨ ¬ new_no m w e := Classical.em _
    unfold a_new s_new
    rcases hc with hc | hc
    · simp only [if_pos hc]; first | exact ⟨trivial, hR⟩ | exact ⟨rfl, hR⟩ | (exfalso; unfold new_no at hc; omega)
    · simp only [if_neg hc]; first | exact ⟨trivial, hR⟩ | exact ⟨rfl, hR⟩ | (exfalso; unfold new_no at hc; omega)
  · refine z_iload_n 6 dX4_single_5 rfl rfl ?_
    refine z_sipush 9 dX4_single_6 rfl ⟨by decide, by decide⟩ ?_
    refine z_icmp_gt 31 12 dX4_single_9 (by decide) rfl ⟨by omega, by omega⟩ ⟨by omega, by omega⟩ (fun h9 => ?_) (fun h9 => ?_)
    · refine z_bipush 33 dX4_single_31 rfl ⟨by decide, by decide⟩ ?_
      refine z_ireturn rfl dX4_single_33 (by decide) (by decide) ?_
      have hc : new_no m w e ∨ ¬ new_no m w e := Classical.em _
      unfold a_new s_new
      rcases hc with hc | hc
      · simp only [if_pos hc]; first | exact ⟨trivial, hR⟩ | exact ⟨rfl, hR⟩ | (exfalso; unfold new_no at hc; omega)
      · simp only [if_neg hc]; first | exact ⟨trivial, hR⟩ | exact ⟨rfl, hR⟩ | (exfalso; unfold new_no at hc; omega)
    · refine z_iload_n 13 dX4_single_12 rfl rfl ?_
      refine z_if_lt 31 16 dX4_single_13 (by decide) rfl ⟨by omega, by omega⟩ (fun h13 => ?_) (fun h13 => ?_)
      · refine z_bipush 33 dX4_single_31 rfl ⟨by decide, by decide⟩ ?_
        refine z_ireturn rfl dX4_single_33 (by decide) (by decide) ?_
        have hc : new_no m w e ∨ ¬ new_no m w e := Classical.em _
        unfold a_new s_new
        rcases hc with hc | hc
        · simp only [if_pos hc]; first | exact ⟨trivial, hR⟩ | exact ⟨rfl, hR⟩ | (exfalso; unfold new_no at hc; omega)
        · simp only [if_neg hc]; first | exact ⟨trivial, hR⟩ | exact ⟨rfl, hR⟩ | (exfalso; unfold new_no at hc; omega)
      · refine z_iload_n 17 dX4_single_16 rfl rfl ?_
        refine z_ldc 19 co_X4_113 dX4_single_17 rfl ?_
        refine z_icmp_gt 31 22 dX4_single_19 (by decide) rfl ⟨by omega, by omega⟩ ⟨by omega, by omega⟩ (fun h19 => ?_) (fun h19 => ?_)
        · refine z_bipush 33 dX4_single_31 rfl ⟨by decide, by decide⟩ ?_
          refine z_ireturn rfl dX4_single_33 (by decide) (by decide) ?_
          have hc : new_no m w e ∨ ¬ new_no m w e := Classical.em _
          unfold a_new s_new
          rcases hc with hc | hc
          · simp only [if_pos hc]; first | exact ⟨trivial, hR⟩ | exact ⟨rfl, hR⟩ | (exfalso; unfold new_no at hc; omega)
          · simp only [if_neg hc]; first | exact ⟨trivial, hR⟩ | exact ⟨rfl, hR⟩ | (exfalso; unfold new_no at hc; omega)
        · refine z_aload_n 23 dX4_single_22 rfl rfl ?_
          refine r_getI 26 hR fl_X4_105 (by decide) dX4_single_23 rfl ?_
          refine z_bipush 28 dX4_single_26 rfl ⟨by decide, by decide⟩ ?_
          refine z_icmp_ne 34 31 dX4_single_28 (by decide) rfl ⟨by omega, by omega⟩ ⟨by omega, by omega⟩ (fun h28 => ?_) (fun h28 => ?_)
          · refine z_aload_n 35 dX4_single_34 rfl rfl ?_
            refine z_iload_n 36 dX4_single_35 rfl rfl ?_
            refine z_iload_n 37 dX4_single_36 rfl rfl ?_
            refine z_iconst 38 dX4_single_37 rfl ?_
            refine z_callV 41 [_, _, _] la_X4_newPiece ml_X4_114 im_X4_newPiece se_X4_newPiece hR.1.1 hR.1.2.1 (by decide) rfl rfl (r_newPiece hR hk ⟨hw1, hw2⟩ ⟨by omega, by omega⟩ ⟨by omega, by omega⟩) rfl rfl (by decide) (Nat.le_of_ble_eq_true rfl) (by decide) (by decide) dX4_single_38 rfl (fun r t hq => ?_)
            obtain ⟨rfl, hR⟩ := hq
            refine z_istore (lv' := [(4, _), (0, _), (1, _), (2, _), (3, _)]) 43 dX4_single_41 rfl rfl rfl ?_
            refine z_aload_n 44 dX4_single_43 rfl rfl ?_
            refine r_getP 47 hR fl_X4_22 (by decide) dX4_single_44 rfl ?_
            refine z_iload 49 dX4_single_47 rfl rfl ?_
            refine z_iload_n 50 dX4_single_49 rfl rfl ?_
            refine z_i2f 51 dX4_single_50 rfl ?_
            refine z_ldcf 53 co_X4_118 dX4_single_51 rfl ?_
            refine z_fmul 54 dX4_single_53 rfl (E8_num (by omega) (by omega)) ?_
            refine r_fast 55 5 120 hR rk5 ⟨by omega, by omega⟩ dX4_single_54 rfl (fun t hR => ?_)
            refine z_iload 57 dX4_single_55 rfl rfl ?_
            refine z_ireturn rfl dX4_single_57 (by decide) (by decide) ?_
            have hc : new_no m w e ∨ ¬ new_no m w e := Classical.em _
            unfold a_new s_new
            rcases hc with hc | hc
            · simp only [if_pos hc]; first | exact ⟨trivial, hR⟩ | exact ⟨rfl, hR⟩ | (exfalso; unfold new_no at hc; omega)
            · simp only [if_neg hc]; first | exact ⟨trivial, hR⟩ | exact ⟨rfl, hR⟩ | (exfalso; unfold new_no at hc; omega)
          · refine z_bipush 33 dX4_single_31 rfl ⟨by decide, by decide⟩ ?_
            refine z_ireturn rfl dX4_single_33 (by decide) (by decide) ?_
            have hc : new_no m w e ∨ ¬ new_no m w e := Classical.em _
            unfold a_new s_new
            rcases hc with hc | hc
            · simp only [if_pos hc]; first | exact ⟨trivial, hR⟩ | exact ⟨rfl, hR⟩ | (exfalso; unfold new_no at hc; omega)
            · simp only [if_neg hc]; first | exact ⟨trivial, hR⟩ | exact ⟨rfl, hR⟩ | (exfalso; unfold new_no at hc; omega)
set_option maxRecDepth 20000 in
theorem r_yarn {m : Nat → Int → Int} {f : Nat → Int → UInt32} {x : Nat} {g : Nat → Nat} {t : zT} (hR : RA m f x g t) {w : Int} (hw : zi w) {e : Int} (he : zi e) (hW : WF m f) : zM yX4_yarn cX4_yarn 3 (some .int) 2 0 0 [vR (some x), vI w, vI e] t (fun r t1 => r = some (vI (a_new m w e)) ∧ RA (s_new m f 0 w e).1 (s_new m f 0 w e).2 x g t1) := by
  refine zM.of [(0, vR (some x)), (1, vI w), (2, vI e)] (by decide +kernel) rfl (Nat.le_of_ble_eq_true rfl) ?_
  refine z_aload_n 1 dX4_yarn_0 rfl rfl ?_
  refine z_iconst 2 dX4_yarn_1 rfl ?_
  refine z_iload_n 3 dX4_yarn_2 rfl rfl ?_
  refine z_iload_n 4 dX4_yarn_3 rfl rfl ?_
  refine z_callV 7 [_, _, _] la_X4_single ml_X4_119 im_X4_single se_X4_single hR.1.1 hR.1.2.1 (by decide) rfl rfl (r_single hR ⟨by omega, by omega⟩ hw he hW.n) rfl rfl (by decide) (Nat.le_of_ble_eq_true rfl) (by decide) (by decide) dX4_yarn_4 rfl (fun r t hq => ?_)
  obtain ⟨rfl, hR⟩ := hq
  refine z_ireturn rfl dX4_yarn_7 (by decide) (by decide) ?_
  exact ⟨rfl, hR⟩
set_option maxRecDepth 20000 in
theorem r_tape {m : Nat → Int → Int} {f : Nat → Int → UInt32} {x : Nat} {g : Nat → Nat} {t : zT} (hR : RA m f x g t) {w : Int} (hw : zi w) {e : Int} (he : zi e) (hW : WF m f) : zM yX4_tape cX4_tape 3 (some .int) 2 0 0 [vR (some x), vI w, vI e] t (fun r t1 => r = some (vI (a_new m w e)) ∧ RA (s_new m f 4 w e).1 (s_new m f 4 w e).2 x g t1) := by
  refine zM.of [(0, vR (some x)), (1, vI w), (2, vI e)] (by decide +kernel) rfl (Nat.le_of_ble_eq_true rfl) ?_
  refine z_aload_n 1 dX4_tape_0 rfl rfl ?_
  refine z_iconst 2 dX4_tape_1 rfl ?_
  refine z_iload_n 3 dX4_tape_2 rfl rfl ?_
  refine z_iload_n 4 dX4_tape_3 rfl rfl ?_
  refine z_callV 7 [_, _, _] la_X4_single ml_X4_119 im_X4_single se_X4_single hR.1.1 hR.1.2.1 (by decide) rfl rfl (r_single hR ⟨by omega, by omega⟩ hw he hW.n) rfl rfl (by decide) (Nat.le_of_ble_eq_true rfl) (by decide) (by decide) dX4_tape_4 rfl (fun r t hq => ?_)
  obtain ⟨rfl, hR⟩ := hq
  refine z_ireturn rfl dX4_tape_7 (by decide) (by decide) ?_
  exact ⟨rfl, hR⟩
set_option maxRecDepth 20000 in
theorem r_pick {m : Nat → Int → Int} {f : Nat → Int → UInt32} {x : Nat} {g : Nat → Nat} {t : zT} (hR : RA m f x g t) {p : Int} (hp : zi p) (hW : WF m f) : zM yX4_pick cX4_pick 4 (some .int) 2 0 0 [vR (some x), vI p] t (fun r t1 => r = some (vI (a_pick m p)) ∧ RA (s_pick m p) f x g t1) := by
  refine zM.of [(0, vR (some x)), (1, vI p)] (by decide +kernel) rfl (Nat.le_of_ble_eq_true rfl) ?_
  obtain ⟨hp1, hp2⟩ := hp
  have hn1 := hW.n.1
  have hn2 := hW.n.2
  obtain ⟨hk1, hk2, hk3⟩ := hW.2.2.1
  have L25 : ∀ (fuel : Nat) (k good : Int) (t : zT) (hR : RA m f x g t) (hk : 0 ≤ k ∧ k ≤ m 15 0) (hg : 0 ≤ good ∧ good ≤ 1) (hq : good = 1 ↔ (free m p ∧ m 15 0 < 9 ∧ ∀ i, 0 ≤ i → i < k → m 16 i ≠ p)) (hf : m 15 0 - k < (fuel : Int)), zOK yX4_pick cX4_pick 4 (some .int) 2 0 0 (fun r t1 => r = some (vI (a_pick m p)) ∧ RA (s_pick m p) f x g t1) 0 0 25 [(3, vI k), (2, vI good), (0, vR (some x)), (1, vI p)] [] t := by
    intro fuel
    induction fuel with
    | zero => intro k good t hR hk hg hq hf; exfalso; omega
    | succ fuel ih25 =>
      intro k good t hR hk hg hq hf
      obtain ⟨hk4, hk5⟩ := hk
      refine z_iload_n 26 dX4_pick_25 rfl rfl ?_
      refine z_aload_n 27 dX4_pick_26 rfl rfl ?_
      refine r_getI 30 hR fl_X4_125 (by decide) dX4_pick_27 rfl ?_
      refine z_icmp_ge 57 33 dX4_pick_30 (by decide) rfl ⟨by omega, by omega⟩ ⟨by omega, by omega⟩ (fun h30 => ?_) (fun h30 => ?_)
      · refine z_iload_n 58 dX4_pick_57 rfl rfl ?_
        refine z_if_ne 64 61 dX4_pick_58 (by decide) rfl ⟨by omega, by omega⟩ (fun h58 => ?_) (fun h58 => ?_)
        · refine z_aload_n 65 dX4_pick_64 rfl rfl ?_
          refine r_getP 68 hR fl_X4_54 (by decide) dX4_pick_65 rfl ?_
          refine z_aload_n 69 dX4_pick_68 rfl rfl ?_
          refine r_getI 72 hR fl_X4_125 (by decide) dX4_pick_69 rfl ?_
          refine z_iload_n 73 dX4_pick_72 rfl rfl ?_
          refine r_iast 74 16 9 hR rk16 ⟨by omega, by omega⟩ dX4_pick_73 rfl (fun t hR => ?_)
          refine z_aload_n 75 dX4_pick_74 rfl rfl ?_
          refine z_dup 76 dX4_pick_75 rfl rfl ?_
          refine r_getIe 79 hR fl_X4_125 (by decide) (show _ = m 15 0 from rfl) dX4_pick_76 rfl ?_
          refine z_iconst 80 dX4_pick_79 rfl ?_
          refine z_iadd 81 dX4_pick_80 rfl ?_
          refine r_putI 84 hR fl_X4_125 (by decide) dX4_pick_81 rfl (fun t hR => ?_)
          refine z_aload_n 85 dX4_pick_84 rfl rfl ?_
          refine r_getIe 88 hR fl_X4_125 (by decide) (up2_s _ _ _ _) dX4_pick_85 rfl ?_
          refine z_ireturn rfl dX4_pick_88 (by decide) (by decide) ?_
          have hc : pick_ok m p ∨ ¬ pick_ok m p := Classical.em _
          have hkk : k = m 15 0 := by omega
          unfold a_pick s_pick
          rcases hc with hc | hc
          · simp only [if_pos hc]; first | exact ⟨trivial, hR⟩ | exact ⟨rfl, hR⟩ | (exfalso; have := hq.mpr ⟨hc.1, hc.2.1, by rw [hkk]; exact hc.2.2⟩; omega)
          · simp only [if_neg hc]; first | exact ⟨trivial, hR⟩ | exact ⟨rfl, hR⟩ | (exfalso; rw [hkk] at hq; exact hc (hq.mp (by omega)))
        · refine z_bipush 63 dX4_pick_61 rfl ⟨by decide, by decide⟩ ?_
          refine z_ireturn rfl dX4_pick_63 (by decide) (by decide) ?_
          have hc : pick_ok m p ∨ ¬ pick_ok m p := Classical.em _
          have hkk : k = m 15 0 := by omega
          unfold a_pick s_pick
          rcases hc with hc | hc
          · simp only [if_pos hc]; first | exact ⟨trivial, hR⟩ | exact ⟨rfl, hR⟩ | (exfalso; have := hq.mpr ⟨hc.1, hc.2.1, by rw [hkk]; exact hc.2.2⟩; omega)
          · simp only [if_neg hc]; first | exact ⟨trivial, hR⟩ | exact ⟨rfl, hR⟩ | (exfalso; rw [hkk] at hq; exact hc (hq.mp (by omega)))
      · have h16 := hk3 k (by omega) (by omega)
        refine z_iload_n 34 dX4_pick_33 rfl rfl ?_
        refine z_aload_n 35 dX4_pick_34 rfl rfl ?_
        refine r_getP 38 hR fl_X4_54 (by decide) dX4_pick_35 rfl ?_
        refine z_iload_n 39 dX4_pick_38 rfl rfl ?_
        refine r_iald 40 16 9 hR rk16 ⟨by omega, by omega⟩ dX4_pick_39 rfl ?_
        refine z_iload_n 41 dX4_pick_40 rfl rfl ?_
        refine z_icmp_eq 48 44 dX4_pick_41 (by decide) rfl ⟨by omega, by omega⟩ ⟨by omega, by omega⟩ (fun h41 => ?_) (fun h41 => ?_)
        · refine z_iconst 49 dX4_pick_48 rfl ?_
          refine z_iand 50 dX4_pick_49 rfl (and01 (by omega) (by omega)) ?_
          refine z_istore_n (lv' := [(2, _), (3, _), (0, _), (1, _)]) 51 dX4_pick_50 rfl rfl rfl ?_
          refine z_iinc (lv' := [(3, _), (2, _), (0, _), (1, _)]) 54 dX4_pick_51 rfl rfl rfl rfl ?_
          refine z_goto 25 dX4_pick_54 (by decide) ?_
          refine z_sub (lv' := [(3, _), (2, _), (0, _), (1, _)]) ⟨rfl, rfl, rfl, rfl, trivial⟩ ?_
          exact ih25 _ _ _ hR (by omega) (by unfold b_and; split <;> omega) (by
          unfold b_and
          constructor
          · intro hh
            have h1 : good = 1 := by split at hh <;> omega
            obtain ⟨f1, f2, f3⟩ := hq.mp h1
            refine ⟨f1, f2, fun i i1 i2 => ?_⟩
            by_cases hi : i = k
            · subst hi; first | assumption | (exfalso; split at hh <;> omega)
            · exact f3 i i1 (by omega)
          · intro hh
            obtain ⟨f1, f2, f3⟩ := hh
            have h1 : good = 1 := hq.mpr ⟨f1, f2, fun i i1 i2 => f3 i i1 (by omega)⟩
            have h2 := f3 k (by omega) (by omega)
            rw [if_pos]
            first | exact ⟨h1, rfl⟩ | (exfalso; omega)) (by omega)
        · refine z_iconst 45 dX4_pick_44 rfl ?_
          refine z_goto 49 dX4_pick_45 (by decide) ?_
          refine z_iand 50 dX4_pick_49 rfl (and01 (by omega) (by omega)) ?_
          refine z_istore_n (lv' := [(2, _), (3, _), (0, _), (1, _)]) 51 dX4_pick_50 rfl rfl rfl ?_
          refine z_iinc (lv' := [(3, _), (2, _), (0, _), (1, _)]) 54 dX4_pick_51 rfl rfl rfl rfl ?_
          refine z_goto 25 dX4_pick_54 (by decide) ?_
          refine z_sub (lv' := [(3, _), (2, _), (0, _), (1, _)]) ⟨rfl, rfl, rfl, rfl, trivial⟩ ?_
          exact ih25 _ _ _ hR (by omega) (by unfold b_and; split <;> omega) (by
          unfold b_and
          constructor
          · intro hh
            have h1 : good = 1 := by split at hh <;> omega
            obtain ⟨f1, f2, f3⟩ := hq.mp h1
            refine ⟨f1, f2, fun i i1 i2 => ?_⟩
            by_cases hi : i = k
            · subst hi; first | assumption | (exfalso; split at hh <;> omega)
            · exact f3 i i1 (by omega)
          · intro hh
            obtain ⟨f1, f2, f3⟩ := hh
            have h1 : good = 1 := hq.mpr ⟨f1, f2, fun i i1 i2 => f3 i i1 (by omega)⟩
            have h2 := f3 k (by omega) (by omega)
            rw [if_pos]
            first | exact ⟨h1, rfl⟩ | (exfalso; omega)) (by omega)
  have L22 : ∀ (good : Int) (t : zT) (hR : RA m f x g t) (hg : 0 ≤ good ∧ good ≤ 1) (hg2 : good = 1 ↔ (free m p ∧ m 15 0 < 9 ∧ ∀ i, 0 ≤ i → i < 0 → m 16 i ≠ p)), zOK yX4_pick cX4_pick 4 (some .int) 2 0 0 (fun r t1 => r = some (vI (a_pick m p)) ∧ RA (s_pick m p) f x g t1) 0 0 22 [(0, vR (some x)), (1, vI p)] [vI good] t := by
    intro good t hR hg hg2
    refine z_istore_n (lv' := [(2, _), (0, _), (1, _)]) 23 dX4_pick_22 rfl rfl rfl ?_
    refine z_iconst 24 dX4_pick_23 rfl ?_
    refine z_istore_n (lv' := [(3, _), (2, _), (0, _), (1, _)]) 25 dX4_pick_24 rfl rfl rfl ?_
    refine z_sub (lv' := [(3, _), (2, _), (0, _), (1, _)]) ⟨rfl, rfl, rfl, rfl, trivial⟩ ?_
    exact L25 10 _ _ _ hR (by omega) (by omega) (by simpa using hg2) (by omega)
  refine z_aload_n 1 dX4_pick_0 rfl rfl ?_
  refine z_iload_n 2 dX4_pick_1 rfl rfl ?_
  refine z_callV 5 [_] la_X4_isFree ml_X4_122 im_X4_isFree se_X4_isFree hR.1.1 hR.1.2.1 (by decide) rfl rfl (r_isFree hR ⟨hp1, hp2⟩ hW.n hW.h4) rfl rfl (by decide) (Nat.le_of_ble_eq_true rfl) (by decide) (by decide) dX4_pick_2 rfl (fun r t hq => ?_)
  obtain ⟨z, rfl, hz1, hz2, hz3, hR⟩ := hq
  refine z_if_eq 21 8 dX4_pick_5 (by decide) rfl ⟨by omega, by omega⟩ (fun h5 => ?_) (fun h5 => ?_)
  · refine z_iconst 22 dX4_pick_21 rfl ?_
    refine z_sub (lv' := [(0, _), (1, _)]) ⟨rfl, rfl, trivial⟩ ?_
    exact L22 _ _ hR (by omega) (by unfold free; constructor <;> intro hh <;> first | omega | (refine ⟨by omega, by omega, fun i h1 h2 => ?_⟩; omega))
  · refine z_aload_n 9 dX4_pick_8 rfl rfl ?_
    refine r_getI 12 hR fl_X4_125 (by decide) dX4_pick_9 rfl ?_
    refine z_bipush 14 dX4_pick_12 rfl ⟨by decide, by decide⟩ ?_
    refine z_icmp_ge 21 17 dX4_pick_14 (by decide) rfl ⟨by omega, by omega⟩ ⟨by omega, by omega⟩ (fun h14 => ?_) (fun h14 => ?_)
    · refine z_iconst 22 dX4_pick_21 rfl ?_
      refine z_sub (lv' := [(0, _), (1, _)]) ⟨rfl, rfl, trivial⟩ ?_
      exact L22 _ _ hR (by omega) (by unfold free; constructor <;> intro hh <;> first | omega | (refine ⟨by omega, by omega, fun i h1 h2 => ?_⟩; omega))
    · refine z_iconst 18 dX4_pick_17 rfl ?_
      refine z_goto 22 dX4_pick_18 (by decide) ?_
      refine z_sub (lv' := [(0, _), (1, _)]) ⟨rfl, rfl, trivial⟩ ?_
      exact L22 _ _ hR (by omega) (by unfold free; constructor <;> intro hh <;> first | omega | (refine ⟨by omega, by omega, fun i h1 h2 => ?_⟩; omega))
