set_option maxRecDepth 20000 in
theorem r_drop {m : Nat → Int → Int} {f : Nat → Int → UInt32} {x : Nat} {g : Nat → Nat} {t : zT} (hR : RA m f x g t)  : zM yX4_drop cX4_drop 2 (some .int) 0 0 0 [vR (some x)] t (fun r t1 => r = some (vI (m 15 0)) ∧ RA (up2 m 15 0 0) f x g t1) := by
  refine zM.of [(0, vR (some x))] (by decide +kernel) rfl (Nat.le_of_ble_eq_true rfl) ?_
  refine z_aload_n 1 dX4_drop_0 rfl rfl ?_
  refine r_getI 4 hR fl_X4_125 (by decide) dX4_drop_1 rfl ?_
  refine z_istore_n (lv' := [(1, _), (0, _)]) 5 dX4_drop_4 rfl rfl rfl ?_
  refine z_aload_n 6 dX4_drop_5 rfl rfl ?_
  refine z_iconst 7 dX4_drop_6 rfl ?_
  refine r_putI 10 hR fl_X4_125 (by decide) dX4_drop_7 rfl (fun t hR => ?_)
  refine z_iload_n 11 dX4_drop_10 rfl rfl ?_
  refine z_ireturn rfl dX4_drop_11 (by decide) (by decide) ?_
  exact ⟨rfl, hR⟩
set_option maxRecDepth 20000 in
theorem r_mayBeIn {m : Nat → Int → Int} {f : Nat → Int → UInt32} {x : Nat} {g : Nat → Nat} {t : zT} (hR : RA m f x g t) {k : Int} (hk : zi k) {q : Int} (hq : zi q) {p : Int} (hp : zi p) (h0 : 0 ≤ p ∧ p < 120) (hqq : 1 ≤ q ∧ q ≤ 2) (hb : 0 ≤ m 1 p ∧ m 1 p ≤ 5 ∧ 0 ≤ m 3 p ∧ m 3 p ≤ 2 ∧ 0 ≤ m 4 p ∧ m 4 p ≤ 3) : zM yX4_mayBeIn cX4_mayBeIn 6 (some .boolean) 0 0 0 [vR (some x), vI k, vI q, vI p] t (fun r t1 => ∃ z, r = some (vI z) ∧ 0 ≤ z ∧ z ≤ 1 ∧ (z = 1 ↔ mayin m k q p) ∧ RA m f x g t1) := by
  refine zM.of [(0, vR (some x)), (1, vI k), (2, vI q), (3, vI p)] (by decide +kernel) rfl (Nat.le_of_ble_eq_true rfl) ?_
  obtain ⟨hk1, hk2⟩ := hk
  obtain ⟨hq1, hq2⟩ := hq
  obtain ⟨hp1, hp2⟩ := hp
  have L77 : ∀ (z : Int) (t : zT) (hR : RA m f x g t) (hz : 0 ≤ z ∧ z ≤ 1) (hz2 : m 4 p = 0 ∧ k ≠ 1) (hz3 : z = 1 ↔ ((k = 2 ∧ m 1 p = 1) ∨ (k ≠ 2 ∧ (m 1 p = 2 ∨ m 1 p = 5)))), zOK yX4_mayBeIn cX4_mayBeIn 6 (some .boolean) 0 0 0 (fun r t1 => ∃ z, r = some (vI z) ∧ 0 ≤ z ∧ z ≤ 1 ∧ (z = 1 ↔ mayin m k q p) ∧ RA m f x g t1) 0 0 77 [(4, vI (m 1 p)), (0, vR (some x)), (1, vI k), (2, vI q), (3, vI p)] [vI z] t := by
    intro z t hR hz hz2 hz3
    refine z_istore (lv' := [(5, _), (4, _), (0, _), (1, _), (2, _), (3, _)]) 79 dX4_mayBeIn_77 rfl rfl rfl ?_
    refine z_iload 81 dX4_mayBeIn_79 rfl rfl ?_
    refine z_if_eq 100 84 dX4_mayBeIn_81 (by decide) rfl ⟨by omega, by omega⟩ (fun h81 => ?_) (fun h81 => ?_)
    · refine z_iconst 101 dX4_mayBeIn_100 rfl ?_
      refine z_zreturn rfl (by first | exact Or.inl rfl | exact Or.inr rfl | omega) dX4_mayBeIn_101 (by decide) (by decide) ?_
      refine ⟨_, rfl, by omega, by omega, by unfold mayin; omega, hR⟩
    · refine z_aload_n 85 dX4_mayBeIn_84 rfl rfl ?_
      refine r_getP 88 hR fl_X4_16 (by decide) dX4_mayBeIn_85 rfl ?_
      refine z_iload_n 89 dX4_mayBeIn_88 rfl rfl ?_
      refine r_iald 90 3 120 hR rk3 ⟨by omega, by omega⟩ dX4_mayBeIn_89 rfl ?_
      refine z_iconst 91 dX4_mayBeIn_90 rfl ?_
      refine z_iload_n 92 dX4_mayBeIn_91 rfl rfl ?_
      refine z_isub 93 dX4_mayBeIn_92 rfl ?_
      refine z_icmp_ne 100 96 dX4_mayBeIn_93 (by decide) rfl ⟨by omega, by omega⟩ ⟨by omega, by omega⟩ (fun h93 => ?_) (fun h93 => ?_)
      · refine z_iconst 101 dX4_mayBeIn_100 rfl ?_
        refine z_zreturn rfl (by first | exact Or.inl rfl | exact Or.inr rfl | omega) dX4_mayBeIn_101 (by decide) (by decide) ?_
        refine ⟨_, rfl, by omega, by omega, by unfold mayin; omega, hR⟩
      · refine z_iconst 97 dX4_mayBeIn_96 rfl ?_
        refine z_goto 101 dX4_mayBeIn_97 (by decide) ?_
        refine z_zreturn rfl (by first | exact Or.inl rfl | exact Or.inr rfl | omega) dX4_mayBeIn_101 (by decide) (by decide) ?_
        refine ⟨_, rfl, by omega, by omega, by unfold mayin; omega, hR⟩
  refine z_aload_n 1 dX4_mayBeIn_0 rfl rfl ?_
  refine r_getP 4 hR fl_X4_9 (by decide) dX4_mayBeIn_1 rfl ?_
  refine z_iload_n 5 dX4_mayBeIn_4 rfl rfl ?_
  refine r_iald 6 1 120 hR rk1 ⟨by omega, by omega⟩ dX4_mayBeIn_5 rfl ?_
  refine z_istore (lv' := [(4, _), (0, _), (1, _), (2, _), (3, _)]) 8 dX4_mayBeIn_6 rfl rfl rfl ?_
  refine z_aload_n 9 dX4_mayBeIn_8 rfl rfl ?_
  refine r_getP 12 hR fl_X4_19 (by decide) dX4_mayBeIn_9 rfl ?_
  refine z_iload_n 13 dX4_mayBeIn_12 rfl rfl ?_
  refine r_iald 14 4 120 hR rk4 ⟨by omega, by omega⟩ dX4_mayBeIn_13 rfl ?_
  refine z_if_eq 19 17 dX4_mayBeIn_14 (by decide) rfl ⟨by omega, by omega⟩ (fun h14 => ?_) (fun h14 => ?_)
  · refine z_iload_n 20 dX4_mayBeIn_19 rfl rfl ?_
    refine z_iconst 21 dX4_mayBeIn_20 rfl ?_
    refine z_icmp_ne 41 24 dX4_mayBeIn_21 (by decide) rfl ⟨by omega, by omega⟩ ⟨by omega, by omega⟩ (fun h21 => ?_) (fun h21 => ?_)
    · refine z_iload_n 42 dX4_mayBeIn_41 rfl rfl ?_
      refine z_iconst 43 dX4_mayBeIn_42 rfl ?_
      refine z_icmp_ne 60 46 dX4_mayBeIn_43 (by decide) rfl ⟨by omega, by omega⟩ ⟨by omega, by omega⟩ (fun h43 => ?_) (fun h43 => ?_)
      · refine z_iload 62 dX4_mayBeIn_60 rfl rfl ?_
        refine z_iconst 63 dX4_mayBeIn_62 rfl ?_
        refine z_icmp_eq 72 66 dX4_mayBeIn_63 (by decide) rfl ⟨by omega, by omega⟩ ⟨by omega, by omega⟩ (fun h63 => ?_) (fun h63 => ?_)
        · refine z_iconst 73 dX4_mayBeIn_72 rfl ?_
          refine z_goto 77 dX4_mayBeIn_73 (by decide) ?_
          refine z_sub (lv' := [(4, _), (0, _), (1, _), (2, _), (3, _)]) ⟨rfl, rfl, rfl, rfl, rfl, trivial⟩ ?_
          exact L77 _ _ hR (by omega) (by omega) (by omega)
        · refine z_iload 68 dX4_mayBeIn_66 rfl rfl ?_
          refine z_iconst 69 dX4_mayBeIn_68 rfl ?_
          refine z_icmp_ne 76 72 dX4_mayBeIn_69 (by decide) rfl ⟨by omega, by omega⟩ ⟨by omega, by omega⟩ (fun h69 => ?_) (fun h69 => ?_)
          · refine z_iconst 77 dX4_mayBeIn_76 rfl ?_
            refine z_sub (lv' := [(4, _), (0, _), (1, _), (2, _), (3, _)]) ⟨rfl, rfl, rfl, rfl, rfl, trivial⟩ ?_
            exact L77 _ _ hR (by omega) (by omega) (by omega)
          · refine z_iconst 73 dX4_mayBeIn_72 rfl ?_
            refine z_goto 77 dX4_mayBeIn_73 (by decide) ?_
            refine z_sub (lv' := [(4, _), (0, _), (1, _), (2, _), (3, _)]) ⟨rfl, rfl, rfl, rfl, rfl, trivial⟩ ?_
            exact L77 _ _ hR (by omega) (by omega) (by omega)
      · refine z_iload 48 dX4_mayBeIn_46 rfl rfl ?_
        refine z_iconst 49 dX4_mayBeIn_48 rfl ?_
        refine z_icmp_ne 56 52 dX4_mayBeIn_49 (by decide) rfl ⟨by omega, by omega⟩ ⟨by omega, by omega⟩ (fun h49 => ?_) (fun h49 => ?_)
        · refine z_iconst 57 dX4_mayBeIn_56 rfl ?_
          refine z_goto 77 dX4_mayBeIn_57 (by decide) ?_
          refine z_sub (lv' := [(4, _), (0, _), (1, _), (2, _), (3, _)]) ⟨rfl, rfl, rfl, rfl, rfl, trivial⟩ ?_
          exact L77 _ _ hR (by omega) (by omega) (by omega)
        · refine z_iconst 53 dX4_mayBeIn_52 rfl ?_
          refine z_goto 77 dX4_mayBeIn_53 (by decide) ?_
          refine z_sub (lv' := [(4, _), (0, _), (1, _), (2, _), (3, _)]) ⟨rfl, rfl, rfl, rfl, rfl, trivial⟩ ?_
          exact L77 _ _ hR (by omega) (by omega) (by omega)
    · refine z_iload 26 dX4_mayBeIn_24 rfl rfl ?_
      refine z_if_eq 35 29 dX4_mayBeIn_26 (by decide) rfl ⟨by omega, by omega⟩ (fun h26 => ?_) (fun h26 => ?_)
      · refine z_iconst 36 dX4_mayBeIn_35 rfl ?_
        refine z_goto 40 dX4_mayBeIn_36 (by decide) ?_
        refine z_zreturn rfl (by first | exact Or.inl rfl | exact Or.inr rfl | omega) dX4_mayBeIn_40 (by decide) (by decide) ?_
        refine ⟨_, rfl, by omega, by omega, by unfold mayin; omega, hR⟩
      · refine z_iload 31 dX4_mayBeIn_29 rfl rfl ?_
        refine z_iconst 32 dX4_mayBeIn_31 rfl ?_
        refine z_icmp_ne 39 35 dX4_mayBeIn_32 (by decide) rfl ⟨by omega, by omega⟩ ⟨by omega, by omega⟩ (fun h32 => ?_) (fun h32 => ?_)
        · refine z_iconst 40 dX4_mayBeIn_39 rfl ?_
          refine z_zreturn rfl (by first | exact Or.inl rfl | exact Or.inr rfl | omega) dX4_mayBeIn_40 (by decide) (by decide) ?_
          refine ⟨_, rfl, by omega, by omega, by unfold mayin; omega, hR⟩
        · refine z_iconst 36 dX4_mayBeIn_35 rfl ?_
          refine z_goto 40 dX4_mayBeIn_36 (by decide) ?_
          refine z_zreturn rfl (by first | exact Or.inl rfl | exact Or.inr rfl | omega) dX4_mayBeIn_40 (by decide) (by decide) ?_
          refine ⟨_, rfl, by omega, by omega, by unfold mayin; omega, hR⟩
  · refine z_iconst 18 dX4_mayBeIn_17 rfl ?_
    refine z_zreturn rfl (by first | exact Or.inl rfl | exact Or.inr rfl | omega) dX4_mayBeIn_18 (by decide) (by decide) ?_
    refine ⟨_, rfl, by omega, by omega, by unfold mayin; omega, hR⟩
set_option maxRecDepth 20000 in
theorem r_putIn {m : Nat → Int → Int} {f : Nat → Int → UInt32} {x : Nat} {g : Nat → Nat} {t : zT} (hR : RA m f x g t) {p : Int} (hp : zi p) {q : Int} (hq : zi q) (h0 : 0 ≤ p ∧ p < 120) (h1 : 0 ≤ q ∧ q < 120) (hb : 0 ≤ m 6 p ∧ m 6 p < 9) : zM yX4_putIn cX4_putIn 3 none 0 0 0 [vR (some x), vI p, vI q] t (fun r t1 => r = none ∧ RA (putin m p q) f x g t1) := by
  refine zM.of [(0, vR (some x)), (1, vI p), (2, vI q)] (by decide +kernel) rfl (Nat.le_of_ble_eq_true rfl) ?_
  obtain ⟨hp1, hp2⟩ := hp
  obtain ⟨hq1, hq2⟩ := hq
  refine z_aload_n 1 dX4_putIn_0 rfl rfl ?_
  refine r_getP 4 hR fl_X4_29 (by decide) dX4_putIn_1 rfl ?_
  refine z_bipush 6 dX4_putIn_4 rfl ⟨by decide, by decide⟩ ?_
  refine z_iload_n 7 dX4_putIn_6 rfl rfl ?_
  refine z_imul 8 dX4_putIn_7 rfl ?_
  refine z_aload_n 9 dX4_putIn_8 rfl rfl ?_
  refine r_getP 12 hR fl_X4_26 (by decide) dX4_putIn_9 rfl ?_
  refine z_iload_n 13 dX4_putIn_12 rfl rfl ?_
  refine r_iald 14 6 120 hR rk6 ⟨by omega, by omega⟩ dX4_putIn_13 rfl ?_
  refine z_iadd 15 dX4_putIn_14 rfl ?_
  refine z_iload_n 16 dX4_putIn_15 rfl rfl ?_
  refine r_iast 17 7 1080 hR rk7 ⟨by omega, by omega⟩ dX4_putIn_16 rfl (fun t hR => ?_)
  refine z_aload_n 18 dX4_putIn_17 rfl rfl ?_
  refine r_getP 21 hR fl_X4_26 (by decide) dX4_putIn_18 rfl ?_
  refine z_iload_n 22 dX4_putIn_21 rfl rfl ?_
  refine z_dup2 23 dX4_putIn_22 rfl rfl rfl ?_
  refine r_ialde 24 6 120 hR rk6 ⟨by omega, by omega⟩ (show _ = m 6 _ from rfl) dX4_putIn_23 rfl ?_
  refine z_iconst 25 dX4_putIn_24 rfl ?_
  refine z_iadd 26 dX4_putIn_25 rfl ?_
  refine r_iast 27 6 120 hR rk6 ⟨by omega, by omega⟩ dX4_putIn_26 rfl (fun t hR => ?_)
  refine z_aload_n 28 dX4_putIn_27 rfl rfl ?_
  refine r_getP 31 hR fl_X4_19 (by decide) dX4_putIn_28 rfl ?_
  refine z_iload_n 32 dX4_putIn_31 rfl rfl ?_
  refine z_iconst 33 dX4_putIn_32 rfl ?_
  refine r_iast 34 4 120 hR rk4 ⟨by omega, by omega⟩ dX4_putIn_33 rfl (fun t hR => ?_)
  refine z_aload_n 35 dX4_putIn_34 rfl rfl ?_
  refine r_getP 38 hR fl_X4_32 (by decide) dX4_putIn_35 rfl ?_
  refine z_iload_n 39 dX4_putIn_38 rfl rfl ?_
  refine z_iload_n 40 dX4_putIn_39 rfl rfl ?_
  refine r_iast 41 8 120 hR rk8 ⟨by omega, by omega⟩ dX4_putIn_40 rfl (fun t hR => ?_)
  refine z_return rfl dX4_putIn_41 (by decide) (by decide) ?_
  exact ⟨rfl, hR⟩
set_option maxRecDepth 20000 in
theorem r_isThick {m : Nat → Int → Int} {f : Nat → Int → UInt32} {x : Nat} {g : Nat → Nat} {t : zT} (hR : RA m f x g t) {p : Int} (hp : zi p) (h0 : 0 ≤ p ∧ p < 120) (hb : 0 ≤ m 1 p ∧ m 1 p ≤ 5) : zM yX4_isThick cX4_isThick 2 (some .boolean) 0 0 0 [vR (some x), vI p] t (fun r t1 => ∃ z, r = some (vI z) ∧ 0 ≤ z ∧ z ≤ 1 ∧ (z = 1 ↔ thick m p) ∧ RA m f x g t1) := by
  refine zM.of [(0, vR (some x)), (1, vI p)] (by decide +kernel) rfl (Nat.le_of_ble_eq_true rfl) ?_
  obtain ⟨hp1, hp2⟩ := hp
  refine z_aload_n 1 dX4_isThick_0 rfl rfl ?_
  refine r_getP 4 hR fl_X4_9 (by decide) dX4_isThick_1 rfl ?_
  refine z_iload_n 5 dX4_isThick_4 rfl rfl ?_
  refine r_iald 6 1 120 hR rk1 ⟨by omega, by omega⟩ dX4_isThick_5 rfl ?_
  refine z_iconst 7 dX4_isThick_6 rfl ?_
  refine z_icmp_eq 30 10 dX4_isThick_7 (by decide) rfl ⟨by omega, by omega⟩ ⟨by omega, by omega⟩ (fun h7 => ?_) (fun h7 => ?_)
  · refine z_iconst 31 dX4_isThick_30 rfl ?_
    refine z_goto 35 dX4_isThick_31 (by decide) ?_
    refine z_zreturn rfl (by first | exact Or.inl rfl | exact Or.inr rfl | omega) dX4_isThick_35 (by decide) (by decide) ?_
    refine ⟨_, rfl, by omega, by omega, by unfold thick; omega, hR⟩
  · refine z_aload_n 11 dX4_isThick_10 rfl rfl ?_
    refine r_getP 14 hR fl_X4_9 (by decide) dX4_isThick_11 rfl ?_
    refine z_iload_n 15 dX4_isThick_14 rfl rfl ?_
    refine r_iald 16 1 120 hR rk1 ⟨by omega, by omega⟩ dX4_isThick_15 rfl ?_
    refine z_iconst 17 dX4_isThick_16 rfl ?_
    refine z_icmp_eq 30 20 dX4_isThick_17 (by decide) rfl ⟨by omega, by omega⟩ ⟨by omega, by omega⟩ (fun h17 => ?_) (fun h17 => ?_)
    · refine z_iconst 31 dX4_isThick_30 rfl ?_
      refine z_goto 35 dX4_isThick_31 (by decide) ?_
      refine z_zreturn rfl (by first | exact Or.inl rfl | exact Or.inr rfl | omega) dX4_isThick_35 (by decide) (by decide) ?_
      refine ⟨_, rfl, by omega, by omega, by unfold thick; omega, hR⟩
    · refine z_aload_n 21 dX4_isThick_20 rfl rfl ?_
      refine r_getP 24 hR fl_X4_9 (by decide) dX4_isThick_21 rfl ?_
      refine z_iload_n 25 dX4_isThick_24 rfl rfl ?_
      refine r_iald 26 1 120 hR rk1 ⟨by omega, by omega⟩ dX4_isThick_25 rfl ?_
      refine z_iconst 27 dX4_isThick_26 rfl ?_
      refine z_icmp_ne 34 30 dX4_isThick_27 (by decide) rfl ⟨by omega, by omega⟩ ⟨by omega, by omega⟩ (fun h27 => ?_) (fun h27 => ?_)
      · refine z_iconst 35 dX4_isThick_34 rfl ?_
        refine z_zreturn rfl (by first | exact Or.inl rfl | exact Or.inr rfl | omega) dX4_isThick_35 (by decide) (by decide) ?_
        refine ⟨_, rfl, by omega, by omega, by unfold thick; omega, hR⟩
      · refine z_iconst 31 dX4_isThick_30 rfl ?_
        refine z_goto 35 dX4_isThick_31 (by decide) ?_
        refine z_zreturn rfl (by first | exact Or.inl rfl | exact Or.inr rfl | omega) dX4_isThick_35 (by decide) (by decide) ?_
        refine ⟨_, rfl, by omega, by omega, by unfold thick; omega, hR⟩
set_option maxRecDepth 20000 in
theorem r_part {m : Nat → Int → Int} {f : Nat → Int → UInt32} {x : Nat} {g : Nat → Nat} {t : zT} (hR : RA m f x g t) {p : Int} (hp : zi p) {k : Int} (hk : zi k) (hW : WF m f) : zM yX4_part cX4_part 3 (some .int) 1 0 0 [vR (some x), vI p, vI k] t (fun r t1 => r = some (vI (a_part m p k)) ∧ RA m f x g t1) := by
  refine zM.of [(0, vR (some x)), (1, vI p), (2, vI k)] (by decide +kernel) rfl (Nat.le_of_ble_eq_true rfl) ?_
  obtain ⟨hp1, hp2⟩ := hp
  obtain ⟨hk1, hk2⟩ := hk
  have hn1 := hW.n.1
  have hn2 := hW.n.2
  refine z_aload_n 1 dX4_part_0 rfl rfl ?_
  refine z_iload_n 2 dX4_part_1 rfl rfl ?_
  refine z_callV 5 [_] la_X4_isPiece ml_X4_109 im_X4_isPiece se_X4_isPiece hR.1.1 hR.1.2.1 (by decide) rfl rfl (r_isPiece hR ⟨hp1, hp2⟩ hW.n) rfl rfl (by decide) (Nat.le_of_ble_eq_true rfl) (by decide) (by decide) dX4_part_2 rfl (fun r t hq => ?_)
  obtain ⟨z, rfl, hz1, hz2, hz3, hR⟩ := hq
  have hB := fun (h : z = 1) => hW.b (p := p) (by omega) (by omega)
  refine z_if_eq 22 8 dX4_part_5 (by decide) rfl ⟨by omega, by omega⟩ (fun h5 => ?_) (fun h5 => ?_)
  · refine z_bipush 24 dX4_part_22 rfl ⟨by decide, by decide⟩ ?_
    refine z_goto 38 dX4_part_24 (by decide) ?_
    refine z_ireturn rfl dX4_part_38 (by decide) (by decide) ?_
    refine ⟨congrArg (fun z => some (vI z)) ?_, hR⟩
    simp only [a_part, cif]; (repeat' split) <;> first | rfl | omega
  · refine z_iload_n 9 dX4_part_8 rfl rfl ?_
    refine z_if_lt 22 12 dX4_part_9 (by decide) rfl ⟨by omega, by omega⟩ (fun h9 => ?_) (fun h9 => ?_)
    · refine z_bipush 24 dX4_part_22 rfl ⟨by decide, by decide⟩ ?_
      refine z_goto 38 dX4_part_24 (by decide) ?_
      refine z_ireturn rfl dX4_part_38 (by decide) (by decide) ?_
      refine ⟨congrArg (fun z => some (vI z)) ?_, hR⟩
      simp only [a_part, cif]; (repeat' split) <;> first | rfl | omega
    · refine z_iload_n 13 dX4_part_12 rfl rfl ?_
      refine z_aload_n 14 dX4_part_13 rfl rfl ?_
      refine r_getP 17 hR fl_X4_26 (by decide) dX4_part_14 rfl ?_
      refine z_iload_n 18 dX4_part_17 rfl rfl ?_
      refine r_iald 19 6 120 hR rk6 ⟨by omega, by omega⟩ dX4_part_18 rfl ?_
      refine z_icmp_lt 27 22 dX4_part_19 (by decide) rfl ⟨by omega, by omega⟩ ⟨by omega, by omega⟩ (fun h19 => ?_) (fun h19 => ?_)
      · refine z_aload_n 28 dX4_part_27 rfl rfl ?_
        refine r_getP 31 hR fl_X4_29 (by decide) dX4_part_28 rfl ?_
        refine z_bipush 33 dX4_part_31 rfl ⟨by decide, by decide⟩ ?_
        refine z_iload_n 34 dX4_part_33 rfl rfl ?_
        refine z_imul 35 dX4_part_34 rfl ?_
        refine z_iload_n 36 dX4_part_35 rfl rfl ?_
        refine z_iadd 37 dX4_part_36 rfl ?_
        refine r_iald 38 7 1080 hR rk7 ⟨by omega, by omega⟩ dX4_part_37 rfl ?_
        refine z_ireturn rfl dX4_part_38 (by decide) (by decide) ?_
        refine ⟨congrArg (fun z => some (vI z)) ?_, hR⟩
        simp only [a_part, cif]; (repeat' split) <;> first | rfl | omega
      · refine z_bipush 24 dX4_part_22 rfl ⟨by decide, by decide⟩ ?_
        refine z_goto 38 dX4_part_24 (by decide) ?_
        refine z_ireturn rfl dX4_part_38 (by decide) (by decide) ?_
        refine ⟨congrArg (fun z => some (vI z)) ?_, hR⟩
        simp only [a_part, cif]; (repeat' split) <;> first | rfl | omega
set_option maxRecDepth 20000 in
theorem r_lose {m : Nat → Int → Int} {f : Nat → Int → UInt32} {x : Nat} {g : Nat → Nat} {t : zT} (hR : RA m f x g t) {p : Int} (hp : zi p) (hW : WF m f) : zM yX4_lose cX4_lose 3 (some .int) 2 0 0 [vR (some x), vI p] t (fun r t1 => r = some (vI (a_lose m p)) ∧ RA (s_lose m p) f x g t1) := by
  refine zM.of [(0, vR (some x)), (1, vI p)] (by decide +kernel) rfl (Nat.le_of_ble_eq_true rfl) ?_
  obtain ⟨hp1, hp2⟩ := hp
  have hn1 := hW.n.1
  have hn2 := hW.n.2
  refine z_aload_n 1 dX4_lose_0 rfl rfl ?_
  refine z_iload_n 2 dX4_lose_1 rfl rfl ?_
  refine z_callV 5 [_] la_X4_isThere ml_X4_149 im_X4_isThere se_X4_isThere hR.1.1 hR.1.2.1 (by decide) rfl rfl (r_isThere hR ⟨hp1, hp2⟩ hW.n hW.h4) rfl rfl (by decide) (Nat.le_of_ble_eq_true rfl) (by decide) (by decide) dX4_lose_2 rfl (fun r t hq => ?_)
  obtain ⟨z, rfl, hz1, hz2, hz3, hR⟩ := hq
  have hB := fun (h : z = 1) => hW.b (p := p) (by omega) (by omega)
  refine z_if_ne 11 8 dX4_lose_5 (by decide) rfl ⟨by omega, by omega⟩ (fun h5 => ?_) (fun h5 => ?_)
  · refine z_aload_n 12 dX4_lose_11 rfl rfl ?_
    refine r_getP 15 hR fl_X4_38 (by decide) dX4_lose_12 rfl ?_
    refine z_iload_n 16 dX4_lose_15 rfl rfl ?_
    refine r_iald 17 10 120 hR rk10 ⟨by omega, by omega⟩ dX4_lose_16 rfl ?_
    refine z_if_lt 24 20 dX4_lose_17 (by decide) rfl ⟨by omega, by omega⟩ (fun h17 => ?_) (fun h17 => ?_)
    · refine z_iconst 25 dX4_lose_24 rfl ?_
      refine z_istore_n (lv' := [(2, _), (0, _), (1, _)]) 26 dX4_lose_25 rfl rfl rfl ?_
      refine z_aload_n 27 dX4_lose_26 rfl rfl ?_
      refine r_getP 30 hR fl_X4_38 (by decide) dX4_lose_27 rfl ?_
      refine z_iload_n 31 dX4_lose_30 rfl rfl ?_
      refine z_iconst 32 dX4_lose_31 rfl ?_
      refine r_iast 33 10 120 hR rk10 ⟨by omega, by omega⟩ dX4_lose_32 rfl (fun t hR => ?_)
      refine z_iload_n 34 dX4_lose_33 rfl rfl ?_
      refine z_ireturn rfl dX4_lose_34 (by decide) (by decide) ?_
      refine ⟨congrArg (fun z => some (vI z)) ?_, ?_⟩
      · simp only [a_lose, there, cif]; (repeat' split) <;> first | rfl | omega
      · refine RA_if (fun hc => ?_) (fun hc => ?_) <;> (try simp only [there] at hc) <;> first | exact hR | (exfalso; omega)
    · refine z_iconst 21 dX4_lose_20 rfl ?_
      refine z_goto 25 dX4_lose_21 (by decide) ?_
      refine z_istore_n (lv' := [(2, _), (0, _), (1, _)]) 26 dX4_lose_25 rfl rfl rfl ?_
      refine z_aload_n 27 dX4_lose_26 rfl rfl ?_
      refine r_getP 30 hR fl_X4_38 (by decide) dX4_lose_27 rfl ?_
      refine z_iload_n 31 dX4_lose_30 rfl rfl ?_
      refine z_iconst 32 dX4_lose_31 rfl ?_
      refine r_iast 33 10 120 hR rk10 ⟨by omega, by omega⟩ dX4_lose_32 rfl (fun t hR => ?_)
      refine z_iload_n 34 dX4_lose_33 rfl rfl ?_
      refine z_ireturn rfl dX4_lose_34 (by decide) (by decide) ?_
      refine ⟨congrArg (fun z => some (vI z)) ?_, ?_⟩
      · simp only [a_lose, there, cif]; (repeat' split) <;> first | rfl | omega
      · refine RA_if (fun hc => ?_) (fun hc => ?_) <;> (try simp only [there] at hc) <;> first | exact hR | (exfalso; omega)
  · refine z_bipush 10 dX4_lose_8 rfl ⟨by decide, by decide⟩ ?_
    refine z_ireturn rfl dX4_lose_10 (by decide) (by decide) ?_
    refine ⟨congrArg (fun z => some (vI z)) ?_, ?_⟩
    · simp only [a_lose, there, cif]; (repeat' split) <;> first | rfl | omega
    · refine RA_if (fun hc => ?_) (fun hc => ?_) <;> (try simp only [there] at hc) <;> first | exact hR | (exfalso; omega)
set_option maxRecDepth 20000 in
theorem r_isReel {m : Nat → Int → Int} {f : Nat → Int → UInt32} {x : Nat} {g : Nat → Nat} {t : zT} (hR : RA m f x g t) {q : Int} (hq : zi q) : zM yX4_isReel cX4_isReel 2 (some .boolean) 0 0 0 [vR (some x), vI q] t (fun r t1 => ∃ z, r = some (vI z) ∧ 0 ≤ z ∧ z ≤ 1 ∧ (z = 1 ↔ (0 ≤ q ∧ q < 6)) ∧ RA m f x g t1) := by
  refine zM.of [(0, vR (some x)), (1, vI q)] (by decide +kernel) rfl (Nat.le_of_ble_eq_true rfl) ?_
  obtain ⟨hq1, hq2⟩ := hq
  refine z_iload_n 1 dX4_isReel_0 rfl rfl ?_
  refine z_if_lt 14 4 dX4_isReel_1 (by decide) rfl ⟨by omega, by omega⟩ (fun h1 => ?_) (fun h1 => ?_)
  · refine z_iconst 15 dX4_isReel_14 rfl ?_
    refine z_zreturn rfl (by first | exact Or.inl rfl | exact Or.inr rfl | omega) dX4_isReel_15 (by decide) (by decide) ?_
    refine ⟨_, rfl, by omega, by omega, by omega, hR⟩
  · refine z_iload_n 5 dX4_isReel_4 rfl rfl ?_
    refine z_bipush 7 dX4_isReel_5 rfl ⟨by decide, by decide⟩ ?_
    refine z_icmp_ge 14 10 dX4_isReel_7 (by decide) rfl ⟨by omega, by omega⟩ ⟨by omega, by omega⟩ (fun h7 => ?_) (fun h7 => ?_)
    · refine z_iconst 15 dX4_isReel_14 rfl ?_
      refine z_zreturn rfl (by first | exact Or.inl rfl | exact Or.inr rfl | omega) dX4_isReel_15 (by decide) (by decide) ?_
      refine ⟨_, rfl, by omega, by omega, by omega, hR⟩
    · refine z_iconst 11 dX4_isReel_10 rfl ?_
      refine z_goto 15 dX4_isReel_11 (by decide) ?_
      refine z_zreturn rfl (by first | exact Or.inl rfl | exact Or.inr rfl | omega) dX4_isReel_15 (by decide) (by decide) ?_
      refine ⟨_, rfl, by omega, by omega, by omega, hR⟩
set_option maxRecDepth 20000 in
theorem r_isCutFrom {m : Nat → Int → Int} {f : Nat → Int → UInt32} {x : Nat} {g : Nat → Nat} {t : zT} (hR : RA m f x g t) {q : Int} (hq : zi q) (hO : 0 ≤ m 18 0 ∧ m 18 0 ≤ 6) (hO2 : ∀ o, 0 ≤ o → o < m 18 0 → -1 ≤ m 21 o ∧ m 21 o ≤ 5) : zM yX4_isCutFrom cX4_isCutFrom 4 (some .boolean) 0 0 0 [vR (some x), vI q] t (fun r t1 => ∃ z, r = some (vI z) ∧ 0 ≤ z ∧ z ≤ 1 ∧ (z = 1 ↔ cutfr m q) ∧ RA m f x g t1) := by
  refine zM.of [(0, vR (some x)), (1, vI q)] (by decide +kernel) rfl (Nat.le_of_ble_eq_true rfl) ?_
  obtain ⟨hq1, hq2⟩ := hq
  have L4 : ∀ (fuel : Nat) (k v : Int) (t : zT) (hR : RA m f x g t) (hk : 0 ≤ k ∧ k ≤ m 18 0) (hv : 0 ≤ v ∧ v ≤ 1) (hc : v = 1 ↔ ∃ o, 0 ≤ o ∧ o < k ∧ m 21 o = q) (hf : m 18 0 - k < (fuel : Int)), zOK yX4_isCutFrom cX4_isCutFrom 4 (some .boolean) 0 0 0 (fun r t1 => ∃ z, r = some (vI z) ∧ 0 ≤ z ∧ z ≤ 1 ∧ (z = 1 ↔ cutfr m q) ∧ RA m f x g t1) 0 0 4 [(3, vI k), (2, vI v), (0, vR (some x)), (1, vI q)] [] t := by
    intro fuel
    induction fuel with
    | zero => intro k v t hR hk hv hc hf; exfalso; omega
    | succ fuel ih4 =>
      intro k v t hR hk hv hc hf
      have ho := fun (h : k < m 18 0) => hO2 k hk.1 h
      refine z_iload_n 5 dX4_isCutFrom_4 rfl rfl ?_
      refine z_aload_n 6 dX4_isCutFrom_5 rfl rfl ?_
      refine r_getI 9 hR fl_X4_143 (by decide) dX4_isCutFrom_6 rfl ?_
      refine z_icmp_ge 36 12 dX4_isCutFrom_9 (by decide) rfl ⟨by omega, by omega⟩ ⟨by omega, by omega⟩ (fun h9 => ?_) (fun h9 => ?_)
      · refine z_iload_n 37 dX4_isCutFrom_36 rfl rfl ?_
        refine z_zreturn rfl (by first | exact Or.inl rfl | exact Or.inr rfl | omega) dX4_isCutFrom_37 (by decide) (by decide) ?_
        have hkk : k = m 18 0 := by omega
        refine ⟨_, rfl, by omega, by omega, ?_, hR⟩
        unfold cutfr
        rw [← hkk]
        exact hc
      · refine z_iload_n 13 dX4_isCutFrom_12 rfl rfl ?_
        refine z_aload_n 14 dX4_isCutFrom_13 rfl rfl ?_
        refine r_getP 17 hR fl_X4_66 (by decide) dX4_isCutFrom_14 rfl ?_
        refine z_iload_n 18 dX4_isCutFrom_17 rfl rfl ?_
        refine r_iald 19 21 6 hR rk21 ⟨by omega, by omega⟩ dX4_isCutFrom_18 rfl ?_
        refine z_iload_n 20 dX4_isCutFrom_19 rfl rfl ?_
        refine z_icmp_ne 27 23 dX4_isCutFrom_20 (by decide) rfl ⟨by omega, by omega⟩ ⟨by omega, by omega⟩ (fun h20 => ?_) (fun h20 => ?_)
        · refine z_iconst 28 dX4_isCutFrom_27 rfl ?_
          refine z_ior 29 dX4_isCutFrom_28 rfl (or01 (by omega) (by omega)) ?_
          refine z_istore_n (lv' := [(2, _), (3, _), (0, _), (1, _)]) 30 dX4_isCutFrom_29 rfl rfl rfl ?_
          refine z_iinc (lv' := [(3, _), (2, _), (0, _), (1, _)]) 33 dX4_isCutFrom_30 rfl rfl rfl rfl ?_
          refine z_goto 4 dX4_isCutFrom_33 (by decide) ?_
          refine z_sub (lv' := [(3, _), (2, _), (0, _), (1, _)]) ⟨rfl, rfl, rfl, rfl, trivial⟩ ?_
          exact ih4 _ _ _ hR (by omega) (by unfold b_or; split <;> omega) (by
          unfold b_or
          constructor
          · intro hh
            by_cases h1 : v = 1
            · obtain ⟨o, i1, i2, i3⟩ := hc.mp h1
              exact ⟨o, i1, by omega, i3⟩
            · exact ⟨k, by omega, by omega, by first | assumption | omega | (exfalso; split at hh <;> omega)⟩
          · intro hh
            obtain ⟨o, i1, i2, i3⟩ := hh
            rw [if_pos]
            by_cases h1 : o = k
            · subst h1; first | exact Or.inr rfl | (exfalso; omega)
            · exact Or.inl (hc.mpr ⟨o, i1, by omega, i3⟩)) (by omega)
        · refine z_iconst 24 dX4_isCutFrom_23 rfl ?_
          refine z_goto 28 dX4_isCutFrom_24 (by decide) ?_
          refine z_ior 29 dX4_isCutFrom_28 rfl (or01 (by omega) (by omega)) ?_
          refine z_istore_n (lv' := [(2, _), (3, _), (0, _), (1, _)]) 30 dX4_isCutFrom_29 rfl rfl rfl ?_
          refine z_iinc (lv' := [(3, _), (2, _), (0, _), (1, _)]) 33 dX4_isCutFrom_30 rfl rfl rfl rfl ?_
          refine z_goto 4 dX4_isCutFrom_33 (by decide) ?_
          refine z_sub (lv' := [(3, _), (2, _), (0, _), (1, _)]) ⟨rfl, rfl, rfl, rfl, trivial⟩ ?_
          exact ih4 _ _ _ hR (by omega) (by unfold b_or; split <;> omega) (by
          unfold b_or
          constructor
          · intro hh
            by_cases h1 : v = 1
            · obtain ⟨o, i1, i2, i3⟩ := hc.mp h1
              exact ⟨o, i1, by omega, i3⟩
            · exact ⟨k, by omega, by omega, by first | assumption | omega | (exfalso; split at hh <;> omega)⟩
          · intro hh
            obtain ⟨o, i1, i2, i3⟩ := hh
            rw [if_pos]
            by_cases h1 : o = k
            · subst h1; first | exact Or.inr rfl | (exfalso; omega)
            · exact Or.inl (hc.mpr ⟨o, i1, by omega, i3⟩)) (by omega)
  refine z_iconst 1 dX4_isCutFrom_0 rfl ?_
  refine z_istore_n (lv' := [(2, _), (0, _), (1, _)]) 2 dX4_isCutFrom_1 rfl rfl rfl ?_
  refine z_iconst 3 dX4_isCutFrom_2 rfl ?_
  refine z_istore_n (lv' := [(3, _), (2, _), (0, _), (1, _)]) 4 dX4_isCutFrom_3 rfl rfl rfl ?_
  refine z_sub (lv' := [(3, _), (2, _), (0, _), (1, _)]) ⟨rfl, rfl, rfl, rfl, trivial⟩ ?_
  exact L4 7 _ _ _ hR (by omega) (by omega) (by constructor <;> intro hh <;> first | omega | (obtain ⟨o, h1, h2, -⟩ := hh; omega)) (by omega)
set_option maxRecDepth 20000 in
theorem r_hang {m : Nat → Int → Int} {f : Nat → Int → UInt32} {x : Nat} {g : Nat → Nat} {t : zT} (hR : RA m f x g t) {q : Int} (hq : zi q) {p : Int} (hp : zi p) (hW : WF m f) : zM yX4_hang cX4_hang 3 (some .int) 2 0 0 [vR (some x), vI q, vI p] t (fun r t1 => r = some (vI (a_hang m q p)) ∧ RA (s_hang m q p) f x g t1) := by
  refine zM.of [(0, vR (some x)), (1, vI q), (2, vI p)] (by decide +kernel) rfl (Nat.le_of_ble_eq_true rfl) ?_
  obtain ⟨hq1, hq2⟩ := hq
  obtain ⟨hp1, hp2⟩ := hp
  have hn1 := hW.n.1
  have hn2 := hW.n.2
  refine z_aload_n 1 dX4_hang_0 rfl rfl ?_
  refine z_iload_n 2 dX4_hang_1 rfl rfl ?_
  refine z_callV 5 [_] la_X4_isFree ml_X4_122 im_X4_isFree se_X4_isFree hR.1.1 hR.1.2.1 (by decide) rfl rfl (r_isFree hR ⟨hp1, hp2⟩ hW.n hW.h4) rfl rfl (by decide) (Nat.le_of_ble_eq_true rfl) (by decide) (by decide) dX4_hang_2 rfl (fun r t hq => ?_)
  obtain ⟨z, rfl, hz1, hz2, hz3, hR⟩ := hq
  have hB := fun (h : z = 1) => hW.b (p := p) (by omega) (by omega)
  refine z_if_ne 11 8 dX4_hang_5 (by decide) rfl ⟨by omega, by omega⟩ (fun h5 => ?_) (fun h5 => ?_)
  · refine z_aload_n 12 dX4_hang_11 rfl rfl ?_
    refine z_iload_n 13 dX4_hang_12 rfl rfl ?_
    refine z_callV 16 [_] la_X4_isReel ml_X4_204 im_X4_isReel se_X4_isReel hR.1.1 hR.1.2.1 (by decide) rfl rfl (r_isReel hR ⟨by omega, by omega⟩) rfl rfl (by decide) (Nat.le_of_ble_eq_true rfl) (by decide) (by decide) dX4_hang_13 rfl (fun r t hq => ?_)
    obtain ⟨zr, rfl, hz4, hz5, hz6, hR⟩ := hq
    have hRl := fun (h : zr = 1) => hW.2.2.2.1 q (by omega) (by omega)
    refine z_if_ne 22 19 dX4_hang_16 (by decide) rfl ⟨by omega, by omega⟩ (fun h16 => ?_) (fun h16 => ?_)
    · refine z_aload_n 23 dX4_hang_22 rfl rfl ?_
      refine r_getP 26 hR fl_X4_57 (by decide) dX4_hang_23 rfl ?_
      refine z_iload_n 27 dX4_hang_26 rfl rfl ?_
      refine r_iald 28 17 6 hR rk17 ⟨by omega, by omega⟩ dX4_hang_27 rfl ?_
      refine z_if_lt 34 31 dX4_hang_28 (by decide) rfl ⟨by omega, by omega⟩ (fun h28 => ?_) (fun h28 => ?_)
      · refine z_aload_n 35 dX4_hang_34 rfl rfl ?_
        refine r_getP 38 hR fl_X4_57 (by decide) dX4_hang_35 rfl ?_
        refine z_iload_n 39 dX4_hang_38 rfl rfl ?_
        refine z_iload_n 40 dX4_hang_39 rfl rfl ?_
        refine r_iast 41 17 6 hR rk17 ⟨by omega, by omega⟩ dX4_hang_40 rfl (fun t hR => ?_)
        refine z_aload_n 42 dX4_hang_41 rfl rfl ?_
        refine r_getP 45 hR fl_X4_19 (by decide) dX4_hang_42 rfl ?_
        refine z_iload_n 46 dX4_hang_45 rfl rfl ?_
        refine z_iconst 47 dX4_hang_46 rfl ?_
        refine r_iast 48 4 120 hR rk4 ⟨by omega, by omega⟩ dX4_hang_47 rfl (fun t hR => ?_)
        refine z_aload_n 49 dX4_hang_48 rfl rfl ?_
        refine r_getP 52 hR fl_X4_13 (by decide) dX4_hang_49 rfl ?_
        refine z_iload_n 53 dX4_hang_52 rfl rfl ?_
        refine r_ialde 54 2 120 hR rk2 ⟨by omega, by omega⟩ (show _ = m 2 _ from rfl) dX4_hang_53 rfl ?_
        refine z_ireturn rfl dX4_hang_54 (by decide) (by decide) ?_
        refine ⟨congrArg (fun z => some (vI z)) ?_, ?_⟩
        · simp only [a_hang, free, cif]; (repeat' split) <;> first | rfl | omega
        · refine RA_if (fun hc => ?_) (fun hc => ?_) <;> (try simp only [free] at hc) <;> first | exact hR | (exfalso; omega)
      · refine z_bipush 33 dX4_hang_31 rfl ⟨by decide, by decide⟩ ?_
        refine z_ireturn rfl dX4_hang_33 (by decide) (by decide) ?_
        refine ⟨congrArg (fun z => some (vI z)) ?_, ?_⟩
        · simp only [a_hang, free, cif]; (repeat' split) <;> first | rfl | omega
        · refine RA_if (fun hc => ?_) (fun hc => ?_) <;> (try simp only [free] at hc) <;> first | exact hR | (exfalso; omega)
    · refine z_bipush 21 dX4_hang_19 rfl ⟨by decide, by decide⟩ ?_
      refine z_ireturn rfl dX4_hang_21 (by decide) (by decide) ?_
      refine ⟨congrArg (fun z => some (vI z)) ?_, ?_⟩
      · simp only [a_hang, free, cif]; (repeat' split) <;> first | rfl | omega
      · refine RA_if (fun hc => ?_) (fun hc => ?_) <;> (try simp only [free] at hc) <;> first | exact hR | (exfalso; omega)
  · refine z_bipush 10 dX4_hang_8 rfl ⟨by decide, by decide⟩ ?_
    refine z_ireturn rfl dX4_hang_10 (by decide) (by decide) ?_
    refine ⟨congrArg (fun z => some (vI z)) ?_, ?_⟩
    · simp only [a_hang, free, cif]; (repeat' split) <;> first | rfl | omega
    · refine RA_if (fun hc => ?_) (fun hc => ?_) <;> (try simp only [free] at hc) <;> first | exact hR | (exfalso; omega)
set_option maxRecDepth 20000 in
theorem r_off {m : Nat → Int → Int} {f : Nat → Int → UInt32} {x : Nat} {g : Nat → Nat} {t : zT} (hR : RA m f x g t) {q : Int} (hq : zi q) (hW : WF m f) : zM yX4_off cX4_off 3 (some .int) 1 0 0 [vR (some x), vI q] t (fun r t1 => r = some (vI (a_off m q)) ∧ RA (s_off m q) f x g t1) := by
  refine zM.of [(0, vR (some x)), (1, vI q)] (by decide +kernel) rfl (Nat.le_of_ble_eq_true rfl) ?_
  obtain ⟨hq1, hq2⟩ := hq
  have hn1 := hW.n.1
  have hn2 := hW.n.2
  obtain ⟨cc, hcc⟩ : ∃ c, c = cutfr m q := ⟨_, rfl⟩
  refine z_aload_n 1 dX4_off_0 rfl rfl ?_
  refine z_iload_n 2 dX4_off_1 rfl rfl ?_
  refine z_callV 5 [_] la_X4_isReel ml_X4_204 im_X4_isReel se_X4_isReel hR.1.1 hR.1.2.1 (by decide) rfl rfl (r_isReel hR ⟨by omega, by omega⟩) rfl rfl (by decide) (Nat.le_of_ble_eq_true rfl) (by decide) (by decide) dX4_off_2 rfl (fun r t hq => ?_)
  obtain ⟨zr, rfl, hz4, hz5, hz6, hR⟩ := hq
  have hRl := fun (h : zr = 1) => hW.2.2.2.1 q (by omega) (by omega)
  refine z_if_ne 11 8 dX4_off_5 (by decide) rfl ⟨by omega, by omega⟩ (fun h5 => ?_) (fun h5 => ?_)
  · refine z_aload_n 12 dX4_off_11 rfl rfl ?_
    refine r_getP 15 hR fl_X4_57 (by decide) dX4_off_12 rfl ?_
    refine z_iload_n 16 dX4_off_15 rfl rfl ?_
    refine r_iald 17 17 6 hR rk17 ⟨by omega, by omega⟩ dX4_off_16 rfl ?_
    refine z_if_ge 23 20 dX4_off_17 (by decide) rfl ⟨by omega, by omega⟩ (fun h17 => ?_) (fun h17 => ?_)
    · refine z_aload_n 24 dX4_off_23 rfl rfl ?_
      refine z_iload_n 25 dX4_off_24 rfl rfl ?_
      refine z_callV 28 [_] la_X4_isCutFrom ml_X4_207 im_X4_isCutFrom se_X4_isCutFrom hR.1.1 hR.1.2.1 (by decide) rfl rfl (r_isCutFrom hR ⟨by omega, by omega⟩ ⟨hW.2.2.2.2.1.1, hW.2.2.2.2.1.2.1⟩ (fun o a1 a2 => ⟨(hW.2.2.2.2.1.2.2 o a1 a2).2.2.1, (hW.2.2.2.2.1.2.2 o a1 a2).2.2.2.1⟩)) rfl rfl (by decide) (Nat.le_of_ble_eq_true rfl) (by decide) (by decide) dX4_off_25 rfl (fun r t hq => ?_)
      obtain ⟨z, rfl, hy1, hy2, hy3, hR⟩ := hq
      rw [← hcc] at hy3
      refine z_if_eq 34 31 dX4_off_28 (by decide) rfl ⟨by omega, by omega⟩ (fun h28 => ?_) (fun h28 => ?_)
      · refine z_aload_n 35 dX4_off_34 rfl rfl ?_
        refine r_getP 38 hR fl_X4_57 (by decide) dX4_off_35 rfl ?_
        refine z_iload_n 39 dX4_off_38 rfl rfl ?_
        refine r_iald 40 17 6 hR rk17 ⟨by omega, by omega⟩ dX4_off_39 rfl ?_
        refine z_istore_n (lv' := [(2, _), (0, _), (1, _)]) 41 dX4_off_40 rfl rfl rfl ?_
        refine z_aload_n 42 dX4_off_41 rfl rfl ?_
        refine r_getP 45 hR fl_X4_57 (by decide) dX4_off_42 rfl ?_
        refine z_iload_n 46 dX4_off_45 rfl rfl ?_
        refine z_iconst 47 dX4_off_46 rfl ?_
        refine r_iast 48 17 6 hR rk17 ⟨by omega, by omega⟩ dX4_off_47 rfl (fun t hR => ?_)
        refine z_aload_n 49 dX4_off_48 rfl rfl ?_
        refine r_getP 52 hR fl_X4_19 (by decide) dX4_off_49 rfl ?_
        refine z_iload_n 53 dX4_off_52 rfl rfl ?_
        refine z_iconst 54 dX4_off_53 rfl ?_
        refine r_iast 55 4 120 hR rk4 ⟨by omega, by omega⟩ dX4_off_54 rfl (fun t hR => ?_)
        refine z_iload_n 56 dX4_off_55 rfl rfl ?_
        refine z_ireturn rfl dX4_off_56 (by decide) (by decide) ?_
        refine ⟨congrArg (fun z => some (vI z)) ?_, ?_⟩
        · simp only [a_off, cif, ← hcc]; (repeat' split) <;> first | rfl | omega | (exfalso; simp_all; done) | (exfalso; simp_all; omega)
        · refine RA_if (fun hc => ?_) (fun hc => ?_) <;> rw [← hcc] at hc <;> first | exact hR | (exfalso; omega) | (exfalso; simp_all; done) | (exfalso; simp_all; omega)
      · refine z_bipush 33 dX4_off_31 rfl ⟨by decide, by decide⟩ ?_
        refine z_ireturn rfl dX4_off_33 (by decide) (by decide) ?_
        refine ⟨congrArg (fun z => some (vI z)) ?_, ?_⟩
        · simp only [a_off, cif, ← hcc]; (repeat' split) <;> first | rfl | omega | (exfalso; simp_all; done) | (exfalso; simp_all; omega)
        · refine RA_if (fun hc => ?_) (fun hc => ?_) <;> rw [← hcc] at hc <;> first | exact hR | (exfalso; omega) | (exfalso; simp_all; done) | (exfalso; simp_all; omega)
    · refine z_bipush 22 dX4_off_20 rfl ⟨by decide, by decide⟩ ?_
      refine z_ireturn rfl dX4_off_22 (by decide) (by decide) ?_
      refine ⟨congrArg (fun z => some (vI z)) ?_, ?_⟩
      · simp only [a_off, cif, ← hcc]; (repeat' split) <;> first | rfl | omega | (exfalso; simp_all; done) | (exfalso; simp_all; omega)
      · refine RA_if (fun hc => ?_) (fun hc => ?_) <;> rw [← hcc] at hc <;> first | exact hR | (exfalso; omega) | (exfalso; simp_all; done) | (exfalso; simp_all; omega)
  · refine z_bipush 10 dX4_off_8 rfl ⟨by decide, by decide⟩ ?_
    refine z_ireturn rfl dX4_off_10 (by decide) (by decide) ?_
    refine ⟨congrArg (fun z => some (vI z)) ?_, ?_⟩
    · simp only [a_off, cif, ← hcc]; (repeat' split) <;> first | rfl | omega | (exfalso; simp_all; done) | (exfalso; simp_all; omega)
    · refine RA_if (fun hc => ?_) (fun hc => ?_) <;> rw [← hcc] at hc <;> first | exact hR | (exfalso; omega) | (exfalso; simp_all; done) | (exfalso; simp_all; omega)
set_option maxRecDepth 20000 in
theorem r_above {t : zT} {k : Int} (hk : zi k) : zM yX4_above cX4_above 1 (some .int) 0 0 0 [vI k] t (fun r t1 => r = some (vI (abv k)) ∧ t1 = t) := by
  refine zM.of [(0, vI k)] (by decide +kernel) rfl (Nat.le_of_ble_eq_true rfl) ?_
  obtain ⟨hk1, hk2⟩ := hk
  refine z_iload_n 1 dX4_above_0 rfl rfl ?_
  refine z_iconst 2 dX4_above_1 rfl ?_
  refine z_icmp_eq 10 5 dX4_above_2 (by decide) rfl ⟨by omega, by omega⟩ ⟨by omega, by omega⟩ (fun h2 => ?_) (fun h2 => ?_)
  · refine z_iconst 11 dX4_above_10 rfl ?_
    refine z_goto 38 dX4_above_11 (by decide) ?_
    refine z_ireturn rfl dX4_above_38 (by decide) (by decide) ?_
    exact ⟨congrArg (fun z => some (vI z)) (by unfold abv; (repeat' split) <;> omega), rfl⟩
  · refine z_iload_n 6 dX4_above_5 rfl rfl ?_
    refine z_iconst 7 dX4_above_6 rfl ?_
    refine z_icmp_ne 14 10 dX4_above_7 (by decide) rfl ⟨by omega, by omega⟩ ⟨by omega, by omega⟩ (fun h7 => ?_) (fun h7 => ?_)
    · refine z_iload_n 15 dX4_above_14 rfl rfl ?_
      refine z_iconst 16 dX4_above_15 rfl ?_
      refine z_icmp_ne 23 19 dX4_above_16 (by decide) rfl ⟨by omega, by omega⟩ ⟨by omega, by omega⟩ (fun h16 => ?_) (fun h16 => ?_)
      · refine z_iload_n 24 dX4_above_23 rfl rfl ?_
        refine z_iconst 25 dX4_above_24 rfl ?_
        refine z_icmp_eq 33 28 dX4_above_25 (by decide) rfl ⟨by omega, by omega⟩ ⟨by omega, by omega⟩ (fun h25 => ?_) (fun h25 => ?_)
        · refine z_iconst 34 dX4_above_33 rfl ?_
          refine z_goto 38 dX4_above_34 (by decide) ?_
          refine z_ireturn rfl dX4_above_38 (by decide) (by decide) ?_
          exact ⟨congrArg (fun z => some (vI z)) (by unfold abv; (repeat' split) <;> omega), rfl⟩
        · refine z_iload_n 29 dX4_above_28 rfl rfl ?_
          refine z_iconst 30 dX4_above_29 rfl ?_
          refine z_icmp_ne 37 33 dX4_above_30 (by decide) rfl ⟨by omega, by omega⟩ ⟨by omega, by omega⟩ (fun h30 => ?_) (fun h30 => ?_)
          · refine z_iconst 38 dX4_above_37 rfl ?_
            refine z_ireturn rfl dX4_above_38 (by decide) (by decide) ?_
            exact ⟨congrArg (fun z => some (vI z)) (by unfold abv; (repeat' split) <;> omega), rfl⟩
          · refine z_iconst 34 dX4_above_33 rfl ?_
            refine z_goto 38 dX4_above_34 (by decide) ?_
            refine z_ireturn rfl dX4_above_38 (by decide) (by decide) ?_
            exact ⟨congrArg (fun z => some (vI z)) (by unfold abv; (repeat' split) <;> omega), rfl⟩
      · refine z_iconst 20 dX4_above_19 rfl ?_
        refine z_goto 38 dX4_above_20 (by decide) ?_
        refine z_ireturn rfl dX4_above_38 (by decide) (by decide) ?_
        exact ⟨congrArg (fun z => some (vI z)) (by unfold abv; (repeat' split) <;> omega), rfl⟩
    · refine z_iconst 11 dX4_above_10 rfl ?_
      refine z_goto 38 dX4_above_11 (by decide) ?_
      refine z_ireturn rfl dX4_above_38 (by decide) (by decide) ?_
      exact ⟨congrArg (fun z => some (vI z)) (by unfold abv; (repeat' split) <;> omega), rfl⟩
set_option maxRecDepth 20000 in
theorem r_take {m : Nat → Int → Int} {f : Nat → Int → UInt32} {x : Nat} {g : Nat → Nat} {t : zT} (hR : RA m f x g t) {q : Int} (hq : zi q) {k : Int} (hk : zi k) (hW : WF m f) : zM yX4_take cX4_take 4 (some .int) 1 0 0 [vR (some x), vI q, vI k] t (fun r t1 => r = some (vI (a_take m q k)) ∧ RA m f x g t1) := by
  refine zM.of [(0, vR (some x)), (1, vI q), (2, vI k)] (by decide +kernel) rfl (Nat.le_of_ble_eq_true rfl) ?_
  obtain ⟨hq1, hq2⟩ := hq
  obtain ⟨hk1, hk2⟩ := hk
  have hn1 := hW.n.1
  have hn2 := hW.n.2
  have L47 : ∀ (fuel : Nat) (w : Int) (t : zT) (hR : RA m f x g t) (h0 : 0 ≤ k ∧ k ≤ 5 ∧ 0 ≤ q ∧ q < 6 ∧ 0 ≤ m 17 q ∧ m 17 q < m 0 0) (hw : -1 ≤ w ∧ w ≤ 5) (hc : isk w k ↔ isk (m 1 (m 17 q)) k) (hf : (if w = -1 then 0 else if w = 0 then 1 else if w = 1 ∨ w = 4 then 2 else if w = 2 then 3 else 4) < (fuel : Int)), zOK yX4_take cX4_take 4 (some .int) 1 0 0 (fun r t1 => r = some (vI (a_take m q k)) ∧ RA m f x g t1) 0 0 47 [(3, vI w), (0, vR (some x)), (1, vI q), (2, vI k)] [] t := by
    intro fuel
    induction fuel with
    | zero => intro w t hR h0 hw hc hf; exfalso; omega
    | succ fuel ih47 =>
      intro w t hR h0 hw hc hf
      refine z_iload_n 48 dX4_take_47 rfl rfl ?_
      refine z_if_lt 64 51 dX4_take_48 (by decide) rfl ⟨by omega, by omega⟩ (fun h48 => ?_) (fun h48 => ?_)
      · refine z_iload_n 65 dX4_take_64 rfl rfl ?_
        refine z_iload_n 66 dX4_take_65 rfl rfl ?_
        refine z_icmp_ne 78 69 dX4_take_66 (by decide) rfl ⟨by omega, by omega⟩ ⟨by omega, by omega⟩ (fun h66 => ?_) (fun h66 => ?_)
        · refine z_bipush 80 dX4_take_78 rfl ⟨by decide, by decide⟩ ?_
          refine z_ireturn rfl dX4_take_80 (by decide) (by decide) ?_
          have hd : isk (m 1 (m 17 q)) k ↔ w = k := by rw [← hc]; exact ⟨fun h => by unfold isk abv at h; omega, fun h => Or.inl h⟩
          simp only [a_take, cif, hd]
          refine ⟨congrArg (fun z => some (vI z)) ?_, hR⟩
          (repeat' split) <;> first | rfl | omega
        · refine z_aload_n 70 dX4_take_69 rfl rfl ?_
          refine r_getP 73 hR fl_X4_57 (by decide) dX4_take_70 rfl ?_
          refine z_iload_n 74 dX4_take_73 rfl rfl ?_
          refine r_iald 75 17 6 hR rk17 ⟨by omega, by omega⟩ dX4_take_74 rfl ?_
          refine z_goto 80 dX4_take_75 (by decide) ?_
          refine z_ireturn rfl dX4_take_80 (by decide) (by decide) ?_
          have hd : isk (m 1 (m 17 q)) k ↔ w = k := by rw [← hc]; exact ⟨fun h => by unfold isk abv at h; omega, fun h => Or.inl h⟩
          simp only [a_take, cif, hd]
          refine ⟨congrArg (fun z => some (vI z)) ?_, hR⟩
          (repeat' split) <;> first | rfl | omega
      · refine z_iload_n 52 dX4_take_51 rfl rfl ?_
        refine z_iload_n 53 dX4_take_52 rfl rfl ?_
        refine z_icmp_eq 64 56 dX4_take_53 (by decide) rfl ⟨by omega, by omega⟩ ⟨by omega, by omega⟩ (fun h53 => ?_) (fun h53 => ?_)
        · refine z_iload_n 65 dX4_take_64 rfl rfl ?_
          refine z_iload_n 66 dX4_take_65 rfl rfl ?_
          refine z_icmp_ne 78 69 dX4_take_66 (by decide) rfl ⟨by omega, by omega⟩ ⟨by omega, by omega⟩ (fun h66 => ?_) (fun h66 => ?_)
          · refine z_bipush 80 dX4_take_78 rfl ⟨by decide, by decide⟩ ?_
            refine z_ireturn rfl dX4_take_80 (by decide) (by decide) ?_
            have hd : isk (m 1 (m 17 q)) k ↔ w = k := by rw [← hc]; exact ⟨fun h => by unfold isk abv at h; omega, fun h => Or.inl h⟩
            simp only [a_take, cif, hd]
            refine ⟨congrArg (fun z => some (vI z)) ?_, hR⟩
            (repeat' split) <;> first | rfl | omega
          · refine z_aload_n 70 dX4_take_69 rfl rfl ?_
            refine r_getP 73 hR fl_X4_57 (by decide) dX4_take_70 rfl ?_
            refine z_iload_n 74 dX4_take_73 rfl rfl ?_
            refine r_iald 75 17 6 hR rk17 ⟨by omega, by omega⟩ dX4_take_74 rfl ?_
            refine z_goto 80 dX4_take_75 (by decide) ?_
            refine z_ireturn rfl dX4_take_80 (by decide) (by decide) ?_
            have hd : isk (m 1 (m 17 q)) k ↔ w = k := by rw [← hc]; exact ⟨fun h => by unfold isk abv at h; omega, fun h => Or.inl h⟩
            simp only [a_take, cif, hd]
            refine ⟨congrArg (fun z => some (vI z)) ?_, hR⟩
            (repeat' split) <;> first | rfl | omega
        · refine z_iload_n 57 dX4_take_56 rfl rfl ?_
          refine z_callS 60 [_] la_X4_above ml_X4_210 sm_X4_above (r_above ⟨by omega, by omega⟩) rfl rfl (by decide) (Nat.le_of_ble_eq_true rfl) (by decide) (by decide) dX4_take_57 rfl (fun r t1 hq => ?_)
          obtain ⟨rfl, rfl⟩ := hq
          refine z_istore_n (lv' := [(3, _), (0, _), (1, _), (2, _)]) 61 dX4_take_60 rfl rfl rfl ?_
          refine z_goto 47 dX4_take_61 (by decide) ?_
          refine z_sub (lv' := [(3, _), (0, _), (1, _), (2, _)]) ⟨rfl, rfl, rfl, rfl, trivial⟩ ?_
          exact ih47 _ _ hR (by omega) (by unfold abv; omega) (by rw [← hc]; unfold isk abv; omega) (by first | omega | (unfold abv; omega))
  refine z_iload_n 1 dX4_take_0 rfl rfl ?_
  refine z_if_lt 9 4 dX4_take_1 (by decide) rfl ⟨by omega, by omega⟩ (fun h1 => ?_) (fun h1 => ?_)
  · refine z_bipush 11 dX4_take_9 rfl ⟨by decide, by decide⟩ ?_
    refine z_ireturn rfl dX4_take_11 (by decide) (by decide) ?_
    simp only [a_take, cif]
    refine ⟨congrArg (fun z => some (vI z)) ?_, hR⟩
    (repeat' split) <;> first | rfl | omega
  · refine z_iload_n 5 dX4_take_4 rfl rfl ?_
    refine z_iconst 6 dX4_take_5 rfl ?_
    refine z_icmp_le 12 9 dX4_take_6 (by decide) rfl ⟨by omega, by omega⟩ ⟨by omega, by omega⟩ (fun h6 => ?_) (fun h6 => ?_)
    · refine z_aload_n 13 dX4_take_12 rfl rfl ?_
      refine z_iload_n 14 dX4_take_13 rfl rfl ?_
      refine z_callV 17 [_] la_X4_isReel ml_X4_204 im_X4_isReel se_X4_isReel hR.1.1 hR.1.2.1 (by decide) rfl rfl (r_isReel hR ⟨by omega, by omega⟩) rfl rfl (by decide) (Nat.le_of_ble_eq_true rfl) (by decide) (by decide) dX4_take_14 rfl (fun r t hq => ?_)
      obtain ⟨zr, rfl, hz4, hz5, hz6, hR⟩ := hq
      have hRl := fun (h : zr = 1) => hW.2.2.2.1 q (by omega) (by omega)
      refine z_if_ne 23 20 dX4_take_17 (by decide) rfl ⟨by omega, by omega⟩ (fun h17 => ?_) (fun h17 => ?_)
      · refine z_aload_n 24 dX4_take_23 rfl rfl ?_
        refine r_getP 27 hR fl_X4_57 (by decide) dX4_take_24 rfl ?_
        refine z_iload_n 28 dX4_take_27 rfl rfl ?_
        refine r_iald 29 17 6 hR rk17 ⟨by omega, by omega⟩ dX4_take_28 rfl ?_
        refine z_if_ge 35 32 dX4_take_29 (by decide) rfl ⟨by omega, by omega⟩ (fun h29 => ?_) (fun h29 => ?_)
        · refine z_aload_n 36 dX4_take_35 rfl rfl ?_
          refine r_getP 39 hR fl_X4_9 (by decide) dX4_take_36 rfl ?_
          refine z_aload_n 40 dX4_take_39 rfl rfl ?_
          refine r_getP 43 hR fl_X4_57 (by decide) dX4_take_40 rfl ?_
          refine z_iload_n 44 dX4_take_43 rfl rfl ?_
          refine r_iald 45 17 6 hR rk17 ⟨by omega, by omega⟩ dX4_take_44 rfl ?_
          refine r_iald 46 1 120 hR rk1 ⟨by omega, by omega⟩ dX4_take_45 rfl ?_
          refine z_istore_n (lv' := [(3, _), (0, _), (1, _), (2, _)]) 47 dX4_take_46 rfl rfl rfl ?_
          refine z_sub (lv' := [(3, _), (0, _), (1, _), (2, _)]) ⟨rfl, rfl, rfl, rfl, trivial⟩ ?_
          exact L47 5 _ _ hR (by omega) (by have hb := hW.b (p := m 17 q) (by omega) (by omega); omega) (Iff.rfl) (by first | omega | (unfold abv; omega))
        · refine z_bipush 34 dX4_take_32 rfl ⟨by decide, by decide⟩ ?_
          refine z_ireturn rfl dX4_take_34 (by decide) (by decide) ?_
          simp only [a_take, cif]
          refine ⟨congrArg (fun z => some (vI z)) ?_, hR⟩
          (repeat' split) <;> first | rfl | omega
      · refine z_bipush 22 dX4_take_20 rfl ⟨by decide, by decide⟩ ?_
        refine z_ireturn rfl dX4_take_22 (by decide) (by decide) ?_
        simp only [a_take, cif]
        refine ⟨congrArg (fun z => some (vI z)) ?_, hR⟩
        (repeat' split) <;> first | rfl | omega
    · refine z_bipush 11 dX4_take_9 rfl ⟨by decide, by decide⟩ ?_
      refine z_ireturn rfl dX4_take_11 (by decide) (by decide) ?_
      simp only [a_take, cif]
      refine ⟨congrArg (fun z => some (vI z)) ?_, hR⟩
      (repeat' split) <;> first | rfl | omega
set_option maxRecDepth 20000 in
theorem r_order {m : Nat → Int → Int} {f : Nat → Int → UInt32} {x : Nat} {g : Nat → Nat} {t : zT} (hR : RA m f x g t) {w : Int} (hw : zi w) {e : Int} (he : zi e) (hW : WF m f) : zM yX4_order cX4_order 3 (some .int) 0 0 0 [vR (some x), vI w, vI e] t (fun r t1 => r = some (vI (a_order m w e)) ∧ RA (s_order m f w e).1 (s_order m f w e).2 x g t1) := by
  refine zM.of [(0, vR (some x)), (1, vI w), (2, vI e)] (by decide +kernel) rfl (Nat.le_of_ble_eq_true rfl) ?_
  obtain ⟨hw1, hw2⟩ := hw
  obtain ⟨he1, he2⟩ := he
  obtain ⟨ho1, ho2, -⟩ := hW.2.2.2.2.1
  refine z_iload_n 1 dX4_order_0 rfl rfl ?_
  refine z_iconst 2 dX4_order_1 rfl ?_
  refine z_icmp_lt 31 5 dX4_order_2 (by decide) rfl ⟨by omega, by omega⟩ ⟨by omega, by omega⟩ (fun h2 => ?_) (fun h2 => ?_)
  · refine z_bipush 33 dX4_order_31 rfl ⟨by decide, by decide⟩ ?_
    refine z_ireturn rfl dX4_order_33 (by decide) (by decide) ?_
    refine ⟨congrArg (fun z => some (vI z)) ?_, ?_⟩
    · simp only [a_order, ord_no, cif]; (repeat' split) <;> first | rfl | omega
    · refine RA_if2 (fun hc => ?_) (fun hc => ?_) <;> (try simp only [ord_no] at hc) <;> first | exact hR | (exfalso; omega)
  · refine z_iload_n 6 dX4_order_5 rfl rfl ?_
    refine z_sipush 9 dX4_order_6 rfl ⟨by decide, by decide⟩ ?_
    refine z_icmp_gt 31 12 dX4_order_9 (by decide) rfl ⟨by omega, by omega⟩ ⟨by omega, by omega⟩ (fun h9 => ?_) (fun h9 => ?_)
    · refine z_bipush 33 dX4_order_31 rfl ⟨by decide, by decide⟩ ?_
      refine z_ireturn rfl dX4_order_33 (by decide) (by decide) ?_
      refine ⟨congrArg (fun z => some (vI z)) ?_, ?_⟩
      · simp only [a_order, ord_no, cif]; (repeat' split) <;> first | rfl | omega
      · refine RA_if2 (fun hc => ?_) (fun hc => ?_) <;> (try simp only [ord_no] at hc) <;> first | exact hR | (exfalso; omega)
    · refine z_iload_n 13 dX4_order_12 rfl rfl ?_
      refine z_if_lt 31 16 dX4_order_13 (by decide) rfl ⟨by omega, by omega⟩ (fun h13 => ?_) (fun h13 => ?_)
      · refine z_bipush 33 dX4_order_31 rfl ⟨by decide, by decide⟩ ?_
        refine z_ireturn rfl dX4_order_33 (by decide) (by decide) ?_
        refine ⟨congrArg (fun z => some (vI z)) ?_, ?_⟩
        · simp only [a_order, ord_no, cif]; (repeat' split) <;> first | rfl | omega
        · refine RA_if2 (fun hc => ?_) (fun hc => ?_) <;> (try simp only [ord_no] at hc) <;> first | exact hR | (exfalso; omega)
      · refine z_iload_n 17 dX4_order_16 rfl rfl ?_
        refine z_ldc 19 co_X4_213 dX4_order_17 rfl ?_
        refine z_icmp_gt 31 22 dX4_order_19 (by decide) rfl ⟨by omega, by omega⟩ ⟨by omega, by omega⟩ (fun h19 => ?_) (fun h19 => ?_)
        · refine z_bipush 33 dX4_order_31 rfl ⟨by decide, by decide⟩ ?_
          refine z_ireturn rfl dX4_order_33 (by decide) (by decide) ?_
          refine ⟨congrArg (fun z => some (vI z)) ?_, ?_⟩
          · simp only [a_order, ord_no, cif]; (repeat' split) <;> first | rfl | omega
          · refine RA_if2 (fun hc => ?_) (fun hc => ?_) <;> (try simp only [ord_no] at hc) <;> first | exact hR | (exfalso; omega)
        · refine z_aload_n 23 dX4_order_22 rfl rfl ?_
          refine r_getI 26 hR fl_X4_143 (by decide) dX4_order_23 rfl ?_
          refine z_bipush 28 dX4_order_26 rfl ⟨by decide, by decide⟩ ?_
          refine z_icmp_ne 34 31 dX4_order_28 (by decide) rfl ⟨by omega, by omega⟩ ⟨by omega, by omega⟩ (fun h28 => ?_) (fun h28 => ?_)
          · refine z_aload_n 35 dX4_order_34 rfl rfl ?_
            refine r_getP 38 hR fl_X4_60 (by decide) dX4_order_35 rfl ?_
            refine z_aload_n 39 dX4_order_38 rfl rfl ?_
            refine r_getI 42 hR fl_X4_143 (by decide) dX4_order_39 rfl ?_
            refine z_iload_n 43 dX4_order_42 rfl rfl ?_
            refine r_iast 44 19 6 hR rk19 ⟨by omega, by omega⟩ dX4_order_43 rfl (fun t hR => ?_)
            refine z_aload_n 45 dX4_order_44 rfl rfl ?_
            refine r_getP 48 hR fl_X4_63 (by decide) dX4_order_45 rfl ?_
            refine z_aload_n 49 dX4_order_48 rfl rfl ?_
            refine r_getIe 52 hR fl_X4_143 (by decide) (show _ = m 18 0 from rfl) dX4_order_49 rfl ?_
            refine z_iload_n 53 dX4_order_52 rfl rfl ?_
            refine z_i2f 54 dX4_order_53 rfl ?_
            refine z_ldcf 56 co_X4_118 dX4_order_54 rfl ?_
            refine z_fmul 57 dX4_order_56 rfl (E8_num (by omega) (by omega)) ?_
            refine r_fast 58 20 6 hR rk20 ⟨by omega, by omega⟩ dX4_order_57 rfl (fun t hR => ?_)
            refine z_aload_n 59 dX4_order_58 rfl rfl ?_
            refine r_getP 62 hR fl_X4_66 (by decide) dX4_order_59 rfl ?_
            refine z_aload_n 63 dX4_order_62 rfl rfl ?_
            refine r_getIe 66 hR fl_X4_143 (by decide) (show _ = m 18 0 from rfl) dX4_order_63 rfl ?_
            refine z_iconst 67 dX4_order_66 rfl ?_
            refine r_iast 68 21 6 hR rk21 ⟨by omega, by omega⟩ dX4_order_67 rfl (fun t hR => ?_)
            refine z_aload_n 69 dX4_order_68 rfl rfl ?_
            refine r_getP 72 hR fl_X4_69 (by decide) dX4_order_69 rfl ?_
            refine z_aload_n 73 dX4_order_72 rfl rfl ?_
            refine r_getIe 76 hR fl_X4_143 (by decide) (show _ = m 18 0 from rfl) dX4_order_73 rfl ?_
            refine z_iconst 77 dX4_order_76 rfl ?_
            refine r_iast 78 22 6 hR rk22 ⟨by omega, by omega⟩ dX4_order_77 rfl (fun t hR => ?_)
            refine z_aload_n 79 dX4_order_78 rfl rfl ?_
            refine z_dup 80 dX4_order_79 rfl rfl ?_
            refine r_getIe 83 hR fl_X4_143 (by decide) (show _ = m 18 0 from rfl) dX4_order_80 rfl ?_
            refine z_iconst 84 dX4_order_83 rfl ?_
            refine z_iadd 85 dX4_order_84 rfl ?_
            refine r_putI 88 hR fl_X4_143 (by decide) dX4_order_85 rfl (fun t hR => ?_)
            refine z_aload_n 89 dX4_order_88 rfl rfl ?_
            refine r_getIe 92 hR fl_X4_143 (by decide) (up2_s _ _ _ _) dX4_order_89 rfl ?_
            refine z_iconst 93 dX4_order_92 rfl ?_
            refine z_isub 94 dX4_order_93 rfl ?_
            refine z_ireturn rfl dX4_order_94 (by decide) (by decide) ?_
            refine ⟨congrArg (fun z => some (vI z)) ?_, ?_⟩
            · simp only [a_order, ord_no, cif]; (repeat' split) <;> first | rfl | omega
            · refine RA_if2 (fun hc => ?_) (fun hc => ?_) <;> (try simp only [ord_no] at hc) <;> first | exact hR | (exfalso; omega)
          · refine z_bipush 33 dX4_order_31 rfl ⟨by decide, by decide⟩ ?_
            refine z_ireturn rfl dX4_order_33 (by decide) (by decide) ?_
            refine ⟨congrArg (fun z => some (vI z)) ?_, ?_⟩
            · simp only [a_order, ord_no, cif]; (repeat' split) <;> first | rfl | omega
            · refine RA_if2 (fun hc => ?_) (fun hc => ?_) <;> (try simp only [ord_no] at hc) <;> first | exact hR | (exfalso; omega)
set_option maxRecDepth 20000 in
theorem r_join {m : Nat → Int → Int} {f : Nat → Int → UInt32} {x : Nat} {g : Nat → Nat} {t : zT} (hR : RA m f x g t) {o : Int} (ho : zi o) (hW : WF m f) : zM yX4_join cX4_join 3 (some .int) 0 0 0 [vR (some x), vI o] t (fun r t1 => r = some (vI (a_join m o)) ∧ RA (s_join m o) f x g t1) := by
  refine zM.of [(0, vR (some x)), (1, vI o)] (by decide +kernel) rfl (Nat.le_of_ble_eq_true rfl) ?_
  obtain ⟨ho1, ho2⟩ := ho
  obtain ⟨hm1, hm2, hm3⟩ := hW.2.2.2.2.1
  have hm4 := fun (h : 0 ≤ o ∧ o < m 18 0) => (hm3 o h.1 h.2).1
  have hm5 := fun (h : 0 ≤ o ∧ o < m 18 0) => (hm3 o h.1 h.2).2.2.1
  have hm6 := fun (h : 0 ≤ o ∧ o < m 18 0) => (hm3 o h.1 h.2).2.2.2.1
  have hm7 : 0 ≤ o ∧ o < m 18 0 ∧ 0 ≤ m 21 o → 0 ≤ m 22 o ∧ m 22 o ≤ 2000 := fun h => by obtain ⟨a1, a2, a3, a4, a5, -⟩ := hm3 o h.1 h.2.1; obtain ⟨b1, b2, b3⟩ := a5 h.2.2; obtain ⟨c1, c2, c3⟩ := hW.2.2.2.1 (m 21 o) (by omega) (by omega); have := hW.b b1 c2; omega
  refine z_iload_n 1 dX4_join_0 rfl rfl ?_
  refine z_if_lt 21 4 dX4_join_1 (by decide) rfl ⟨by omega, by omega⟩ (fun h1 => ?_) (fun h1 => ?_)
  · refine z_bipush 23 dX4_join_21 rfl ⟨by decide, by decide⟩ ?_
    refine z_ireturn rfl dX4_join_23 (by decide) (by decide) ?_
    refine ⟨congrArg (fun z => some (vI z)) ?_, ?_⟩
    · simp only [a_join, join_no, cif]; (repeat' split) <;> first | rfl | omega
    · refine RA_if (fun hc => ?_) (fun hc => ?_) <;> (try simp only [join_no] at hc) <;> first | exact hR | (exfalso; omega)
  · refine z_iload_n 5 dX4_join_4 rfl rfl ?_
    refine z_aload_n 6 dX4_join_5 rfl rfl ?_
    refine r_getI 9 hR fl_X4_143 (by decide) dX4_join_6 rfl ?_
    refine z_icmp_ge 21 12 dX4_join_9 (by decide) rfl ⟨by omega, by omega⟩ ⟨by omega, by omega⟩ (fun h9 => ?_) (fun h9 => ?_)
    · refine z_bipush 23 dX4_join_21 rfl ⟨by decide, by decide⟩ ?_
      refine z_ireturn rfl dX4_join_23 (by decide) (by decide) ?_
      refine ⟨congrArg (fun z => some (vI z)) ?_, ?_⟩
      · simp only [a_join, join_no, cif]; (repeat' split) <;> first | rfl | omega
      · refine RA_if (fun hc => ?_) (fun hc => ?_) <;> (try simp only [join_no] at hc) <;> first | exact hR | (exfalso; omega)
    · refine z_aload_n 13 dX4_join_12 rfl rfl ?_
      refine r_getP 16 hR fl_X4_66 (by decide) dX4_join_13 rfl ?_
      refine z_iload_n 17 dX4_join_16 rfl rfl ?_
      refine r_iald 18 21 6 hR rk21 ⟨by omega, by omega⟩ dX4_join_17 rfl ?_
      refine z_if_ge 24 21 dX4_join_18 (by decide) rfl ⟨by omega, by omega⟩ (fun h18 => ?_) (fun h18 => ?_)
      · refine z_sipush 27 dX4_join_24 rfl ⟨by decide, by decide⟩ ?_
        refine z_aload_n 28 dX4_join_27 rfl rfl ?_
        refine r_getP 31 hR fl_X4_66 (by decide) dX4_join_28 rfl ?_
        refine z_iload_n 32 dX4_join_31 rfl rfl ?_
        refine r_iald 33 21 6 hR rk21 ⟨by omega, by omega⟩ dX4_join_32 rfl ?_
        refine z_imul 34 dX4_join_33 rfl ?_
        refine z_aload_n 35 dX4_join_34 rfl rfl ?_
        refine r_getP 38 hR fl_X4_69 (by decide) dX4_join_35 rfl ?_
        refine z_iload_n 39 dX4_join_38 rfl rfl ?_
        refine r_iald 40 22 6 hR rk22 ⟨by omega, by omega⟩ dX4_join_39 rfl ?_
        refine z_iadd 41 dX4_join_40 rfl ?_
        refine z_istore_n (lv' := [(2, _), (0, _), (1, _)]) 42 dX4_join_41 rfl rfl rfl ?_
        refine z_aload_n 43 dX4_join_42 rfl rfl ?_
        refine r_getP 46 hR fl_X4_66 (by decide) dX4_join_43 rfl ?_
        refine z_iload_n 47 dX4_join_46 rfl rfl ?_
        refine z_iconst 48 dX4_join_47 rfl ?_
        refine r_iast 49 21 6 hR rk21 ⟨by omega, by omega⟩ dX4_join_48 rfl (fun t hR => ?_)
        refine z_iload_n 50 dX4_join_49 rfl rfl ?_
        refine z_ireturn rfl dX4_join_50 (by decide) (by decide) ?_
        refine ⟨congrArg (fun z => some (vI z)) ?_, ?_⟩
        · simp only [a_join, join_no, cif]; (repeat' split) <;> first | rfl | omega
        · refine RA_if (fun hc => ?_) (fun hc => ?_) <;> (try simp only [join_no] at hc) <;> first | exact hR | (exfalso; omega)
      · refine z_bipush 23 dX4_join_21 rfl ⟨by decide, by decide⟩ ?_
        refine z_ireturn rfl dX4_join_23 (by decide) (by decide) ?_
        refine ⟨congrArg (fun z => some (vI z)) ?_, ?_⟩
        · simp only [a_join, join_no, cif]; (repeat' split) <;> first | rfl | omega
        · refine RA_if (fun hc => ?_) (fun hc => ?_) <;> (try simp only [join_no] at hc) <;> first | exact hR | (exfalso; omega)
set_option maxRecDepth 20000 in
theorem r_stage {m : Nat → Int → Int} {f : Nat → Int → UInt32} {x : Nat} {g : Nat → Nat} {t : zT} (hR : RA m f x g t) {w : Int} (hw : zi w) (hW : WF m f) : zM yX4_stage cX4_stage 2 (some .int) 0 0 0 [vR (some x), vI w] t (fun r t1 => r = some (vI (a_stage m w)) ∧ RA (s_stage m w) f x g t1) := by
  refine zM.of [(0, vR (some x)), (1, vI w)] (by decide +kernel) rfl (Nat.le_of_ble_eq_true rfl) ?_
  obtain ⟨hw1, hw2⟩ := hw
  obtain ⟨hm1, hm2, hm3⟩ := hW.2.2.2.2.2
  refine z_iload_n 1 dX4_stage_0 rfl rfl ?_
  refine z_if_lt 19 4 dX4_stage_1 (by decide) rfl ⟨by omega, by omega⟩ (fun h1 => ?_) (fun h1 => ?_)
  · refine z_bipush 21 dX4_stage_19 rfl ⟨by decide, by decide⟩ ?_
    refine z_ireturn rfl dX4_stage_21 (by decide) (by decide) ?_
    refine ⟨congrArg (fun z => some (vI z)) ?_, ?_⟩
    · simp only [a_stage, stage_no, cif]; (repeat' split) <;> first | rfl | omega
    · refine RA_if (fun hc => ?_) (fun hc => ?_) <;> (try simp only [stage_no] at hc) <;> first | exact hR | (exfalso; omega)
  · refine z_iload_n 5 dX4_stage_4 rfl rfl ?_
    refine z_bipush 7 dX4_stage_5 rfl ⟨by decide, by decide⟩ ?_
    refine z_icmp_gt 19 10 dX4_stage_7 (by decide) rfl ⟨by omega, by omega⟩ ⟨by omega, by omega⟩ (fun h7 => ?_) (fun h7 => ?_)
    · refine z_bipush 21 dX4_stage_19 rfl ⟨by decide, by decide⟩ ?_
      refine z_ireturn rfl dX4_stage_21 (by decide) (by decide) ?_
      refine ⟨congrArg (fun z => some (vI z)) ?_, ?_⟩
      · simp only [a_stage, stage_no, cif]; (repeat' split) <;> first | rfl | omega
      · refine RA_if (fun hc => ?_) (fun hc => ?_) <;> (try simp only [stage_no] at hc) <;> first | exact hR | (exfalso; omega)
    · refine z_aload_n 11 dX4_stage_10 rfl rfl ?_
      refine r_getI 14 hR fl_X4_146 (by decide) dX4_stage_11 rfl ?_
      refine z_bipush 16 dX4_stage_14 rfl ⟨by decide, by decide⟩ ?_
      refine z_icmp_ne 22 19 dX4_stage_16 (by decide) rfl ⟨by omega, by omega⟩ ⟨by omega, by omega⟩ (fun h16 => ?_) (fun h16 => ?_)
      · refine z_aload_n 23 dX4_stage_22 rfl rfl ?_
        refine r_getP 26 hR fl_X4_72 (by decide) dX4_stage_23 rfl ?_
        refine z_aload_n 27 dX4_stage_26 rfl rfl ?_
        refine r_getI 30 hR fl_X4_146 (by decide) dX4_stage_27 rfl ?_
        refine z_iload_n 31 dX4_stage_30 rfl rfl ?_
        refine r_iast 32 24 10 hR rk24 ⟨by omega, by omega⟩ dX4_stage_31 rfl (fun t hR => ?_)
        refine z_aload_n 33 dX4_stage_32 rfl rfl ?_
        refine z_dup 34 dX4_stage_33 rfl rfl ?_
        refine r_getIe 37 hR fl_X4_146 (by decide) (show _ = m 23 0 from rfl) dX4_stage_34 rfl ?_
        refine z_iconst 38 dX4_stage_37 rfl ?_
        refine z_iadd 39 dX4_stage_38 rfl ?_
        refine r_putI 42 hR fl_X4_146 (by decide) dX4_stage_39 rfl (fun t hR => ?_)
        refine z_aload_n 43 dX4_stage_42 rfl rfl ?_
        refine r_getIe 46 hR fl_X4_146 (by decide) (up2_s _ _ _ _) dX4_stage_43 rfl ?_
        refine z_ireturn rfl dX4_stage_46 (by decide) (by decide) ?_
        refine ⟨congrArg (fun z => some (vI z)) ?_, ?_⟩
        · simp only [a_stage, stage_no, cif]; (repeat' split) <;> first | rfl | omega
        · refine RA_if (fun hc => ?_) (fun hc => ?_) <;> (try simp only [stage_no] at hc) <;> first | exact hR | (exfalso; omega)
      · refine z_bipush 21 dX4_stage_19 rfl ⟨by decide, by decide⟩ ?_
        refine z_ireturn rfl dX4_stage_21 (by decide) (by decide) ?_
        refine ⟨congrArg (fun z => some (vI z)) ?_, ?_⟩
        · simp only [a_stage, stage_no, cif]; (repeat' split) <;> first | rfl | omega
        · refine RA_if (fun hc => ?_) (fun hc => ?_) <;> (try simp only [stage_no] at hc) <;> first | exact hR | (exfalso; omega)
set_option maxRecDepth 20000 in
theorem r_unstage {m : Nat → Int → Int} {f : Nat → Int → UInt32} {x : Nat} {g : Nat → Nat} {t : zT} (hR : RA m f x g t) (hW : WF m f) : zM yX4_unstage cX4_unstage 1 (some .int) 0 0 0 [vR (some x)] t (fun r t1 => r = some (vI (a_unstage m)) ∧ RA (s_unstage m) f x g t1) := by
  refine zM.of [(0, vR (some x))] (by decide +kernel) rfl (Nat.le_of_ble_eq_true rfl) ?_
  obtain ⟨hm1, hm2, hm3⟩ := hW.2.2.2.2.2
  have hm4 := fun (h : 0 < m 23 0) => hm3 (m 23 0 - 1) (by omega) (by omega)
  refine z_aload_n 1 dX4_unstage_0 rfl rfl ?_
  refine r_getI 4 hR fl_X4_146 (by decide) dX4_unstage_1 rfl ?_
  refine z_if_ne 10 7 dX4_unstage_4 (by decide) rfl ⟨by omega, by omega⟩ (fun h4 => ?_) (fun h4 => ?_)
  · refine z_aload_n 11 dX4_unstage_10 rfl rfl ?_
    refine z_dup 12 dX4_unstage_11 rfl rfl ?_
    refine r_getI 15 hR fl_X4_146 (by decide) dX4_unstage_12 rfl ?_
    refine z_iconst 16 dX4_unstage_15 rfl ?_
    refine z_isub 17 dX4_unstage_16 rfl ?_
    refine r_putI 20 hR fl_X4_146 (by decide) dX4_unstage_17 rfl (fun t hR => ?_)
    refine z_aload_n 21 dX4_unstage_20 rfl rfl ?_
    refine r_getP 24 hR fl_X4_72 (by decide) dX4_unstage_21 rfl ?_
    refine z_aload_n 25 dX4_unstage_24 rfl rfl ?_
    refine r_getIe 28 hR fl_X4_146 (by decide) (up2_s _ _ _ _) dX4_unstage_25 rfl ?_
    refine r_ialde 29 24 10 hR rk24 ⟨by omega, by omega⟩ (show _ = m 24 _ from rfl) dX4_unstage_28 rfl ?_
    refine z_ireturn rfl dX4_unstage_29 (by decide) (by decide) ?_
    refine ⟨congrArg (fun z => some (vI z)) ?_, ?_⟩
    · simp only [a_unstage, cif]; (repeat' split) <;> first | rfl | omega
    · refine RA_if (fun hc => ?_) (fun hc => ?_) <;> first | exact hR | (exfalso; omega)
  · refine z_bipush 9 dX4_unstage_7 rfl ⟨by decide, by decide⟩ ?_
    refine z_ireturn rfl dX4_unstage_9 (by decide) (by decide) ?_
    refine ⟨congrArg (fun z => some (vI z)) ?_, ?_⟩
    · simp only [a_unstage, cif]; (repeat' split) <;> first | rfl | omega
    · refine RA_if (fun hc => ?_) (fun hc => ?_) <;> first | exact hR | (exfalso; omega)
set_option maxRecDepth 20000 in
theorem r_product {m : Nat → Int → Int} {f : Nat → Int → UInt32} {x : Nat} {g : Nat → Nat} {t : zT} (hR : RA m f x g t) {n : Int} (hn : 0 ≤ n ∧ n ≤ 10) (hr : ∀ k, 0 ≤ k → k < n → 0 ≤ m 24 k ∧ m 24 k ≤ 8) : zM yX4_product cX4_product 5 (some .long) 0 0 0 [vR (some x), vI n] t (fun r t1 => r = some (vL (prodf m n.toNat)) ∧ RA m f x g t1) := by
  refine zM.of [(0, vR (some x)), (1, vI n)] (by decide +kernel) rfl (Nat.le_of_ble_eq_true rfl) ?_
  have L5 : ∀ (fuel : Nat) (k v : Int) (t : zT) (hR : RA m f x g t) (hk : 0 ≤ k ∧ k ≤ n) (hv : v = prodf m k.toNat) (hf : n - k < (fuel : Int)), zOK yX4_product cX4_product 5 (some .long) 0 0 0 (fun r t1 => r = some (vL (prodf m n.toNat)) ∧ RA m f x g t1) 0 0 5 [(4, vI k), (2, vL v), (0, vR (some x)), (1, vI n)] [] t := by
    intro fuel
    induction fuel with
    | zero => intro k v t hR hk hv hf; exfalso; omega
    | succ fuel ih5 =>
      intro k v t hR hk hv hf
      have hk9 := fun (h : k < n) => hr k hk.1 h
      refine z_iload 7 dX4_product_5 rfl rfl ?_
      refine z_iload_n 8 dX4_product_7 rfl rfl ?_
      refine z_icmp_ge 28 11 dX4_product_8 (by decide) rfl ⟨by omega, by omega⟩ ⟨by omega, by omega⟩ (fun h8 => ?_) (fun h8 => ?_)
      · refine z_lload_n 29 dX4_product_28 rfl rfl ?_
        refine z_lreturn rfl dX4_product_29 (by decide) (by decide) ?_
        have : k = n := by omega
        subst this
        exact ⟨by rw [hv], hR⟩
      · refine z_lload_n 12 dX4_product_11 rfl rfl ?_
        refine z_aload_n 13 dX4_product_12 rfl rfl ?_
        refine r_getP 16 hR fl_X4_72 (by decide) dX4_product_13 rfl ?_
        refine z_iload 18 dX4_product_16 rfl rfl ?_
        refine r_iald 19 24 10 hR rk24 ⟨by omega, by omega⟩ dX4_product_18 rfl ?_
        refine z_i2l 20 dX4_product_19 rfl ⟨by omega, by omega⟩ ?_
        refine z_lmul 21 dX4_product_20 rfl ?_
        refine z_lstore_n (lv' := [(2, _), (4, _), (0, _), (1, _)]) 22 dX4_product_21 rfl rfl rfl ?_
        refine z_iinc (lv' := [(4, _), (2, _), (0, _), (1, _)]) 25 dX4_product_22 rfl rfl rfl rfl ?_
        refine z_goto 5 dX4_product_25 (by decide) ?_
        refine z_sub (lv' := [(4, _), (2, _), (0, _), (1, _)]) ⟨rfl, rfl, rfl, rfl, trivial⟩ ?_
        exact ih5 _ _ _ hR (by omega) (by rw [show (k + 1).toNat = k.toNat + 1 by omega, hv]; show _ = prodf m k.toNat * m 24 (k.toNat : Int); rw [show ((k.toNat : Nat) : Int) = k by omega]) (by omega)
  refine z_lconst (z := 1) 1 dX4_product_0 rfl rfl ?_
  refine z_lstore_n (lv' := [(2, _), (0, _), (1, _)]) 2 dX4_product_1 rfl rfl rfl ?_
  refine z_iconst 3 dX4_product_2 rfl ?_
  refine z_istore (lv' := [(4, _), (2, _), (0, _), (1, _)]) 5 dX4_product_3 rfl rfl rfl ?_
  refine z_sub (lv' := [(4, _), (2, _), (0, _), (1, _)]) ⟨rfl, rfl, rfl, rfl, trivial⟩ ?_
  exact L5 11 _ _ _ hR (by omega) (rfl) (by omega)
set_option maxRecDepth 20000 in
theorem r_lowest {t : zT} {A B : Nat} {w : Int} (hA : A ≤ 1000000) (hB : 0 < B ∧ B ≤ 1073741824) (hw : zi w) : zM yX4_lowest cX4_lowest 11 (some .long) 0 0 0 [vL (A : Int), vL (B : Int), vI w] t (fun r t1 => r = some (vL (low A B w)) ∧ t1 = t) := by
  refine zM.of [(0, vL (A : Int)), (2, vL (B : Int)), (4, vI w)] (by decide +kernel) rfl (Nat.le_of_ble_eq_true rfl) ?_
  obtain ⟨hw1, hw2⟩ := hw
  have L6 : ∀ (fuel : Nat) (X Y : Nat) (t : zT)  (hX : X ≤ 1073741824 ∧ Y ≤ 1073741824) (hg : Nat.gcd X Y = Nat.gcd A B) (hf : (Y : Int) < (fuel : Int)), zOK yX4_lowest cX4_lowest 11 (some .long) 0 0 0 (fun r t1 => r = some (vL (low A B w)) ∧ t1 = t) 0 0 6 [(7, vL (Y : Int)), (5, vL (X : Int)), (0, vL (A : Int)), (2, vL (B : Int)), (4, vI w)] [] t := by
    intro fuel
    induction fuel with
    | zero => intro X Y t  hX hg hf; exfalso; omega
    | succ fuel ih6 =>
      intro X Y t  hX hg hf
      obtain ⟨hX1, hX2⟩ := hX
      refine z_lload 8 dX4_lowest_6 rfl rfl ?_
      refine z_lconst (z := 0) 9 dX4_lowest_8 rfl rfl ?_
      refine z_lcmp 10 dX4_lowest_9 rfl ⟨by omega, by omega⟩ ⟨by omega, by omega⟩ ?_
      refine z_if_eq 31 13 dX4_lowest_10 (by decide) rfl zlc_i (fun h10 => ?_) (fun h10 => ?_)
      · have hY0 : Y = 0 := by have := zlc_0.mp h10; omega
        subst hY0
        rw [Nat.gcd_zero_right] at hg
        have hgp := Nat.gcd_pos_of_pos_right A hB.1
        have hgl := Nat.gcd_le_right A hB.1
        rw [← hg] at hgp hgl
        refine z_iload 33 dX4_lowest_31 rfl rfl ?_
        refine z_if_ne 43 36 dX4_lowest_33 (by decide) rfl ⟨by omega, by omega⟩ (fun h33 => ?_) (fun h33 => ?_)
        · refine z_lload_n 44 dX4_lowest_43 rfl rfl ?_
          refine z_lload 46 dX4_lowest_44 rfl rfl ?_
          refine z_ldiv 47 dX4_lowest_46 rfl ⟨by omega, by omega⟩ ⟨by omega, by omega⟩ (by omega) ?_
          refine z_lreturn rfl dX4_lowest_47 (by decide) (by decide) ?_
          refine ⟨congrArg (fun z => some (vL z)) ?_, rfl⟩
          unfold low
          rw [← hg]
          first | (rw [if_pos (by omega)]; exact (Int.ofNat_tdiv A X).symm) | (rw [if_neg (by omega)]; exact (Int.ofNat_tdiv B X).symm)
        · refine z_lload_n 37 dX4_lowest_36 rfl rfl ?_
          refine z_lload 39 dX4_lowest_37 rfl rfl ?_
          refine z_ldiv 40 dX4_lowest_39 rfl ⟨by omega, by omega⟩ ⟨by omega, by omega⟩ (by omega) ?_
          refine z_goto 47 dX4_lowest_40 (by decide) ?_
          refine z_lreturn rfl dX4_lowest_47 (by decide) (by decide) ?_
          refine ⟨congrArg (fun z => some (vL z)) ?_, rfl⟩
          unfold low
          rw [← hg]
          first | (rw [if_pos (by omega)]; exact (Int.ofNat_tdiv A X).symm) | (rw [if_neg (by omega)]; exact (Int.ofNat_tdiv B X).symm)
      · refine z_lload 15 dX4_lowest_13 rfl rfl ?_
        refine z_lload 17 dX4_lowest_15 rfl rfl ?_
        refine z_lrem 18 dX4_lowest_17 rfl ⟨by omega, by omega⟩ ⟨by omega, by omega⟩ (fun q => h10 (zlc_0.mpr q)) ?_
        refine z_lstore (lv' := [(9, _), (7, _), (5, _), (0, _), (2, _), (4, _)]) 20 dX4_lowest_18 rfl rfl rfl ?_
        rw [show (X : Int).tmod (Y : Int) = ((X % Y : Nat) : Int) from (Int.ofNat_tmod X Y).symm]
        refine z_lload 22 dX4_lowest_20 rfl rfl ?_
        refine z_lstore (lv' := [(5, _), (9, _), (7, _), (0, _), (2, _), (4, _)]) 24 dX4_lowest_22 rfl rfl rfl ?_
        refine z_lload 26 dX4_lowest_24 rfl rfl ?_
        refine z_lstore (lv' := [(7, _), (5, _), (9, _), (0, _), (2, _), (4, _)]) 28 dX4_lowest_26 rfl rfl rfl ?_
        refine z_goto 6 dX4_lowest_28 (by decide) ?_
        have hY : ¬ (Y : Int) = 0 := fun q => h10 (zlc_0.mpr q)
        have hlt := Nat.mod_lt X (y := Y) (by omega)
        refine z_sub (lv' := [(7, _), (5, _), (0, _), (2, _), (4, _)]) ⟨rfl, rfl, rfl, rfl, rfl, trivial⟩ ?_
        exact ih6 _ _ _  (by omega) (by rw [← hg, Nat.gcd_comm X Y, Nat.gcd_rec Y X, Nat.gcd_comm]) (by omega)
  refine z_lload_n 1 dX4_lowest_0 rfl rfl ?_
  refine z_lstore (lv' := [(5, _), (0, _), (2, _), (4, _)]) 3 dX4_lowest_1 rfl rfl rfl ?_
  refine z_lload_n 4 dX4_lowest_3 rfl rfl ?_
  refine z_lstore (lv' := [(7, _), (5, _), (0, _), (2, _), (4, _)]) 6 dX4_lowest_4 rfl rfl rfl ?_
  refine z_sub (lv' := [(7, _), (5, _), (0, _), (2, _), (4, _)]) ⟨rfl, rfl, rfl, rfl, rfl, trivial⟩ ?_
  exact L6 1073741825 _ _ _  (by omega) (rfl) (by omega)
