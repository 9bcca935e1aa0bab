set_option maxRecDepth 20000 in
theorem r_count {m : Nat → Int → Int} {f : Nat → Int → UInt32} {x : Nat} {g : Nat → Nat} {t : zT} (hR : RA m f x g t) {w : Int} (hw : zi w) (hW : WF m f) : zM yX4_count cX4_count 4 (some .int) 0 0 0 [vR (some x), vI w] t (fun r t1 => r = some (vI (a_count m w)) ∧ RA m f x g t1) := by
  refine zM.of [(0, vR (some x)), (1, vI w)] (by decide +kernel) rfl (Nat.le_of_ble_eq_true rfl) ?_
  obtain ⟨hw1, hw2⟩ := hw
  have hn1 := hW.n.1
  have hn2 := hW.n.2
  obtain ⟨ho1, ho2, ho3⟩ := hW.2.2.2.2.1
  have L23 : ∀ (fuel : Nat) (k : Nat) (t : zT) (hR : RA m f x g t) (hk : (k : Int) ≤ m 0 0) (hq : 1 ≤ w ∧ w ≤ 4) (hf : m 0 0 - k < (fuel : Int)), zOK yX4_count cX4_count 4 (some .int) 0 0 0 (fun r t1 => r = some (vI (a_count m w)) ∧ RA m f x g t1) 0 0 23 [(3, vI (k : Int)), (2, vI (cntp m (w - 1) k)), (0, vR (some x)), (1, vI w)] [] t := by
    intro fuel
    induction fuel with
    | zero => intro k t hR hk hq hf; exfalso; omega
    | succ fuel ih23 =>
      intro k t hR hk hq hf
      have hb := fun (h : (k : Int) < m 0 0) => hW.b (p := k) (by omega) h
      have hcb := cntp_b (m := m) (s := w - 1) (n := k)
      refine z_iload_n 24 dX4_count_23 rfl rfl ?_
      refine z_aload_n 25 dX4_count_24 rfl rfl ?_
      refine r_getI 28 hR fl_X4_105 (by decide) dX4_count_25 rfl ?_
      refine z_icmp_ge 57 31 dX4_count_28 (by decide) rfl ⟨by omega, by omega⟩ ⟨by omega, by omega⟩ (fun h28 => ?_) (fun h28 => ?_)
      · refine z_iload_n 58 dX4_count_57 rfl rfl ?_
        refine z_ireturn rfl dX4_count_58 (by decide) (by decide) ?_
        have hkk : k = (m 0 0).toNat := by omega
        subst hkk
        refine ⟨congrArg (fun z => some (vI z)) ?_, hR⟩
        unfold a_count
        rw [if_neg (by omega), if_pos (by omega)]
      · refine z_iload_n 32 dX4_count_31 rfl rfl ?_
        refine z_aload_n 33 dX4_count_32 rfl rfl ?_
        refine r_getP 36 hR fl_X4_19 (by decide) dX4_count_33 rfl ?_
        refine z_iload_n 37 dX4_count_36 rfl rfl ?_
        refine r_iald 38 4 120 hR rk4 ⟨by omega, by omega⟩ dX4_count_37 rfl ?_
        refine z_iload_n 39 dX4_count_38 rfl rfl ?_
        refine z_iconst 40 dX4_count_39 rfl ?_
        refine z_isub 41 dX4_count_40 rfl ?_
        refine z_icmp_ne 48 44 dX4_count_41 (by decide) rfl ⟨by omega, by omega⟩ ⟨by omega, by omega⟩ (fun h41 => ?_) (fun h41 => ?_)
        · refine z_iconst 49 dX4_count_48 rfl ?_
          refine z_top (w := vI (if m 4 k = w - 1 then 1 else 0)) (congrArg vI (by split <;> omega)) ?_
          refine z_iadd 50 dX4_count_49 rfl ?_
          refine z_istore_n (lv' := [(2, _), (3, _), (0, _), (1, _)]) 51 dX4_count_50 rfl rfl rfl ?_
          refine z_iinc (lv' := [(3, _), (2, _), (0, _), (1, _)]) 54 dX4_count_51 rfl rfl rfl rfl ?_
          refine z_goto 23 dX4_count_54 (by decide) ?_
          refine z_sub (lv' := [(3, _), (2, _), (0, _), (1, _)]) ⟨rfl, rfl, rfl, rfl, trivial⟩ ?_
          exact ih23 (k + 1) _ hR (by omega) (by omega) (by omega)
        · refine z_iconst 45 dX4_count_44 rfl ?_
          refine z_goto 49 dX4_count_45 (by decide) ?_
          refine z_top (w := vI (if m 4 k = w - 1 then 1 else 0)) (congrArg vI (by split <;> omega)) ?_
          refine z_iadd 50 dX4_count_49 rfl ?_
          refine z_istore_n (lv' := [(2, _), (3, _), (0, _), (1, _)]) 51 dX4_count_50 rfl rfl rfl ?_
          refine z_iinc (lv' := [(3, _), (2, _), (0, _), (1, _)]) 54 dX4_count_51 rfl rfl rfl rfl ?_
          refine z_goto 23 dX4_count_54 (by decide) ?_
          refine z_sub (lv' := [(3, _), (2, _), (0, _), (1, _)]) ⟨rfl, rfl, rfl, rfl, trivial⟩ ?_
          exact ih23 (k + 1) _ hR (by omega) (by omega) (by omega)
  have L67 : ∀ (fuel : Nat) (k : Nat) (t : zT) (hR : RA m f x g t) (hk : (k : Int) ≤ m 18 0) (hq : w = 7) (hf : m 18 0 - k < (fuel : Int)), zOK yX4_count cX4_count 4 (some .int) 0 0 0 (fun r t1 => r = some (vI (a_count m w)) ∧ RA m f x g t1) 0 0 67 [(3, vI (k : Int)), (2, vI (cntc m k)), (0, vR (some x)), (1, vI w)] [] t := by
    intro fuel
    induction fuel with
    | zero => intro k t hR hk hq hf; exfalso; omega
    | succ fuel ih67 =>
      intro k t hR hk hq hf
      have hb := fun (h : (k : Int) < m 18 0) => ho3 k (by omega) h
      have hcb := cntc_b (m := m) (n := k)
      refine z_iload_n 68 dX4_count_67 rfl rfl ?_
      refine z_aload_n 69 dX4_count_68 rfl rfl ?_
      refine r_getI 72 hR fl_X4_143 (by decide) dX4_count_69 rfl ?_
      refine z_icmp_ge 98 75 dX4_count_72 (by decide) rfl ⟨by omega, by omega⟩ ⟨by omega, by omega⟩ (fun h72 => ?_) (fun h72 => ?_)
      · refine z_iload_n 99 dX4_count_98 rfl rfl ?_
        refine z_ireturn rfl dX4_count_99 (by decide) (by decide) ?_
        have hkk : k = (m 18 0).toNat := by omega
        subst hkk
        refine ⟨congrArg (fun z => some (vI z)) ?_, hR⟩
        unfold a_count
        rw [if_neg (by omega), if_neg (by omega), if_pos (by omega)]
      · refine z_iload_n 76 dX4_count_75 rfl rfl ?_
        refine z_aload_n 77 dX4_count_76 rfl rfl ?_
        refine r_getP 80 hR fl_X4_66 (by decide) dX4_count_77 rfl ?_
        refine z_iload_n 81 dX4_count_80 rfl rfl ?_
        refine r_iald 82 21 6 hR rk21 ⟨by omega, by omega⟩ dX4_count_81 rfl ?_
        refine z_if_lt 89 85 dX4_count_82 (by decide) rfl ⟨by omega, by omega⟩ (fun h82 => ?_) (fun h82 => ?_)
        · refine z_iconst 90 dX4_count_89 rfl ?_
          refine z_top (w := vI (if 0 ≤ m 21 k then 1 else 0)) (congrArg vI (by split <;> omega)) ?_
          refine z_iadd 91 dX4_count_90 rfl ?_
          refine z_istore_n (lv' := [(2, _), (3, _), (0, _), (1, _)]) 92 dX4_count_91 rfl rfl rfl ?_
          refine z_iinc (lv' := [(3, _), (2, _), (0, _), (1, _)]) 95 dX4_count_92 rfl rfl rfl rfl ?_
          refine z_goto 67 dX4_count_95 (by decide) ?_
          refine z_sub (lv' := [(3, _), (2, _), (0, _), (1, _)]) ⟨rfl, rfl, rfl, rfl, trivial⟩ ?_
          exact ih67 (k + 1) _ hR (by omega) (by omega) (by omega)
        · refine z_iconst 86 dX4_count_85 rfl ?_
          refine z_goto 90 dX4_count_86 (by decide) ?_
          refine z_top (w := vI (if 0 ≤ m 21 k then 1 else 0)) (congrArg vI (by split <;> omega)) ?_
          refine z_iadd 91 dX4_count_90 rfl ?_
          refine z_istore_n (lv' := [(2, _), (3, _), (0, _), (1, _)]) 92 dX4_count_91 rfl rfl rfl ?_
          refine z_iinc (lv' := [(3, _), (2, _), (0, _), (1, _)]) 95 dX4_count_92 rfl rfl rfl rfl ?_
          refine z_goto 67 dX4_count_95 (by decide) ?_
          refine z_sub (lv' := [(3, _), (2, _), (0, _), (1, _)]) ⟨rfl, rfl, rfl, rfl, trivial⟩ ?_
          exact ih67 (k + 1) _ hR (by omega) (by omega) (by omega)
  refine z_iconst 1 dX4_count_0 rfl ?_
  refine z_istore_n (lv' := [(2, _), (0, _), (1, _)]) 2 dX4_count_1 rfl rfl rfl ?_
  refine z_iload_n 3 dX4_count_2 rfl rfl ?_
  refine z_if_ne 11 6 dX4_count_3 (by decide) rfl ⟨by omega, by omega⟩ (fun h3 => ?_) (fun h3 => ?_)
  · refine z_iload_n 12 dX4_count_11 rfl rfl ?_
    refine z_iconst 13 dX4_count_12 rfl ?_
    refine z_icmp_lt 59 16 dX4_count_13 (by decide) rfl ⟨by omega, by omega⟩ ⟨by omega, by omega⟩ (fun h13 => ?_) (fun h13 => ?_)
    · refine z_iload_n 60 dX4_count_59 rfl rfl ?_
      refine z_bipush 62 dX4_count_60 rfl ⟨by decide, by decide⟩ ?_
      refine z_icmp_ne 100 65 dX4_count_62 (by decide) rfl ⟨by omega, by omega⟩ ⟨by omega, by omega⟩ (fun h62 => ?_) (fun h62 => ?_)
      · refine z_iload_n 101 dX4_count_100 rfl rfl ?_
        refine z_iconst 102 dX4_count_101 rfl ?_
        refine z_icmp_ne 112 105 dX4_count_102 (by decide) rfl ⟨by omega, by omega⟩ ⟨by omega, by omega⟩ (fun h102 => ?_) (fun h102 => ?_)
        · refine z_iload_n 113 dX4_count_112 rfl rfl ?_
          refine z_bipush 115 dX4_count_113 rfl ⟨by decide, by decide⟩ ?_
          refine z_icmp_ne 125 118 dX4_count_115 (by decide) rfl ⟨by omega, by omega⟩ ⟨by omega, by omega⟩ (fun h115 => ?_) (fun h115 => ?_)
          · refine z_iload_n 126 dX4_count_125 rfl rfl ?_
            refine z_bipush 128 dX4_count_126 rfl ⟨by decide, by decide⟩ ?_
            refine z_icmp_ne 138 131 dX4_count_128 (by decide) rfl ⟨by omega, by omega⟩ ⟨by omega, by omega⟩ (fun h128 => ?_) (fun h128 => ?_)
            · refine z_bipush 140 dX4_count_138 rfl ⟨by decide, by decide⟩ ?_
              refine z_ireturn rfl dX4_count_140 (by decide) (by decide) ?_
              refine ⟨congrArg (fun z => some (vI z)) ?_, hR⟩
              unfold a_count
              (repeat' split) <;> first | rfl | omega
            · refine z_aload_n 132 dX4_count_131 rfl rfl ?_
              refine r_getI 135 hR fl_X4_146 (by decide) dX4_count_132 rfl ?_
              refine z_goto 140 dX4_count_135 (by decide) ?_
              refine z_ireturn rfl dX4_count_140 (by decide) (by decide) ?_
              refine ⟨congrArg (fun z => some (vI z)) ?_, hR⟩
              unfold a_count
              (repeat' split) <;> first | rfl | omega
          · refine z_aload_n 119 dX4_count_118 rfl rfl ?_
            refine r_getI 122 hR fl_X4_143 (by decide) dX4_count_119 rfl ?_
            refine z_goto 140 dX4_count_122 (by decide) ?_
            refine z_ireturn rfl dX4_count_140 (by decide) (by decide) ?_
            refine ⟨congrArg (fun z => some (vI z)) ?_, hR⟩
            unfold a_count
            (repeat' split) <;> first | rfl | omega
        · refine z_aload_n 106 dX4_count_105 rfl rfl ?_
          refine r_getI 109 hR fl_X4_125 (by decide) dX4_count_106 rfl ?_
          refine z_goto 140 dX4_count_109 (by decide) ?_
          refine z_ireturn rfl dX4_count_140 (by decide) (by decide) ?_
          refine ⟨congrArg (fun z => some (vI z)) ?_, hR⟩
          unfold a_count
          (repeat' split) <;> first | rfl | omega
      · refine z_iconst 66 dX4_count_65 rfl ?_
        refine z_istore_n (lv' := [(3, _), (2, _), (0, _), (1, _)]) 67 dX4_count_66 rfl rfl rfl ?_
        refine z_sub (lv' := [(3, _), (2, _), (0, _), (1, _)]) ⟨rfl, rfl, rfl, rfl, trivial⟩ ?_
        exact L67 7 0 _ hR (by omega) (by omega) (by omega)
    · refine z_iload_n 17 dX4_count_16 rfl rfl ?_
      refine z_iconst 18 dX4_count_17 rfl ?_
      refine z_icmp_gt 59 21 dX4_count_18 (by decide) rfl ⟨by omega, by omega⟩ ⟨by omega, by omega⟩ (fun h18 => ?_) (fun h18 => ?_)
      · refine z_iload_n 60 dX4_count_59 rfl rfl ?_
        refine z_bipush 62 dX4_count_60 rfl ⟨by decide, by decide⟩ ?_
        refine z_icmp_ne 100 65 dX4_count_62 (by decide) rfl ⟨by omega, by omega⟩ ⟨by omega, by omega⟩ (fun h62 => ?_) (fun h62 => ?_)
        · refine z_iload_n 101 dX4_count_100 rfl rfl ?_
          refine z_iconst 102 dX4_count_101 rfl ?_
          refine z_icmp_ne 112 105 dX4_count_102 (by decide) rfl ⟨by omega, by omega⟩ ⟨by omega, by omega⟩ (fun h102 => ?_) (fun h102 => ?_)
          · refine z_iload_n 113 dX4_count_112 rfl rfl ?_
            refine z_bipush 115 dX4_count_113 rfl ⟨by decide, by decide⟩ ?_
            refine z_icmp_ne 125 118 dX4_count_115 (by decide) rfl ⟨by omega, by omega⟩ ⟨by omega, by omega⟩ (fun h115 => ?_) (fun h115 => ?_)
            · refine z_iload_n 126 dX4_count_125 rfl rfl ?_
              refine z_bipush 128 dX4_count_126 rfl ⟨by decide, by decide⟩ ?_
              refine z_icmp_ne 138 131 dX4_count_128 (by decide) rfl ⟨by omega, by omega⟩ ⟨by omega, by omega⟩ (fun h128 => ?_) (fun h128 => ?_)
              · refine z_bipush 140 dX4_count_138 rfl ⟨by decide, by decide⟩ ?_
                refine z_ireturn rfl dX4_count_140 (by decide) (by decide) ?_
                refine ⟨congrArg (fun z => some (vI z)) ?_, hR⟩
                unfold a_count
                (repeat' split) <;> first | rfl | omega
              · refine z_aload_n 132 dX4_count_131 rfl rfl ?_
                refine r_getI 135 hR fl_X4_146 (by decide) dX4_count_132 rfl ?_
                refine z_goto 140 dX4_count_135 (by decide) ?_
                refine z_ireturn rfl dX4_count_140 (by decide) (by decide) ?_
                refine ⟨congrArg (fun z => some (vI z)) ?_, hR⟩
                unfold a_count
                (repeat' split) <;> first | rfl | omega
            · refine z_aload_n 119 dX4_count_118 rfl rfl ?_
              refine r_getI 122 hR fl_X4_143 (by decide) dX4_count_119 rfl ?_
              refine z_goto 140 dX4_count_122 (by decide) ?_
              refine z_ireturn rfl dX4_count_140 (by decide) (by decide) ?_
              refine ⟨congrArg (fun z => some (vI z)) ?_, hR⟩
              unfold a_count
              (repeat' split) <;> first | rfl | omega
          · refine z_aload_n 106 dX4_count_105 rfl rfl ?_
            refine r_getI 109 hR fl_X4_125 (by decide) dX4_count_106 rfl ?_
            refine z_goto 140 dX4_count_109 (by decide) ?_
            refine z_ireturn rfl dX4_count_140 (by decide) (by decide) ?_
            refine ⟨congrArg (fun z => some (vI z)) ?_, hR⟩
            unfold a_count
            (repeat' split) <;> first | rfl | omega
        · refine z_iconst 66 dX4_count_65 rfl ?_
          refine z_istore_n (lv' := [(3, _), (2, _), (0, _), (1, _)]) 67 dX4_count_66 rfl rfl rfl ?_
          refine z_sub (lv' := [(3, _), (2, _), (0, _), (1, _)]) ⟨rfl, rfl, rfl, rfl, trivial⟩ ?_
          exact L67 7 0 _ hR (by omega) (by omega) (by omega)
      · refine z_iconst 22 dX4_count_21 rfl ?_
        refine z_istore_n (lv' := [(3, _), (2, _), (0, _), (1, _)]) 23 dX4_count_22 rfl rfl rfl ?_
        refine z_sub (lv' := [(3, _), (2, _), (0, _), (1, _)]) ⟨rfl, rfl, rfl, rfl, trivial⟩ ?_
        exact L23 121 0 _ hR (by omega) (by omega) (by omega)
  · refine z_aload_n 7 dX4_count_6 rfl rfl ?_
    refine r_getI 10 hR fl_X4_105 (by decide) dX4_count_7 rfl ?_
    refine z_ireturn rfl dX4_count_10 (by decide) (by decide) ?_
    refine ⟨congrArg (fun z => some (vI z)) ?_, hR⟩
    unfold a_count
    (repeat' split) <;> first | rfl | omega
set_option maxRecDepth 20000 in
theorem r_begun {m : Nat → Int → Int} {f : Nat → Int → UInt32} {x : Nat} {g : Nat → Nat} {t : zT} (hR : RA m f x g t) (hW : WF m f) : zM yX4_begun cX4_begun 3 (some .int) 1 0 0 [vR (some x)] t (fun r t1 => r = some (vI (lenc m 6)) ∧ RA m f x g t1) := by
  refine zM.of [(0, vR (some x))] (by decide +kernel) rfl (Nat.le_of_ble_eq_true rfl) ?_
  have hn1 := hW.n.1
  have hn2 := hW.n.2
  have L4 : ∀ (fuel : Nat) (k : Nat) (t : zT) (hR : RA m f x g t) (hk : k ≤ 6) (hf : 6 - (k : Int) < (fuel : Int)), zOK yX4_begun cX4_begun 3 (some .int) 1 0 0 (fun r t1 => r = some (vI (lenc m 6)) ∧ RA m f x g t1) 0 0 4 [(2, vI (k : Int)), (1, vI (lenc m k)), (0, vR (some x))] [] t := by
    intro fuel
    induction fuel with
    | zero => intro k t hR hk hf; exfalso; omega
    | succ fuel ih4 =>
      intro k t hR hk hf
      refine z_iload_n 5 dX4_begun_4 rfl rfl ?_
      refine z_bipush 7 dX4_begun_5 rfl ⟨by decide, by decide⟩ ?_
      refine z_icmp_ge 42 10 dX4_begun_7 (by decide) rfl ⟨by omega, by omega⟩ ⟨by omega, by omega⟩ (fun h7 => ?_) (fun h7 => ?_)
      · refine z_iload_n 43 dX4_begun_42 rfl rfl ?_
        refine z_ireturn rfl dX4_begun_43 (by decide) (by decide) ?_
        have hkk : k = 6 := by omega
        subst hkk
        exact ⟨rfl, hR⟩
      · refine z_iload_n 11 dX4_begun_10 rfl rfl ?_
        refine z_aload_n 12 dX4_begun_11 rfl rfl ?_
        refine z_iload_n 13 dX4_begun_12 rfl rfl ?_
        refine z_callV 16 [_] la_X4_isCutFrom ml_X4_207 im_X4_isCutFrom se_X4_isCutFrom hR.1.1 hR.1.2.1 (by decide) rfl rfl (r_isCutFrom hR ⟨by omega, by omega⟩ ⟨hW.2.2.2.2.1.1, hW.2.2.2.2.1.2.1⟩ (fun o a1 a2 => ⟨(hW.2.2.2.2.1.2.2 o a1 a2).2.2.1, (hW.2.2.2.2.1.2.2 o a1 a2).2.2.2.1⟩)) rfl rfl (by decide) (Nat.le_of_ble_eq_true rfl) (by decide) (by decide) dX4_begun_13 rfl (fun r t hq => ?_)
        obtain ⟨z, rfl, hy1, hy2, hy3, hR⟩ := hq
        have hcc : z = 1 → 0 ≤ m 17 k ∧ m 17 k < m 0 0 := fun h => by obtain ⟨o, b1, b2, b3⟩ := hy3.mp h; have c1 := ((hW.2.2.2.2.1.2.2 o b1 b2).2.2.2.2.1 (by omega)).1; rw [b3] at c1; exact ⟨c1, (hW.2.2.2.1 k (by omega) (by omega)).2.1⟩
        have hc2 : cif (cutfr m k) (m 2 (m 17 k)) 0 = if z = 1 then m 2 (m 17 k) else 0 := by simp only [cif, ← hy3]
        refine z_if_eq 33 19 dX4_begun_16 (by decide) rfl ⟨by omega, by omega⟩ (fun h16 => ?_) (fun h16 => ?_)
        · refine z_iconst 34 dX4_begun_33 rfl ?_
          refine z_top (w := vI (if z = 1 then m 2 (m 17 k) else 0)) (congrArg vI (by split <;> omega)) ?_
          refine z_iadd 35 dX4_begun_34 rfl ?_
          refine z_top (w := vI (lenc m (k + 1))) (congrArg vI (show _ = lenc m k + cif (cutfr m k) (m 2 (m 17 k)) 0 by rw [hc2])) ?_
          refine z_istore_n (lv' := [(1, _), (2, _), (0, _)]) 36 dX4_begun_35 rfl rfl rfl ?_
          refine z_iinc (lv' := [(2, _), (1, _), (0, _)]) 39 dX4_begun_36 rfl rfl rfl rfl ?_
          refine z_goto 4 dX4_begun_39 (by decide) ?_
          refine z_sub (lv' := [(2, _), (1, _), (0, _)]) ⟨rfl, rfl, rfl, trivial⟩ ?_
          exact ih4 (k + 1) _ hR (by omega) (by omega)
        · refine z_aload_n 20 dX4_begun_19 rfl rfl ?_
          refine r_getP 23 hR fl_X4_13 (by decide) dX4_begun_20 rfl ?_
          refine z_aload_n 24 dX4_begun_23 rfl rfl ?_
          refine r_getP 27 hR fl_X4_57 (by decide) dX4_begun_24 rfl ?_
          refine z_iload_n 28 dX4_begun_27 rfl rfl ?_
          refine r_iald 29 17 6 hR rk17 ⟨by omega, by omega⟩ dX4_begun_28 rfl ?_
          refine r_iald 30 2 120 hR rk2 ⟨by omega, by omega⟩ dX4_begun_29 rfl ?_
          refine z_goto 34 dX4_begun_30 (by decide) ?_
          refine z_top (w := vI (if z = 1 then m 2 (m 17 k) else 0)) (congrArg vI (by split <;> omega)) ?_
          refine z_iadd 35 dX4_begun_34 rfl ?_
          refine z_top (w := vI (lenc m (k + 1))) (congrArg vI (show _ = lenc m k + cif (cutfr m k) (m 2 (m 17 k)) 0 by rw [hc2])) ?_
          refine z_istore_n (lv' := [(1, _), (2, _), (0, _)]) 36 dX4_begun_35 rfl rfl rfl ?_
          refine z_iinc (lv' := [(2, _), (1, _), (0, _)]) 39 dX4_begun_36 rfl rfl rfl rfl ?_
          refine z_goto 4 dX4_begun_39 (by decide) ?_
          refine z_sub (lv' := [(2, _), (1, _), (0, _)]) ⟨rfl, rfl, rfl, trivial⟩ ?_
          exact ih4 (k + 1) _ hR (by omega) (by omega)
  refine z_iconst 1 dX4_begun_0 rfl ?_
  refine z_istore_n (lv' := [(1, _), (0, _)]) 2 dX4_begun_1 rfl rfl rfl ?_
  refine z_iconst 3 dX4_begun_2 rfl ?_
  refine z_istore_n (lv' := [(2, _), (1, _), (0, _)]) 4 dX4_begun_3 rfl rfl rfl ?_
  refine z_sub (lv' := [(2, _), (1, _), (0, _)]) ⟨rfl, rfl, rfl, trivial⟩ ?_
  exact L4 7 0 _ hR (by omega) (by omega)
