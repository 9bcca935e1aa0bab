set_option maxRecDepth 20000 in
theorem r_spot {m : Nat → Int → Int} {f : Nat → Int → UInt32} {x : Nat} {g : Nat → Nat} {t : zT} (hR : RA m f x g t) {p : Int} (hp : zi p) {i : Int} (hi : zi i) {fr : Int} (hfr : zi fr) {to : Int} (hto : zi to) {e : Int} (he : zi e) (hW : WF m f) : zM yX4_spot cX4_spot 8 (some .int) 2 0 0 [vR (some x), vI p, vI i, vI fr, vI to, vI e] t (fun r t1 => r = some (vI (a_spot m p i fr to e)) ∧ RA (s_spot m f p i fr to e).1 (s_spot m f p i fr to e).2 x g t1) := by
  refine zM.of [(0, vR (some x)), (1, vI p), (2, vI i), (3, vI fr), (4, vI to), (5, vI e)] (by decide +kernel) rfl (Nat.le_of_ble_eq_true rfl) ?_
  obtain ⟨hp1, hp2⟩ := hp
  obtain ⟨hi1, hi2⟩ := hi
  obtain ⟨hfr1, hfr2⟩ := hfr
  obtain ⟨hto1, hto2⟩ := hto
  obtain ⟨he1, he2⟩ := he
  have hn1 := hW.n.1
  have hn2 := hW.n.2
  have L118 : ∀ (w v : Int) (t : zT) (hR : RA m f x g t) (h0 : 0 ≤ p ∧ p < m 0 0 ∧ m 4 p ≠ 3 ∧ 0 ≤ i ∧ i < m 10 p ∧ m 10 p ≤ 8) (h1 : 0 ≤ fr ∧ fr ≤ 2000 ∧ 0 ≤ to ∧ to ≤ 2000 ∧ -1 ≤ e ∧ e ≤ 8) (hw : w = m 11 (8 * p + i)) (hv : 0 ≤ v ∧ v ≤ 1 ∧ (v = 1 ↔ 0 ≤ e)), zOK yX4_spot cX4_spot 8 (some .int) 2 0 0 (fun r t1 => r = some (vI (a_spot m p i fr to e)) ∧ RA (s_spot m f p i fr to e).1 (s_spot m f p i fr to e).2 x g t1) 0 0 118 [(7, vI w), (6, vI (8 * p + i)), (0, vR (some x)), (1, vI p), (2, vI i), (3, vI fr), (4, vI to), (5, vI e)] [vI v, vI (8 * p + i), vR (some (g 11))] t := by
    intro w v t hR h0 h1 hw hv
    refine r_bast 119 11 960 hR rk11 ⟨by omega, by omega⟩ (by first | exact Or.inl rfl | exact Or.inr rfl | omega) dX4_spot_118 rfl (fun t hR => ?_)
    refine z_aload_n 120 dX4_spot_119 rfl rfl ?_
    refine r_getP 123 hR fl_X4_45 (by decide) dX4_spot_120 rfl ?_
    refine z_iload 125 dX4_spot_123 rfl rfl ?_
    refine z_iload_n 126 dX4_spot_125 rfl rfl ?_
    refine r_iast 127 12 960 hR rk12 ⟨by omega, by omega⟩ dX4_spot_126 rfl (fun t hR => ?_)
    refine z_aload_n 128 dX4_spot_127 rfl rfl ?_
    refine r_getP 131 hR fl_X4_48 (by decide) dX4_spot_128 rfl ?_
    refine z_iload 133 dX4_spot_131 rfl rfl ?_
    refine z_iload 135 dX4_spot_133 rfl rfl ?_
    refine r_iast 136 13 960 hR rk13 ⟨by omega, by omega⟩ dX4_spot_135 rfl (fun t hR => ?_)
    refine z_aload_n 137 dX4_spot_136 rfl rfl ?_
    refine r_getP 140 hR fl_X4_51 (by decide) dX4_spot_137 rfl ?_
    refine z_iload 142 dX4_spot_140 rfl rfl ?_
    refine z_iload 144 dX4_spot_142 rfl rfl ?_
    refine z_i2f 145 dX4_spot_144 rfl ?_
    refine z_ldcf 147 co_X4_118 dX4_spot_145 rfl ?_
    refine z_fmul 148 dX4_spot_147 rfl (E8_num (by omega) (by omega)) ?_
    refine r_fast 149 14 960 hR rk14 ⟨by omega, by omega⟩ dX4_spot_148 rfl (fun t hR => ?_)
    refine z_iload 151 dX4_spot_149 rfl rfl ?_
    refine z_ireturn rfl dX4_spot_151 (by decide) (by decide) ?_
    have hv2 : v = cif (0 ≤ e) 1 0 := by simp only [cif]; split <;> omega
    subst hv2
    subst hw
    refine ⟨congrArg (fun z => some (vI z)) ?_, ?_⟩
    · simp only [a_spot, spot_no, there, cif]; (repeat' split) <;> first | rfl | omega
    · refine RA_if2 (fun hc => ?_) (fun hc => ?_) <;> (try simp only [spot_no, there] at hc) <;> first | exact hR | (exfalso; omega)
  have L100 : ∀ (w : Int) (t : zT) (hR : RA m f x g t) (h0 : 0 ≤ p ∧ p < m 0 0 ∧ m 4 p ≠ 3 ∧ 0 ≤ i ∧ i < m 10 p ∧ m 10 p ≤ 8) (h1 : 0 ≤ fr ∧ fr ≤ 2000 ∧ 0 ≤ to ∧ to ≤ 2000 ∧ -1 ≤ e ∧ e ≤ 8) (hw : w = m 11 (8 * p + i)), zOK yX4_spot cX4_spot 8 (some .int) 2 0 0 (fun r t1 => r = some (vI (a_spot m p i fr to e)) ∧ RA (s_spot m f p i fr to e).1 (s_spot m f p i fr to e).2 x g t1) 0 0 100 [(6, vI (8 * p + i)), (0, vR (some x)), (1, vI p), (2, vI i), (3, vI fr), (4, vI to), (5, vI e)] [vI w] t := by
    intro w t hR h0 h1 hw
    refine z_istore (lv' := [(7, _), (6, _), (0, _), (1, _), (2, _), (3, _), (4, _), (5, _)]) 102 dX4_spot_100 rfl rfl rfl ?_
    refine z_aload_n 103 dX4_spot_102 rfl rfl ?_
    refine r_getP 106 hR fl_X4_41 (by decide) dX4_spot_103 rfl ?_
    refine z_iload 108 dX4_spot_106 rfl rfl ?_
    refine z_iload 110 dX4_spot_108 rfl rfl ?_
    refine z_if_lt 117 113 dX4_spot_110 (by decide) rfl ⟨by omega, by omega⟩ (fun h110 => ?_) (fun h110 => ?_)
    · refine z_iconst 118 dX4_spot_117 rfl ?_
      refine z_sub (lv' := [(7, _), (6, _), (0, _), (1, _), (2, _), (3, _), (4, _), (5, _)]) ⟨rfl, rfl, rfl, rfl, rfl, rfl, rfl, rfl, trivial⟩ ?_
      exact L118 _ _ _ hR (by omega) (by omega) (by omega) (by omega)
    · refine z_iconst 114 dX4_spot_113 rfl ?_
      refine z_goto 118 dX4_spot_114 (by decide) ?_
      refine z_sub (lv' := [(7, _), (6, _), (0, _), (1, _), (2, _), (3, _), (4, _), (5, _)]) ⟨rfl, rfl, rfl, rfl, rfl, rfl, rfl, rfl, trivial⟩ ?_
      exact L118 _ _ _ hR (by omega) (by omega) (by omega) (by omega)
  refine z_aload_n 1 dX4_spot_0 rfl rfl ?_
  refine z_iload_n 2 dX4_spot_1 rfl rfl ?_
  refine z_callV 5 [_] la_X4_isThere ml_X4_149 im_X4_isThere se_X4_isThere hR.1.1 hR.1.2.1 (by decide) rfl rfl (r_isThere hR ⟨hp1, hp2⟩ hW.n hW.h4) rfl rfl (by decide) (Nat.le_of_ble_eq_true rfl) (by decide) (by decide) dX4_spot_2 rfl (fun r t hq => ?_)
  obtain ⟨z, rfl, hz1, hz2, hz3, hR⟩ := hq
  have hB := fun (h : z = 1) => hW.b (p := p) (by omega) (by omega)
  have hT : z = 1 → 0 ≤ i ∧ i < m 10 p → 0 ≤ m 11 (8 * p + i) ∧ m 11 (8 * p + i) ≤ 1 := fun h hh => by have := (hW.2.1 p (by omega) (by omega)).2.2.2.2.2.1 i hh.1 hh.2; exact ⟨this.1, this.2.1⟩
  refine z_if_eq 45 8 dX4_spot_5 (by decide) rfl ⟨by omega, by omega⟩ (fun h5 => ?_) (fun h5 => ?_)
  · refine z_bipush 47 dX4_spot_45 rfl ⟨by decide, by decide⟩ ?_
    refine z_ireturn rfl dX4_spot_47 (by decide) (by decide) ?_
    refine ⟨congrArg (fun z => some (vI z)) ?_, ?_⟩
    · simp only [a_spot, spot_no, there, cif]; (repeat' split) <;> first | rfl | omega
    · refine RA_if2 (fun hc => ?_) (fun hc => ?_) <;> (try simp only [spot_no, there] at hc) <;> first | exact hR | (exfalso; omega)
  · refine z_iload_n 9 dX4_spot_8 rfl rfl ?_
    refine z_if_lt 45 12 dX4_spot_9 (by decide) rfl ⟨by omega, by omega⟩ (fun h9 => ?_) (fun h9 => ?_)
    · refine z_bipush 47 dX4_spot_45 rfl ⟨by decide, by decide⟩ ?_
      refine z_ireturn rfl dX4_spot_47 (by decide) (by decide) ?_
      refine ⟨congrArg (fun z => some (vI z)) ?_, ?_⟩
      · simp only [a_spot, spot_no, there, cif]; (repeat' split) <;> first | rfl | omega
      · refine RA_if2 (fun hc => ?_) (fun hc => ?_) <;> (try simp only [spot_no, there] at hc) <;> first | exact hR | (exfalso; omega)
    · refine z_iload_n 13 dX4_spot_12 rfl rfl ?_
      refine z_sipush 16 dX4_spot_13 rfl ⟨by decide, by decide⟩ ?_
      refine z_icmp_gt 45 19 dX4_spot_16 (by decide) rfl ⟨by omega, by omega⟩ ⟨by omega, by omega⟩ (fun h16 => ?_) (fun h16 => ?_)
      · refine z_bipush 47 dX4_spot_45 rfl ⟨by decide, by decide⟩ ?_
        refine z_ireturn rfl dX4_spot_47 (by decide) (by decide) ?_
        refine ⟨congrArg (fun z => some (vI z)) ?_, ?_⟩
        · simp only [a_spot, spot_no, there, cif]; (repeat' split) <;> first | rfl | omega
        · refine RA_if2 (fun hc => ?_) (fun hc => ?_) <;> (try simp only [spot_no, there] at hc) <;> first | exact hR | (exfalso; omega)
      · refine z_iload 21 dX4_spot_19 rfl rfl ?_
        refine z_if_lt 45 24 dX4_spot_21 (by decide) rfl ⟨by omega, by omega⟩ (fun h21 => ?_) (fun h21 => ?_)
        · refine z_bipush 47 dX4_spot_45 rfl ⟨by decide, by decide⟩ ?_
          refine z_ireturn rfl dX4_spot_47 (by decide) (by decide) ?_
          refine ⟨congrArg (fun z => some (vI z)) ?_, ?_⟩
          · simp only [a_spot, spot_no, there, cif]; (repeat' split) <;> first | rfl | omega
          · refine RA_if2 (fun hc => ?_) (fun hc => ?_) <;> (try simp only [spot_no, there] at hc) <;> first | exact hR | (exfalso; omega)
        · refine z_iload 26 dX4_spot_24 rfl rfl ?_
          refine z_sipush 29 dX4_spot_26 rfl ⟨by decide, by decide⟩ ?_
          refine z_icmp_gt 45 32 dX4_spot_29 (by decide) rfl ⟨by omega, by omega⟩ ⟨by omega, by omega⟩ (fun h29 => ?_) (fun h29 => ?_)
          · refine z_bipush 47 dX4_spot_45 rfl ⟨by decide, by decide⟩ ?_
            refine z_ireturn rfl dX4_spot_47 (by decide) (by decide) ?_
            refine ⟨congrArg (fun z => some (vI z)) ?_, ?_⟩
            · simp only [a_spot, spot_no, there, cif]; (repeat' split) <;> first | rfl | omega
            · refine RA_if2 (fun hc => ?_) (fun hc => ?_) <;> (try simp only [spot_no, there] at hc) <;> first | exact hR | (exfalso; omega)
          · refine z_iload 34 dX4_spot_32 rfl rfl ?_
            refine z_iconst 35 dX4_spot_34 rfl ?_
            refine z_icmp_lt 45 38 dX4_spot_35 (by decide) rfl ⟨by omega, by omega⟩ ⟨by omega, by omega⟩ (fun h35 => ?_) (fun h35 => ?_)
            · refine z_bipush 47 dX4_spot_45 rfl ⟨by decide, by decide⟩ ?_
              refine z_ireturn rfl dX4_spot_47 (by decide) (by decide) ?_
              refine ⟨congrArg (fun z => some (vI z)) ?_, ?_⟩
              · simp only [a_spot, spot_no, there, cif]; (repeat' split) <;> first | rfl | omega
              · refine RA_if2 (fun hc => ?_) (fun hc => ?_) <;> (try simp only [spot_no, there] at hc) <;> first | exact hR | (exfalso; omega)
            · refine z_iload 40 dX4_spot_38 rfl rfl ?_
              refine z_bipush 42 dX4_spot_40 rfl ⟨by decide, by decide⟩ ?_
              refine z_icmp_le 48 45 dX4_spot_42 (by decide) rfl ⟨by omega, by omega⟩ ⟨by omega, by omega⟩ (fun h42 => ?_) (fun h42 => ?_)
              · refine z_aload_n 49 dX4_spot_48 rfl rfl ?_
                refine r_getP 52 hR fl_X4_38 (by decide) dX4_spot_49 rfl ?_
                refine z_iload_n 53 dX4_spot_52 rfl rfl ?_
                refine r_iald 54 10 120 hR rk10 ⟨by omega, by omega⟩ dX4_spot_53 rfl ?_
                refine z_if_ge 60 57 dX4_spot_54 (by decide) rfl ⟨by omega, by omega⟩ (fun h54 => ?_) (fun h54 => ?_)
                · refine z_iload_n 61 dX4_spot_60 rfl rfl ?_
                  refine z_if_lt 74 64 dX4_spot_61 (by decide) rfl ⟨by omega, by omega⟩ (fun h61 => ?_) (fun h61 => ?_)
                  · refine z_bipush 76 dX4_spot_74 rfl ⟨by decide, by decide⟩ ?_
                    refine z_ireturn rfl dX4_spot_76 (by decide) (by decide) ?_
                    refine ⟨congrArg (fun z => some (vI z)) ?_, ?_⟩
                    · simp only [a_spot, spot_no, there, cif]; (repeat' split) <;> first | rfl | omega
                    · refine RA_if2 (fun hc => ?_) (fun hc => ?_) <;> (try simp only [spot_no, there] at hc) <;> first | exact hR | (exfalso; omega)
                  · refine z_iload_n 65 dX4_spot_64 rfl rfl ?_
                    refine z_aload_n 66 dX4_spot_65 rfl rfl ?_
                    refine r_getP 69 hR fl_X4_38 (by decide) dX4_spot_66 rfl ?_
                    refine z_iload_n 70 dX4_spot_69 rfl rfl ?_
                    refine r_iald 71 10 120 hR rk10 ⟨by omega, by omega⟩ dX4_spot_70 rfl ?_
                    refine z_icmp_lt 77 74 dX4_spot_71 (by decide) rfl ⟨by omega, by omega⟩ ⟨by omega, by omega⟩ (fun h71 => ?_) (fun h71 => ?_)
                    · refine z_bipush 79 dX4_spot_77 rfl ⟨by decide, by decide⟩ ?_
                      refine z_iload_n 80 dX4_spot_79 rfl rfl ?_
                      refine z_imul 81 dX4_spot_80 rfl ?_
                      refine z_iload_n 82 dX4_spot_81 rfl rfl ?_
                      refine z_iadd 83 dX4_spot_82 rfl ?_
                      refine z_istore (lv' := [(6, _), (0, _), (1, _), (2, _), (3, _), (4, _), (5, _)]) 85 dX4_spot_83 rfl rfl rfl ?_
                      refine z_aload_n 86 dX4_spot_85 rfl rfl ?_
                      refine r_getP 89 hR fl_X4_41 (by decide) dX4_spot_86 rfl ?_
                      refine z_iload 91 dX4_spot_89 rfl rfl ?_
                      refine r_bald 92 11 960 hR rk11 ⟨by omega, by omega⟩ dX4_spot_91 rfl ?_
                      refine z_if_eq 99 95 dX4_spot_92 (by decide) rfl ⟨by omega, by omega⟩ (fun h92 => ?_) (fun h92 => ?_)
                      · refine z_iconst 100 dX4_spot_99 rfl ?_
                        refine z_sub (lv' := [(6, _), (0, _), (1, _), (2, _), (3, _), (4, _), (5, _)]) ⟨rfl, rfl, rfl, rfl, rfl, rfl, rfl, trivial⟩ ?_
                        exact L100 _ _ hR (by omega) (by omega) (by omega)
                      · refine z_iconst 96 dX4_spot_95 rfl ?_
                        refine z_goto 100 dX4_spot_96 (by decide) ?_
                        refine z_sub (lv' := [(6, _), (0, _), (1, _), (2, _), (3, _), (4, _), (5, _)]) ⟨rfl, rfl, rfl, rfl, rfl, rfl, rfl, trivial⟩ ?_
                        exact L100 _ _ hR (by omega) (by omega) (by omega)
                    · refine z_bipush 76 dX4_spot_74 rfl ⟨by decide, by decide⟩ ?_
                      refine z_ireturn rfl dX4_spot_76 (by decide) (by decide) ?_
                      refine ⟨congrArg (fun z => some (vI z)) ?_, ?_⟩
                      · simp only [a_spot, spot_no, there, cif]; (repeat' split) <;> first | rfl | omega
                      · refine RA_if2 (fun hc => ?_) (fun hc => ?_) <;> (try simp only [spot_no, there] at hc) <;> first | exact hR | (exfalso; omega)
                · refine z_bipush 59 dX4_spot_57 rfl ⟨by decide, by decide⟩ ?_
                  refine z_ireturn rfl dX4_spot_59 (by decide) (by decide) ?_
                  refine ⟨congrArg (fun z => some (vI z)) ?_, ?_⟩
                  · simp only [a_spot, spot_no, there, cif]; (repeat' split) <;> first | rfl | omega
                  · refine RA_if2 (fun hc => ?_) (fun hc => ?_) <;> (try simp only [spot_no, there] at hc) <;> first | exact hR | (exfalso; omega)
              · refine z_bipush 47 dX4_spot_45 rfl ⟨by decide, by decide⟩ ?_
                refine z_ireturn rfl dX4_spot_47 (by decide) (by decide) ?_
                refine ⟨congrArg (fun z => some (vI z)) ?_, ?_⟩
                · simp only [a_spot, spot_no, there, cif]; (repeat' split) <;> first | rfl | omega
                · refine RA_if2 (fun hc => ?_) (fun hc => ?_) <;> (try simp only [spot_no, there] at hc) <;> first | exact hR | (exfalso; omega)
set_option maxRecDepth 20000 in
theorem r_row {m : Nat → Int → Int} {f : Nat → Int → UInt32} {x : Nat} {g : Nat → Nat} {t : zT} (hR : RA m f x g t) {p : Int} (hp : zi p) {n : Int} (hn : zi n) (hW : WF m f) : zM yX4_row cX4_row 4 (some .int) 2 0 0 [vR (some x), vI p, vI n] t (fun r t1 => r = some (vI (a_row m p n)) ∧ RA (s_row m p n) f x g t1) := by
  refine zM.of [(0, vR (some x)), (1, vI p), (2, vI n)] (by decide +kernel) rfl (Nat.le_of_ble_eq_true rfl) ?_
  obtain ⟨hp1, hp2⟩ := hp
  obtain ⟨hn1, hn2⟩ := hn
  have hm1 := hW.n.1
  have hm2 := hW.n.2
  have L33 : ∀ (fuel : Nat) (k : Int) (t : zT) (hR : RA (rowi m p n k) f x g t) (hk : 0 ≤ k ∧ k ≤ 8) (hq : 0 ≤ p ∧ p < m 0 0 ∧ m 4 p ≠ 3 ∧ 0 ≤ n ∧ n ≤ 8) (hf : 8 - k < (fuel : Int)), zOK yX4_row cX4_row 4 (some .int) 2 0 0 (fun r t1 => r = some (vI (a_row m p n)) ∧ RA (s_row m p n) f x g t1) 0 0 33 [(3, vI k), (0, vR (some x)), (1, vI p), (2, vI n)] [] t := by
    intro fuel
    induction fuel with
    | zero => intro k t hR hk hq hf; exfalso; omega
    | succ fuel ih33 =>
      intro k t hR hk hq hf
      refine z_iload_n 34 dX4_row_33 rfl rfl ?_
      refine z_bipush 36 dX4_row_34 rfl ⟨by decide, by decide⟩ ?_
      refine z_icmp_ge 57 39 dX4_row_36 (by decide) rfl ⟨by omega, by omega⟩ ⟨by omega, by omega⟩ (fun h36 => ?_) (fun h36 => ?_)
      · refine z_iload_n 58 dX4_row_57 rfl rfl ?_
        refine z_ireturn rfl dX4_row_58 (by decide) (by decide) ?_
        have hk8 : k = 8 := by omega
        subst hk8
        refine ⟨congrArg (fun z => some (vI z)) ?_, ?_⟩
        · simp only [a_row, there, cif]; (repeat' split) <;> first | rfl | omega
        · refine RA_if (fun hc => ?_) (fun hc => ?_) <;> (try simp only [there] at hc) <;> first | exact hR | (exfalso; omega)
      · refine z_aload_n 40 dX4_row_39 rfl rfl ?_
        refine r_getP 43 hR fl_X4_41 (by decide) dX4_row_40 rfl ?_
        refine z_bipush 45 dX4_row_43 rfl ⟨by decide, by decide⟩ ?_
        refine z_iload_n 46 dX4_row_45 rfl rfl ?_
        refine z_imul 47 dX4_row_46 rfl ?_
        refine z_iload_n 48 dX4_row_47 rfl rfl ?_
        refine z_iadd 49 dX4_row_48 rfl ?_
        refine z_iconst 50 dX4_row_49 rfl ?_
        refine r_bast 51 11 960 hR rk11 ⟨by omega, by omega⟩ (by first | exact Or.inl rfl | exact Or.inr rfl | omega) dX4_row_50 rfl (fun t hR => ?_)
        refine z_iinc (lv' := [(3, _), (0, _), (1, _), (2, _)]) 54 dX4_row_51 rfl rfl rfl rfl ?_
        refine z_goto 33 dX4_row_54 (by decide) ?_
        rw [rowi_s _ _ _ _ hk.1] at hR
        refine z_sub (lv' := [(3, _), (0, _), (1, _), (2, _)]) ⟨rfl, rfl, rfl, rfl, trivial⟩ ?_
        exact ih33 _ _ hR (by omega) (by omega) (by omega)
  refine z_aload_n 1 dX4_row_0 rfl rfl ?_
  refine z_iload_n 2 dX4_row_1 rfl rfl ?_
  refine z_callV 5 [_] la_X4_isThere ml_X4_149 im_X4_isThere se_X4_isThere hR.1.1 hR.1.2.1 (by decide) rfl rfl (r_isThere hR ⟨hp1, hp2⟩ hW.n hW.h4) rfl rfl (by decide) (Nat.le_of_ble_eq_true rfl) (by decide) (by decide) dX4_row_2 rfl (fun r t hq => ?_)
  obtain ⟨z, rfl, hz1, hz2, hz3, hR⟩ := hq
  have hB := fun (h : z = 1) => hW.b (p := p) (by omega) (by omega)
  refine z_if_eq 14 8 dX4_row_5 (by decide) rfl ⟨by omega, by omega⟩ (fun h5 => ?_) (fun h5 => ?_)
  · refine z_bipush 16 dX4_row_14 rfl ⟨by decide, by decide⟩ ?_
    refine z_ireturn rfl dX4_row_16 (by decide) (by decide) ?_
    refine ⟨congrArg (fun z => some (vI z)) ?_, ?_⟩
    · simp only [a_row, there, cif]; (repeat' split) <;> first | rfl | omega
    · refine RA_if (fun hc => ?_) (fun hc => ?_) <;> (try simp only [there] at hc) <;> first | exact hR | (exfalso; omega)
  · refine z_iload_n 9 dX4_row_8 rfl rfl ?_
    refine z_bipush 11 dX4_row_9 rfl ⟨by decide, by decide⟩ ?_
    refine z_icmp_le 17 14 dX4_row_11 (by decide) rfl ⟨by omega, by omega⟩ ⟨by omega, by omega⟩ (fun h11 => ?_) (fun h11 => ?_)
    · refine z_iload_n 18 dX4_row_17 rfl rfl ?_
      refine z_if_ge 24 21 dX4_row_18 (by decide) rfl ⟨by omega, by omega⟩ (fun h18 => ?_) (fun h18 => ?_)
      · refine z_aload_n 25 dX4_row_24 rfl rfl ?_
        refine r_getP 28 hR fl_X4_38 (by decide) dX4_row_25 rfl ?_
        refine z_iload_n 29 dX4_row_28 rfl rfl ?_
        refine z_iload_n 30 dX4_row_29 rfl rfl ?_
        refine r_iast 31 10 120 hR rk10 ⟨by omega, by omega⟩ dX4_row_30 rfl (fun t hR => ?_)
        refine z_iconst 32 dX4_row_31 rfl ?_
        refine z_istore_n (lv' := [(3, _), (0, _), (1, _), (2, _)]) 33 dX4_row_32 rfl rfl rfl ?_
        rw [← rowi_0] at hR
        refine z_sub (lv' := [(3, _), (0, _), (1, _), (2, _)]) ⟨rfl, rfl, rfl, rfl, trivial⟩ ?_
        exact L33 9 _ _ hR (by omega) (by omega) (by omega)
      · refine z_bipush 23 dX4_row_21 rfl ⟨by decide, by decide⟩ ?_
        refine z_ireturn rfl dX4_row_23 (by decide) (by decide) ?_
        refine ⟨congrArg (fun z => some (vI z)) ?_, ?_⟩
        · simp only [a_row, there, cif]; (repeat' split) <;> first | rfl | omega
        · refine RA_if (fun hc => ?_) (fun hc => ?_) <;> (try simp only [there] at hc) <;> first | exact hR | (exfalso; omega)
    · refine z_bipush 16 dX4_row_14 rfl ⟨by decide, by decide⟩ ?_
      refine z_ireturn rfl dX4_row_16 (by decide) (by decide) ?_
      refine ⟨congrArg (fun z => some (vI z)) ?_, ?_⟩
      · simp only [a_row, there, cif]; (repeat' split) <;> first | rfl | omega
      · refine RA_if (fun hc => ?_) (fun hc => ?_) <;> (try simp only [there] at hc) <;> first | exact hR | (exfalso; omega)
set_option maxRecDepth 20000 in
theorem r_untwist {m : Nat → Int → Int} {f : Nat → Int → UInt32} {x : Nat} {g : Nat → Nat} {t : zT} (hR : RA m f x g t) {p : Int} (hp : zi p) (hW : WF m f) : zM yX4_untwist cX4_untwist 4 (some .int) 2 0 0 [vR (some x), vI p] t (fun r t1 => r = some (vI (a_unt m p)) ∧ RA (s_unt m p) f x g t1) := by
  refine zM.of [(0, vR (some x)), (1, vI p)] (by decide +kernel) rfl (Nat.le_of_ble_eq_true rfl) ?_
  obtain ⟨hp1, hp2⟩ := hp
  have hn1 := hW.n.1
  have hn2 := hW.n.2
  have L29 : ∀ (fuel : Nat) (k : Nat) (t : zT) (hR : RA (unt m p k) f x g t) (hk : (k : Int) ≤ m 6 p) (hq : 0 ≤ p ∧ p < m 0 0 ∧ m 4 p = 0 ∧ 0 < m 6 p ∧ m 6 p ≤ 9) (hf : m 6 p - k < (fuel : Int)), zOK yX4_untwist cX4_untwist 4 (some .int) 2 0 0 (fun r t1 => r = some (vI (a_unt m p)) ∧ RA (s_unt m p) f x g t1) 0 0 29 [(2, vI (k : Int)), (0, vR (some x)), (1, vI p)] [] t := by
    intro fuel
    induction fuel with
    | zero => intro k t hR hk hq hf; exfalso; omega
    | succ fuel ih29 =>
      intro k t hR hk hq hf
      have hpt := fun (h : (k : Int) < m 6 p) => (hW.2.1 p (by omega) (by omega)).2.2.1 k (by omega) h
      refine z_iload_n 30 dX4_untwist_29 rfl rfl ?_
      refine z_aload_n 31 dX4_untwist_30 rfl rfl ?_
      refine r_getP 34 hR fl_X4_26 (by decide) dX4_untwist_31 rfl ?_
      refine z_iload_n 35 dX4_untwist_34 rfl rfl ?_
      refine r_ialde 36 6 120 hR rk6 ⟨by omega, by omega⟩ (show _ = m 6 _ from unt_r (by decide) (by decide)) dX4_untwist_35 rfl ?_
      refine z_icmp_ge 71 39 dX4_untwist_36 (by decide) rfl ⟨by omega, by omega⟩ ⟨by omega, by omega⟩ (fun h36 => ?_) (fun h36 => ?_)
      · refine z_aload_n 72 dX4_untwist_71 rfl rfl ?_
        refine r_getP 75 hR fl_X4_26 (by decide) dX4_untwist_72 rfl ?_
        refine z_iload_n 76 dX4_untwist_75 rfl rfl ?_
        refine r_ialde 77 6 120 hR rk6 ⟨by omega, by omega⟩ (show _ = m 6 _ from unt_r (by decide) (by decide)) dX4_untwist_76 rfl ?_
        refine z_ireturn rfl dX4_untwist_77 (by decide) (by decide) ?_
        have hk8 : k = (m 6 p).toNat := by omega
        subst hk8
        refine ⟨congrArg (fun z => some (vI z)) ?_, ?_⟩
        · simp only [a_unt, free, cif]; (repeat' split) <;> first | rfl | omega
        · refine RA_if (fun hc => ?_) (fun hc => ?_) <;> (try simp only [free] at hc) <;> first | exact hR | (exfalso; omega)
      · refine z_aload_n 40 dX4_untwist_39 rfl rfl ?_
        refine r_getP 43 hR fl_X4_29 (by decide) dX4_untwist_40 rfl ?_
        refine z_bipush 45 dX4_untwist_43 rfl ⟨by decide, by decide⟩ ?_
        refine z_iload_n 46 dX4_untwist_45 rfl rfl ?_
        refine z_imul 47 dX4_untwist_46 rfl ?_
        refine z_iload_n 48 dX4_untwist_47 rfl rfl ?_
        refine z_iadd 49 dX4_untwist_48 rfl ?_
        refine r_ialde 50 7 1080 hR rk7 ⟨by omega, by omega⟩ (show _ = m 7 _ from unt_r (by decide) (by decide)) dX4_untwist_49 rfl ?_
        refine z_istore_n (lv' := [(3, _), (2, _), (0, _), (1, _)]) 51 dX4_untwist_50 rfl rfl rfl ?_
        refine z_aload_n 52 dX4_untwist_51 rfl rfl ?_
        refine r_getP 55 hR fl_X4_19 (by decide) dX4_untwist_52 rfl ?_
        refine z_iload_n 56 dX4_untwist_55 rfl rfl ?_
        refine z_iconst 57 dX4_untwist_56 rfl ?_
        refine r_iast 58 4 120 hR rk4 ⟨by omega, by omega⟩ dX4_untwist_57 rfl (fun t hR => ?_)
        refine z_aload_n 59 dX4_untwist_58 rfl rfl ?_
        refine r_getP 62 hR fl_X4_32 (by decide) dX4_untwist_59 rfl ?_
        refine z_iload_n 63 dX4_untwist_62 rfl rfl ?_
        refine z_iconst 64 dX4_untwist_63 rfl ?_
        refine r_iast 65 8 120 hR rk8 ⟨by omega, by omega⟩ dX4_untwist_64 rfl (fun t hR => ?_)
        refine z_iinc (lv' := [(2, _), (3, _), (0, _), (1, _)]) 68 dX4_untwist_65 rfl rfl rfl rfl ?_
        refine z_goto 29 dX4_untwist_68 (by decide) ?_
        refine z_sub (lv' := [(2, _), (0, _), (1, _)]) ⟨rfl, rfl, rfl, trivial⟩ ?_
        exact ih29 (k + 1) _ hR (by omega) (by omega) (by omega)
  refine z_aload_n 1 dX4_untwist_0 rfl rfl ?_
  refine z_iload_n 2 dX4_untwist_1 rfl rfl ?_
  refine z_callV 5 [_] la_X4_isFree ml_X4_122 im_X4_isFree se_X4_isFree hR.1.1 hR.1.2.1 (by decide) rfl rfl (r_isFree hR ⟨hp1, hp2⟩ hW.n hW.h4) rfl rfl (by decide) (Nat.le_of_ble_eq_true rfl) (by decide) (by decide) dX4_untwist_2 rfl (fun r t hq => ?_)
  obtain ⟨z, rfl, hz1, hz2, hz3, hR⟩ := hq
  have hB := fun (h : z = 1) => hW.b (p := p) (by omega) (by omega)
  refine z_if_eq 17 8 dX4_untwist_5 (by decide) rfl ⟨by omega, by omega⟩ (fun h5 => ?_) (fun h5 => ?_)
  · refine z_bipush 19 dX4_untwist_17 rfl ⟨by decide, by decide⟩ ?_
    refine z_ireturn rfl dX4_untwist_19 (by decide) (by decide) ?_
    refine ⟨congrArg (fun z => some (vI z)) ?_, ?_⟩
    · simp only [a_unt, free, cif]; (repeat' split) <;> first | rfl | omega
    · refine RA_if (fun hc => ?_) (fun hc => ?_) <;> (try simp only [free] at hc) <;> first | exact hR | (exfalso; omega)
  · refine z_aload_n 9 dX4_untwist_8 rfl rfl ?_
    refine r_getP 12 hR fl_X4_26 (by decide) dX4_untwist_9 rfl ?_
    refine z_iload_n 13 dX4_untwist_12 rfl rfl ?_
    refine r_iald 14 6 120 hR rk6 ⟨by omega, by omega⟩ dX4_untwist_13 rfl ?_
    refine z_if_ne 20 17 dX4_untwist_14 (by decide) rfl ⟨by omega, by omega⟩ (fun h14 => ?_) (fun h14 => ?_)
    · refine z_aload_n 21 dX4_untwist_20 rfl rfl ?_
      refine r_getP 24 hR fl_X4_19 (by decide) dX4_untwist_21 rfl ?_
      refine z_iload_n 25 dX4_untwist_24 rfl rfl ?_
      refine z_iconst 26 dX4_untwist_25 rfl ?_
      refine r_iast 27 4 120 hR rk4 ⟨by omega, by omega⟩ dX4_untwist_26 rfl (fun t hR => ?_)
      refine z_iconst 28 dX4_untwist_27 rfl ?_
      refine z_istore_n (lv' := [(2, _), (0, _), (1, _)]) 29 dX4_untwist_28 rfl rfl rfl ?_
      refine z_sub (lv' := [(2, _), (0, _), (1, _)]) ⟨rfl, rfl, rfl, trivial⟩ ?_
      exact L29 10 0 _ hR (by omega) (by omega) (by omega)
    · refine z_bipush 19 dX4_untwist_17 rfl ⟨by decide, by decide⟩ ?_
      refine z_ireturn rfl dX4_untwist_19 (by decide) (by decide) ?_
      refine ⟨congrArg (fun z => some (vI z)) ?_, ?_⟩
      · simp only [a_unt, free, cif]; (repeat' split) <;> first | rfl | omega
      · refine RA_if (fun hc => ?_) (fun hc => ?_) <;> (try simp only [free] at hc) <;> first | exact hR | (exfalso; omega)
set_option maxRecDepth 20000 in
theorem r_splice {m : Nat → Int → Int} {f : Nat → Int → UInt32} {x : Nat} {g : Nat → Nat} {t : zT} (hR : RA m f x g t) {a : Int} (ha : zi a) {b : Int} (hb : zi b) {n : Int} (hn : zi n) (hW : WF m f) : zM yX4_splice cX4_splice 6 (some .int) 2 0 0 [vR (some x), vI a, vI b, vI n] t (fun r t1 => r = some (vI (a_spl m a b n)) ∧ RA (s_spl m a b n) f x g t1) := by
  refine zM.of [(0, vR (some x)), (1, vI a), (2, vI b), (3, vI n)] (by decide +kernel) rfl (Nat.le_of_ble_eq_true rfl) ?_
  obtain ⟨ha1, ha2⟩ := ha
  obtain ⟨hb1, hb2⟩ := hb
  obtain ⟨hn1, hn2⟩ := hn
  have hm1 := hW.n.1
  have hm2 := hW.n.2
  refine z_aload_n 1 dX4_splice_0 rfl rfl ?_
  refine z_iload_n 2 dX4_splice_1 rfl rfl ?_
  refine z_callV 5 [_] la_X4_isFree ml_X4_122 im_X4_isFree se_X4_isFree hR.1.1 hR.1.2.1 (by decide) rfl rfl (r_isFree hR ⟨ha1, ha2⟩ hW.n hW.h4) rfl rfl (by decide) (Nat.le_of_ble_eq_true rfl) (by decide) (by decide) dX4_splice_2 rfl (fun r t hq => ?_)
  obtain ⟨za, rfl, ha_1, ha_2, ha_3, hR⟩ := hq
  have ha_B := fun (h : za = 1) => hW.b (p := a) (by omega) (by omega)
  refine z_if_eq 77 8 dX4_splice_5 (by decide) rfl ⟨by omega, by omega⟩ (fun h5 => ?_) (fun h5 => ?_)
  · refine z_bipush 79 dX4_splice_77 rfl ⟨by decide, by decide⟩ ?_
    refine z_ireturn rfl dX4_splice_79 (by decide) (by decide) ?_
    refine ⟨congrArg (fun z => some (vI z)) ?_, ?_⟩
    · simp only [a_spl, spl_no, free, thick, cif]; (repeat' split) <;> first | rfl | omega
    · refine RA_if (fun hc => ?_) (fun hc => ?_) <;> (try simp only [spl_no, free, thick] at hc) <;> first | exact hR | (exfalso; omega)
  · refine z_aload_n 9 dX4_splice_8 rfl rfl ?_
    refine z_iload_n 10 dX4_splice_9 rfl rfl ?_
    refine z_callV 13 [_] la_X4_isFree ml_X4_122 im_X4_isFree se_X4_isFree hR.1.1 hR.1.2.1 (by decide) rfl rfl (r_isFree hR ⟨hb1, hb2⟩ hW.n hW.h4) rfl rfl (by decide) (Nat.le_of_ble_eq_true rfl) (by decide) (by decide) dX4_splice_10 rfl (fun r t hq => ?_)
    obtain ⟨zb, rfl, hb_1, hb_2, hb_3, hR⟩ := hq
    have hb_B := fun (h : zb = 1) => hW.b (p := b) (by omega) (by omega)
    refine z_if_eq 77 16 dX4_splice_13 (by decide) rfl ⟨by omega, by omega⟩ (fun h13 => ?_) (fun h13 => ?_)
    · refine z_bipush 79 dX4_splice_77 rfl ⟨by decide, by decide⟩ ?_
      refine z_ireturn rfl dX4_splice_79 (by decide) (by decide) ?_
      refine ⟨congrArg (fun z => some (vI z)) ?_, ?_⟩
      · simp only [a_spl, spl_no, free, thick, cif]; (repeat' split) <;> first | rfl | omega
      · refine RA_if (fun hc => ?_) (fun hc => ?_) <;> (try simp only [spl_no, free, thick] at hc) <;> first | exact hR | (exfalso; omega)
    · refine z_iload_n 17 dX4_splice_16 rfl rfl ?_
      refine z_iload_n 18 dX4_splice_17 rfl rfl ?_
      refine z_icmp_eq 77 21 dX4_splice_18 (by decide) rfl ⟨by omega, by omega⟩ ⟨by omega, by omega⟩ (fun h18 => ?_) (fun h18 => ?_)
      · refine z_bipush 79 dX4_splice_77 rfl ⟨by decide, by decide⟩ ?_
        refine z_ireturn rfl dX4_splice_79 (by decide) (by decide) ?_
        refine ⟨congrArg (fun z => some (vI z)) ?_, ?_⟩
        · simp only [a_spl, spl_no, free, thick, cif]; (repeat' split) <;> first | rfl | omega
        · refine RA_if (fun hc => ?_) (fun hc => ?_) <;> (try simp only [spl_no, free, thick] at hc) <;> first | exact hR | (exfalso; omega)
      · refine z_aload_n 22 dX4_splice_21 rfl rfl ?_
        refine z_iload_n 23 dX4_splice_22 rfl rfl ?_
        refine z_callV 26 [_] la_X4_isThick ml_X4_136 im_X4_isThick se_X4_isThick hR.1.1 hR.1.2.1 (by decide) rfl rfl (r_isThick hR ⟨by omega, by omega⟩ ⟨by omega, by omega⟩ ⟨by omega, by omega⟩) rfl rfl (by decide) (Nat.le_of_ble_eq_true rfl) (by decide) (by decide) dX4_splice_23 rfl (fun r t hq => ?_)
        obtain ⟨zc, rfl, hc_1, hc_2, hc_3, hR⟩ := hq
        unfold thick at hc_3
        refine z_if_eq 77 29 dX4_splice_26 (by decide) rfl ⟨by omega, by omega⟩ (fun h26 => ?_) (fun h26 => ?_)
        · refine z_bipush 79 dX4_splice_77 rfl ⟨by decide, by decide⟩ ?_
          refine z_ireturn rfl dX4_splice_79 (by decide) (by decide) ?_
          refine ⟨congrArg (fun z => some (vI z)) ?_, ?_⟩
          · simp only [a_spl, spl_no, free, thick, cif]; (repeat' split) <;> first | rfl | omega
          · refine RA_if (fun hc => ?_) (fun hc => ?_) <;> (try simp only [spl_no, free, thick] at hc) <;> first | exact hR | (exfalso; omega)
        · refine z_aload_n 30 dX4_splice_29 rfl rfl ?_
          refine z_iload_n 31 dX4_splice_30 rfl rfl ?_
          refine z_callV 34 [_] la_X4_isThick ml_X4_136 im_X4_isThick se_X4_isThick hR.1.1 hR.1.2.1 (by decide) rfl rfl (r_isThick hR ⟨by omega, by omega⟩ ⟨by omega, by omega⟩ ⟨by omega, by omega⟩) rfl rfl (by decide) (Nat.le_of_ble_eq_true rfl) (by decide) (by decide) dX4_splice_31 rfl (fun r t hq => ?_)
          obtain ⟨zd, rfl, hd_1, hd_2, hd_3, hR⟩ := hq
          unfold thick at hd_3
          refine z_if_eq 77 37 dX4_splice_34 (by decide) rfl ⟨by omega, by omega⟩ (fun h34 => ?_) (fun h34 => ?_)
          · refine z_bipush 79 dX4_splice_77 rfl ⟨by decide, by decide⟩ ?_
            refine z_ireturn rfl dX4_splice_79 (by decide) (by decide) ?_
            refine ⟨congrArg (fun z => some (vI z)) ?_, ?_⟩
            · simp only [a_spl, spl_no, free, thick, cif]; (repeat' split) <;> first | rfl | omega
            · refine RA_if (fun hc => ?_) (fun hc => ?_) <;> (try simp only [spl_no, free, thick] at hc) <;> first | exact hR | (exfalso; omega)
          · refine z_aload_n 38 dX4_splice_37 rfl rfl ?_
            refine r_getP 41 hR fl_X4_16 (by decide) dX4_splice_38 rfl ?_
            refine z_iload_n 42 dX4_splice_41 rfl rfl ?_
            refine r_iald 43 3 120 hR rk3 ⟨by omega, by omega⟩ dX4_splice_42 rfl ?_
            refine z_aload_n 44 dX4_splice_43 rfl rfl ?_
            refine r_getP 47 hR fl_X4_16 (by decide) dX4_splice_44 rfl ?_
            refine z_iload_n 48 dX4_splice_47 rfl rfl ?_
            refine r_iald 49 3 120 hR rk3 ⟨by omega, by omega⟩ dX4_splice_48 rfl ?_
            refine z_icmp_ne 77 52 dX4_splice_49 (by decide) rfl ⟨by omega, by omega⟩ ⟨by omega, by omega⟩ (fun h49 => ?_) (fun h49 => ?_)
            · refine z_bipush 79 dX4_splice_77 rfl ⟨by decide, by decide⟩ ?_
              refine z_ireturn rfl dX4_splice_79 (by decide) (by decide) ?_
              refine ⟨congrArg (fun z => some (vI z)) ?_, ?_⟩
              · simp only [a_spl, spl_no, free, thick, cif]; (repeat' split) <;> first | rfl | omega
              · refine RA_if (fun hc => ?_) (fun hc => ?_) <;> (try simp only [spl_no, free, thick] at hc) <;> first | exact hR | (exfalso; omega)
            · refine z_iload_n 53 dX4_splice_52 rfl rfl ?_
              refine z_iconst 54 dX4_splice_53 rfl ?_
              refine z_icmp_lt 77 57 dX4_splice_54 (by decide) rfl ⟨by omega, by omega⟩ ⟨by omega, by omega⟩ (fun h54 => ?_) (fun h54 => ?_)
              · refine z_bipush 79 dX4_splice_77 rfl ⟨by decide, by decide⟩ ?_
                refine z_ireturn rfl dX4_splice_79 (by decide) (by decide) ?_
                refine ⟨congrArg (fun z => some (vI z)) ?_, ?_⟩
                · simp only [a_spl, spl_no, free, thick, cif]; (repeat' split) <;> first | rfl | omega
                · refine RA_if (fun hc => ?_) (fun hc => ?_) <;> (try simp only [spl_no, free, thick] at hc) <;> first | exact hR | (exfalso; omega)
              · refine z_iload_n 58 dX4_splice_57 rfl rfl ?_
                refine z_aload_n 59 dX4_splice_58 rfl rfl ?_
                refine r_getP 62 hR fl_X4_13 (by decide) dX4_splice_59 rfl ?_
                refine z_iload_n 63 dX4_splice_62 rfl rfl ?_
                refine r_iald 64 2 120 hR rk2 ⟨by omega, by omega⟩ dX4_splice_63 rfl ?_
                refine z_icmp_gt 77 67 dX4_splice_64 (by decide) rfl ⟨by omega, by omega⟩ ⟨by omega, by omega⟩ (fun h64 => ?_) (fun h64 => ?_)
                · refine z_bipush 79 dX4_splice_77 rfl ⟨by decide, by decide⟩ ?_
                  refine z_ireturn rfl dX4_splice_79 (by decide) (by decide) ?_
                  refine ⟨congrArg (fun z => some (vI z)) ?_, ?_⟩
                  · simp only [a_spl, spl_no, free, thick, cif]; (repeat' split) <;> first | rfl | omega
                  · refine RA_if (fun hc => ?_) (fun hc => ?_) <;> (try simp only [spl_no, free, thick] at hc) <;> first | exact hR | (exfalso; omega)
                · refine z_iload_n 68 dX4_splice_67 rfl rfl ?_
                  refine z_aload_n 69 dX4_splice_68 rfl rfl ?_
                  refine r_getP 72 hR fl_X4_13 (by decide) dX4_splice_69 rfl ?_
                  refine z_iload_n 73 dX4_splice_72 rfl rfl ?_
                  refine r_iald 74 2 120 hR rk2 ⟨by omega, by omega⟩ dX4_splice_73 rfl ?_
                  refine z_icmp_le 80 77 dX4_splice_74 (by decide) rfl ⟨by omega, by omega⟩ ⟨by omega, by omega⟩ (fun h74 => ?_) (fun h74 => ?_)
                  · refine z_aload_n 81 dX4_splice_80 rfl rfl ?_
                    refine r_getP 84 hR fl_X4_13 (by decide) dX4_splice_81 rfl ?_
                    refine z_iload_n 85 dX4_splice_84 rfl rfl ?_
                    refine r_iald 86 2 120 hR rk2 ⟨by omega, by omega⟩ dX4_splice_85 rfl ?_
                    refine z_aload_n 87 dX4_splice_86 rfl rfl ?_
                    refine r_getP 90 hR fl_X4_13 (by decide) dX4_splice_87 rfl ?_
                    refine z_iload_n 91 dX4_splice_90 rfl rfl ?_
                    refine r_iald 92 2 120 hR rk2 ⟨by omega, by omega⟩ dX4_splice_91 rfl ?_
                    refine z_iadd 93 dX4_splice_92 rfl ?_
                    refine z_iload_n 94 dX4_splice_93 rfl rfl ?_
                    refine z_isub 95 dX4_splice_94 rfl ?_
                    refine z_istore (lv' := [(4, _), (0, _), (1, _), (2, _), (3, _)]) 97 dX4_splice_95 rfl rfl rfl ?_
                    refine z_iload 99 dX4_splice_97 rfl rfl ?_
                    refine z_sipush 102 dX4_splice_99 rfl ⟨by decide, by decide⟩ ?_
                    refine z_icmp_gt 114 105 dX4_splice_102 (by decide) rfl ⟨by omega, by omega⟩ ⟨by omega, by omega⟩ (fun h102 => ?_) (fun h102 => ?_)
                    · refine z_bipush 116 dX4_splice_114 rfl ⟨by decide, by decide⟩ ?_
                      refine z_ireturn rfl dX4_splice_116 (by decide) (by decide) ?_
                      refine ⟨congrArg (fun z => some (vI z)) ?_, ?_⟩
                      · simp only [a_spl, spl_no, free, thick, cif]; (repeat' split) <;> first | rfl | omega
                      · refine RA_if (fun hc => ?_) (fun hc => ?_) <;> (try simp only [spl_no, free, thick] at hc) <;> first | exact hR | (exfalso; omega)
                    · refine z_aload_n 106 dX4_splice_105 rfl rfl ?_
                      refine r_getI 109 hR fl_X4_105 (by decide) dX4_splice_106 rfl ?_
                      refine z_bipush 111 dX4_splice_109 rfl ⟨by decide, by decide⟩ ?_
                      refine z_icmp_ne 117 114 dX4_splice_111 (by decide) rfl ⟨by omega, by omega⟩ ⟨by omega, by omega⟩ (fun h111 => ?_) (fun h111 => ?_)
                      · refine z_aload_n 118 dX4_splice_117 rfl rfl ?_
                        refine z_iconst 119 dX4_splice_118 rfl ?_
                        refine z_iload 121 dX4_splice_119 rfl rfl ?_
                        refine z_aload_n 122 dX4_splice_121 rfl rfl ?_
                        refine r_getP 125 hR fl_X4_16 (by decide) dX4_splice_122 rfl ?_
                        refine z_iload_n 126 dX4_splice_125 rfl rfl ?_
                        refine r_iald 127 3 120 hR rk3 ⟨by omega, by omega⟩ dX4_splice_126 rfl ?_
                        refine z_callV 130 [_, _, _] la_X4_newPiece ml_X4_114 im_X4_newPiece se_X4_newPiece hR.1.1 hR.1.2.1 (by decide) rfl rfl (r_newPiece hR ⟨by omega, by omega⟩ ⟨by omega, by omega⟩ ⟨by omega, by omega⟩ ⟨by omega, by omega⟩) rfl rfl (by decide) (Nat.le_of_ble_eq_true rfl) (by decide) (by decide) dX4_splice_127 rfl (fun r t hq => ?_)
                        obtain ⟨rfl, hR⟩ := hq
                        refine z_istore (lv' := [(5, _), (4, _), (0, _), (1, _), (2, _), (3, _)]) 132 dX4_splice_130 rfl rfl rfl ?_
                        refine z_aload_n 133 dX4_splice_132 rfl rfl ?_
                        refine r_getP 136 hR fl_X4_35 (by decide) dX4_splice_133 rfl ?_
                        refine z_iload 138 dX4_splice_136 rfl rfl ?_
                        refine z_iload_n 139 dX4_splice_138 rfl rfl ?_
                        refine r_iast 140 9 120 hR rk9 ⟨by omega, by omega⟩ dX4_splice_139 rfl (fun t hR => ?_)
                        refine z_aload_n 141 dX4_splice_140 rfl rfl ?_
                        refine z_iload 143 dX4_splice_141 rfl rfl ?_
                        refine z_iload_n 144 dX4_splice_143 rfl rfl ?_
                        refine z_callV 147 [_, _] la_X4_putIn ml_X4_132 im_X4_putIn se_X4_putIn hR.1.1 hR.1.2.1 (by decide) rfl rfl (r_putIn hR ⟨by omega, by omega⟩ ⟨by omega, by omega⟩ ⟨by omega, by omega⟩ ⟨by omega, by omega⟩ (by rw [up2_a _ _ _ _ (by decide), np_6]; decide)) rfl rfl (by decide) (Nat.le_of_ble_eq_true rfl) (by decide) (by decide) dX4_splice_144 rfl (fun r t hq => ?_)
                        obtain ⟨rfl, hR⟩ := hq
                        refine z_aload_n 148 dX4_splice_147 rfl rfl ?_
                        refine z_iload 150 dX4_splice_148 rfl rfl ?_
                        refine z_iload_n 151 dX4_splice_150 rfl rfl ?_
                        refine z_callV 154 [_, _] la_X4_putIn ml_X4_132 im_X4_putIn se_X4_putIn hR.1.1 hR.1.2.1 (by decide) rfl rfl (r_putIn hR ⟨by omega, by omega⟩ ⟨by omega, by omega⟩ ⟨by omega, by omega⟩ ⟨by omega, by omega⟩ (by rw [putin_6, up2_a _ _ _ _ (by decide), np_6]; decide)) rfl rfl (by decide) (Nat.le_of_ble_eq_true rfl) (by decide) (by decide) dX4_splice_151 rfl (fun r t hq => ?_)
                        obtain ⟨rfl, hR⟩ := hq
                        refine z_iload 156 dX4_splice_154 rfl rfl ?_
                        refine z_ireturn rfl dX4_splice_156 (by decide) (by decide) ?_
                        refine ⟨congrArg (fun z => some (vI z)) ?_, ?_⟩
                        · simp only [a_spl, spl_no, free, thick, cif]; (repeat' split) <;> first | rfl | omega
                        · refine RA_if (fun hc => ?_) (fun hc => ?_) <;> (try simp only [spl_no, free, thick] at hc) <;> first | exact hR | (exfalso; omega)
                      · refine z_bipush 116 dX4_splice_114 rfl ⟨by decide, by decide⟩ ?_
                        refine z_ireturn rfl dX4_splice_116 (by decide) (by decide) ?_
                        refine ⟨congrArg (fun z => some (vI z)) ?_, ?_⟩
                        · simp only [a_spl, spl_no, free, thick, cif]; (repeat' split) <;> first | rfl | omega
                        · refine RA_if (fun hc => ?_) (fun hc => ?_) <;> (try simp only [spl_no, free, thick] at hc) <;> first | exact hR | (exfalso; omega)
                  · refine z_bipush 79 dX4_splice_77 rfl ⟨by decide, by decide⟩ ?_
                    refine z_ireturn rfl dX4_splice_79 (by decide) (by decide) ?_
                    refine ⟨congrArg (fun z => some (vI z)) ?_, ?_⟩
                    · simp only [a_spl, spl_no, free, thick, cif]; (repeat' split) <;> first | rfl | omega
                    · refine RA_if (fun hc => ?_) (fun hc => ?_) <;> (try simp only [spl_no, free, thick] at hc) <;> first | exact hR | (exfalso; omega)
set_option maxRecDepth 20000 in
theorem r_lay {m : Nat → Int → Int} {f : Nat → Int → UInt32} {x : Nat} {g : Nat → Nat} {t : zT} (hR : RA m f x g t) {k : Int} (hk : zi k) {q : Int} (hq : zi q) {u : Int} (hu : zi u) (hW : WF m f) : zM yX4_lay cX4_lay 9 (some .int) 1 0 0 [vR (some x), vI k, vI q, vI u] t (fun r t1 => r = some (vI (a_lay m k q u)) ∧ RA (s_lay m k q u) f x g t1) := by
  refine zM.of [(0, vR (some x)), (1, vI k), (2, vI q), (3, vI u)] (by decide +kernel) rfl (Nat.le_of_ble_eq_true rfl) ?_
  obtain ⟨hk1, hk2⟩ := hk
  obtain ⟨hq1, hq2⟩ := hq
  obtain ⟨hu1, hu2⟩ := hu
  have hm1 := hW.n.1
  have hm2 := hW.n.2
  obtain ⟨hp1, hp2, hp3⟩ := hW.2.2.1
  have L225 : ∀ (fuel : Nat) (c : Nat) (t : zT) (hR : RA (lays m k (lay_n m u) q c) f x g t) (h0 : 1 ≤ k ∧ k ≤ 3 ∧ 1 ≤ q ∧ q ≤ 2 ∧ 0 ≤ u ∧ u ≤ 400 ∧ m 0 0 ≠ 120) (hc : (c : Int) ≤ m 15 0) (hok : lay_ok m k q u) (hln : 0 ≤ lay_n m u ∧ lay_n m u ≤ 2000) (hf : m 15 0 - c < (fuel : Int)), zOK yX4_lay cX4_lay 9 (some .int) 1 0 0 (fun r t1 => r = some (vI (a_lay m k q u)) ∧ RA (s_lay m k q u) f x g t1) 0 0 225 [(8, vI (c : Int)), (7, vI (m 0 0)), (0, vR (some x)), (1, vI k), (2, vI q), (3, vI u)] [] t := by
    intro fuel
    induction fuel with
    | zero => intro c t hR h0 hc hok hln hf; exfalso; omega
    | succ fuel ih225 =>
      intro c t hR h0 hc hok hln hf
      have h16 := fun (h : (c : Int) < m 15 0) => hp3 c (by omega) h
      refine z_iload 227 dX4_lay_225 rfl rfl ?_
      refine z_aload_n 228 dX4_lay_227 rfl rfl ?_
      refine r_getIe 231 hR fl_X4_125 (by decide) (show _ = m 15 0 from lays_r (Or.inl rfl)) dX4_lay_228 rfl ?_
      refine z_icmp_ge 253 234 dX4_lay_231 (by decide) rfl ⟨by omega, by omega⟩ ⟨by omega, by omega⟩ (fun h231 => ?_) (fun h231 => ?_)
      · refine z_aload_n 254 dX4_lay_253 rfl rfl ?_
        refine z_iconst 255 dX4_lay_254 rfl ?_
        refine r_putI 258 hR fl_X4_125 (by decide) dX4_lay_255 rfl (fun t hR => ?_)
        refine z_iload 260 dX4_lay_258 rfl rfl ?_
        refine z_ireturn rfl dX4_lay_260 (by decide) (by decide) ?_
        have hcc : c = (m 15 0).toNat := by omega
        subst hcc
        unfold a_lay s_lay cif
        rw [if_pos hok, if_pos hok]
        exact ⟨rfl, hR⟩
      · refine z_aload_n 235 dX4_lay_234 rfl rfl ?_
        refine z_iload 237 dX4_lay_235 rfl rfl ?_
        refine z_aload_n 238 dX4_lay_237 rfl rfl ?_
        refine r_getP 241 hR fl_X4_54 (by decide) dX4_lay_238 rfl ?_
        refine z_iload 243 dX4_lay_241 rfl rfl ?_
        refine r_ialde 244 16 9 hR rk16 ⟨by omega, by omega⟩ (show _ = m 16 _ from lays_r (Or.inr rfl)) dX4_lay_243 rfl ?_
        refine z_callV 247 [_, _] la_X4_putIn ml_X4_132 im_X4_putIn se_X4_putIn hR.1.1 hR.1.2.1 (by decide) rfl rfl (r_putIn hR ⟨by omega, by omega⟩ ⟨by omega, by omega⟩ ⟨by omega, by omega⟩ ⟨by omega, by omega⟩ (by rw [lays_6]; omega)) rfl rfl (by decide) (Nat.le_of_ble_eq_true rfl) (by decide) (by decide) dX4_lay_244 rfl (fun r t hq => ?_)
        obtain ⟨rfl, hR⟩ := hq
        refine z_iinc (lv' := [(8, _), (7, _), (0, _), (1, _), (2, _), (3, _)]) 250 dX4_lay_247 rfl rfl rfl rfl ?_
        refine z_goto 225 dX4_lay_250 (by decide) ?_
        refine z_sub (lv' := [(8, _), (7, _), (0, _), (1, _), (2, _), (3, _)]) ⟨rfl, rfl, rfl, rfl, rfl, rfl, trivial⟩ ?_
        exact ih225 (c + 1) _ hR (by omega) (by omega) (by omega) (by omega) (by omega)
  have L116 : ∀ (fuel : Nat) (c : Nat) (good w : Int) (t : zT) (hR : RA m f x g t) (h0 : 1 ≤ k ∧ k ≤ 3 ∧ 1 ≤ q ∧ q ≤ 2 ∧ 0 ≤ u ∧ u ≤ 400 ∧ m 0 0 ≠ 120) (hc : (c : Int) ≤ m 15 0) (hg : 0 ≤ good ∧ good ≤ 1) (hq : good = 1 ↔ (lay_ct m k ∧ ∀ i, 0 ≤ i → i < (c : Int) → mayin m k q (m 16 i))) (hw : w = lmin m c) (hf : m 15 0 - c < (fuel : Int)), zOK yX4_lay cX4_lay 9 (some .int) 1 0 0 (fun r t1 => r = some (vI (a_lay m k q u)) ∧ RA (s_lay m k q u) f x g t1) 0 0 116 [(6, vI (c : Int)), (5, vI w), (4, vI good), (0, vR (some x)), (1, vI k), (2, vI q), (3, vI u)] [] t := by
    intro fuel
    induction fuel with
    | zero => intro c good w t hR h0 hc hg hq hw hf; exfalso; omega
    | succ fuel ih116 =>
      intro c good w t hR h0 hc hg hq hw hf
      have h16 := fun (h : (c : Int) < m 15 0) => hp3 c (by omega) h
      have hb := fun (h : (c : Int) < m 15 0) => hW.b (h16 h).1 (h16 h).2
      have hlm := lmin_b (m := m) (n := c) (fun j a b => (hW.b (hp3 j a (by omega)).1 (hp3 j a (by omega)).2).2.2.1)
      refine z_iload 118 dX4_lay_116 rfl rfl ?_
      refine z_aload_n 119 dX4_lay_118 rfl rfl ?_
      refine r_getI 122 hR fl_X4_125 (by decide) dX4_lay_119 rfl ?_
      refine z_icmp_ge 185 125 dX4_lay_122 (by decide) rfl ⟨by omega, by omega⟩ ⟨by omega, by omega⟩ (fun h122 => ?_) (fun h122 => ?_)
      · have hcc : (m 15 0).toNat = c := by omega
        have hx1 : -2147483648 ≤ w * (1000 - u) := by have := Int.mul_nonneg (show 0 ≤ w by omega) (show 0 ≤ 1000 - u by omega); omega
        have hx3 : w * (1000 - u) ≤ w * 1000 := Int.mul_le_mul_of_nonneg_left (by omega) (by omega)
        have hx2 : w * (1000 - u) ≤ 2147483647 := by omega
        have hx4 : 0 ≤ w * (1000 - u) := Int.mul_nonneg (by omega) (by omega)
        have hd9 : (w * (1000 - u)).tdiv 1000 = lay_n m u := by unfold lay_n; rw [hcc, ← hw]; exact Int.tdiv_eq_ediv_of_nonneg hx4
        have hln : 0 ≤ lay_n m u ∧ lay_n m u ≤ 2000 := by unfold lay_n; rw [hcc, ← hw]; omega
        refine z_iload 187 dX4_lay_185 rfl rfl ?_
        refine z_sipush 190 dX4_lay_187 rfl ⟨by decide, by decide⟩ ?_
        refine z_iload_n 191 dX4_lay_190 rfl rfl ?_
        refine z_isub 192 dX4_lay_191 rfl ?_
        refine z_imul 193 dX4_lay_192 rfl ?_
        refine z_sipush 196 dX4_lay_193 rfl ⟨by decide, by decide⟩ ?_
        refine z_idiv 197 dX4_lay_196 rfl ⟨hx1, hx2⟩ ⟨by omega, by omega⟩ (by omega) ?_
        rw [hd9]
        refine z_istore (lv' := [(6, _), (5, _), (4, _), (0, _), (1, _), (2, _), (3, _)]) 199 dX4_lay_197 rfl rfl rfl ?_
        refine z_iload 201 dX4_lay_199 rfl rfl ?_
        refine z_if_eq 209 204 dX4_lay_201 (by decide) rfl ⟨by omega, by omega⟩ (fun h201 => ?_) (fun h201 => ?_)
        · refine z_bipush 211 dX4_lay_209 rfl ⟨by decide, by decide⟩ ?_
          refine z_ireturn rfl dX4_lay_211 (by decide) (by decide) ?_
          have hno : ¬ lay_ok m k q u := fun h => by obtain ⟨a1, a2, a3, a4, a5, a6, a7, a8, a9, a10⟩ := h; have := hq.mpr ⟨a8, fun i b1 b2 => a9 i b1 (by omega)⟩; omega
          unfold a_lay s_lay cif
          rw [if_neg hno, if_neg hno]
          exact ⟨rfl, hR⟩
        · refine z_iload 206 dX4_lay_204 rfl rfl ?_
          refine z_if_ne 212 209 dX4_lay_206 (by decide) rfl ⟨by omega, by omega⟩ (fun h206 => ?_) (fun h206 => ?_)
          · have hok : lay_ok m k q u := by obtain ⟨f1, f2⟩ := hq.mp (by omega); exact ⟨by omega, by omega, by omega, by omega, by omega, by omega, by omega, f1, fun i a b => f2 i a (by omega), by omega⟩
            refine z_aload_n 213 dX4_lay_212 rfl rfl ?_
            refine z_iload_n 214 dX4_lay_213 rfl rfl ?_
            refine z_iload 216 dX4_lay_214 rfl rfl ?_
            refine z_iload_n 217 dX4_lay_216 rfl rfl ?_
            refine z_callV 220 [_, _, _] la_X4_newPiece ml_X4_114 im_X4_newPiece se_X4_newPiece hR.1.1 hR.1.2.1 (by decide) rfl rfl (r_newPiece hR ⟨by omega, by omega⟩ ⟨by omega, by omega⟩ ⟨by omega, by omega⟩ ⟨by omega, by omega⟩) rfl rfl (by decide) (Nat.le_of_ble_eq_true rfl) (by decide) (by decide) dX4_lay_217 rfl (fun r t hq => ?_)
            obtain ⟨rfl, hR⟩ := hq
            refine z_istore (lv' := [(7, _), (6, _), (5, _), (4, _), (0, _), (1, _), (2, _), (3, _)]) 222 dX4_lay_220 rfl rfl rfl ?_
            refine z_iconst 223 dX4_lay_222 rfl ?_
            refine z_istore (lv' := [(8, _), (7, _), (6, _), (5, _), (4, _), (0, _), (1, _), (2, _), (3, _)]) 225 dX4_lay_223 rfl rfl rfl ?_
            refine z_sub (lv' := [(8, _), (7, _), (0, _), (1, _), (2, _), (3, _)]) ⟨rfl, rfl, rfl, rfl, rfl, rfl, trivial⟩ ?_
            exact L225 10 0 _ hR (by omega) (by omega) (by omega) (by omega) (by omega)
          · refine z_bipush 211 dX4_lay_209 rfl ⟨by decide, by decide⟩ ?_
            refine z_ireturn rfl dX4_lay_211 (by decide) (by decide) ?_
            have hno : ¬ lay_ok m k q u := fun h => by obtain ⟨a1, a2, a3, a4, a5, a6, a7, a8, a9, a10⟩ := h; have := hq.mpr ⟨a8, fun i b1 b2 => a9 i b1 (by omega)⟩; omega
            unfold a_lay s_lay cif
            rw [if_neg hno, if_neg hno]
            exact ⟨rfl, hR⟩
      · refine z_iload 127 dX4_lay_125 rfl rfl ?_
        refine z_aload_n 128 dX4_lay_127 rfl rfl ?_
        refine z_iload_n 129 dX4_lay_128 rfl rfl ?_
        refine z_iload_n 130 dX4_lay_129 rfl rfl ?_
        refine z_aload_n 131 dX4_lay_130 rfl rfl ?_
        refine r_getP 134 hR fl_X4_54 (by decide) dX4_lay_131 rfl ?_
        refine z_iload 136 dX4_lay_134 rfl rfl ?_
        refine r_iald 137 16 9 hR rk16 ⟨by omega, by omega⟩ dX4_lay_136 rfl ?_
        refine z_callV 140 [_, _, _] la_X4_mayBeIn ml_X4_128 im_X4_mayBeIn se_X4_mayBeIn hR.1.1 hR.1.2.1 (by decide) rfl rfl (r_mayBeIn hR ⟨by omega, by omega⟩ ⟨by omega, by omega⟩ ⟨by omega, by omega⟩ ⟨by omega, by omega⟩ ⟨by omega, by omega⟩ ⟨by omega, by omega, by omega, by omega, by omega, by omega⟩) rfl rfl (by decide) (Nat.le_of_ble_eq_true rfl) (by decide) (by decide) dX4_lay_137 rfl (fun r t hq => ?_)
        obtain ⟨zm, rfl, hm4, hm5, hm6, hR⟩ := hq
        refine z_iand 141 dX4_lay_140 rfl (and01 (by omega) (by omega)) ?_
        refine z_istore (lv' := [(4, _), (6, _), (5, _), (0, _), (1, _), (2, _), (3, _)]) 143 dX4_lay_141 rfl rfl rfl ?_
        refine z_aload_n 144 dX4_lay_143 rfl rfl ?_
        refine r_getP 147 hR fl_X4_13 (by decide) dX4_lay_144 rfl ?_
        refine z_aload_n 148 dX4_lay_147 rfl rfl ?_
        refine r_getP 151 hR fl_X4_54 (by decide) dX4_lay_148 rfl ?_
        refine z_iload 153 dX4_lay_151 rfl rfl ?_
        refine r_iald 154 16 9 hR rk16 ⟨by omega, by omega⟩ dX4_lay_153 rfl ?_
        refine r_iald 155 2 120 hR rk2 ⟨by omega, by omega⟩ dX4_lay_154 rfl ?_
        refine z_iload 157 dX4_lay_155 rfl rfl ?_
        refine z_icmp_ge 175 160 dX4_lay_157 (by decide) rfl ⟨by omega, by omega⟩ ⟨by omega, by omega⟩ (fun h157 => ?_) (fun h157 => ?_)
        · refine z_iload 177 dX4_lay_175 rfl rfl ?_
          refine z_istore (lv' := [(5, _), (4, _), (6, _), (0, _), (1, _), (2, _), (3, _)]) 179 dX4_lay_177 rfl rfl rfl ?_
          refine z_iinc (lv' := [(6, _), (5, _), (4, _), (0, _), (1, _), (2, _), (3, _)]) 182 dX4_lay_179 rfl rfl rfl rfl ?_
          refine z_goto 116 dX4_lay_182 (by decide) ?_
          refine z_sub (lv' := [(6, _), (5, _), (4, _), (0, _), (1, _), (2, _), (3, _)]) ⟨rfl, rfl, rfl, rfl, rfl, rfl, rfl, trivial⟩ ?_
          exact ih116 (c + 1) _ _ _ hR (by omega) (by omega) (by unfold b_and; split <;> omega) (by
          unfold b_and
          constructor
          · intro hh
            have h1 : good = 1 ∧ zm = 1 := by split at hh <;> omega
            obtain ⟨f1, f2⟩ := hq.mp h1.1
            refine ⟨f1, fun i i1 i2 => ?_⟩
            by_cases hi : i = c
            · subst hi; exact hm6.mp h1.2
            · exact f2 i i1 (by omega)
          · intro hh
            obtain ⟨f1, f2⟩ := hh
            have h1 : good = 1 := hq.mpr ⟨f1, fun i i1 i2 => f2 i i1 (by omega)⟩
            have h2 := hm6.mpr (f2 c (by omega) (by omega))
            rw [if_pos ⟨h1, h2⟩]) (by show _ = min (lmin m c) (m 2 (m 16 c)); omega) (by omega)
        · refine z_aload_n 161 dX4_lay_160 rfl rfl ?_
          refine r_getP 164 hR fl_X4_13 (by decide) dX4_lay_161 rfl ?_
          refine z_aload_n 165 dX4_lay_164 rfl rfl ?_
          refine r_getP 168 hR fl_X4_54 (by decide) dX4_lay_165 rfl ?_
          refine z_iload 170 dX4_lay_168 rfl rfl ?_
          refine r_iald 171 16 9 hR rk16 ⟨by omega, by omega⟩ dX4_lay_170 rfl ?_
          refine r_iald 172 2 120 hR rk2 ⟨by omega, by omega⟩ dX4_lay_171 rfl ?_
          refine z_goto 177 dX4_lay_172 (by decide) ?_
          refine z_istore (lv' := [(5, _), (4, _), (6, _), (0, _), (1, _), (2, _), (3, _)]) 179 dX4_lay_177 rfl rfl rfl ?_
          refine z_iinc (lv' := [(6, _), (5, _), (4, _), (0, _), (1, _), (2, _), (3, _)]) 182 dX4_lay_179 rfl rfl rfl rfl ?_
          refine z_goto 116 dX4_lay_182 (by decide) ?_
          refine z_sub (lv' := [(6, _), (5, _), (4, _), (0, _), (1, _), (2, _), (3, _)]) ⟨rfl, rfl, rfl, rfl, rfl, rfl, rfl, trivial⟩ ?_
          exact ih116 (c + 1) _ _ _ hR (by omega) (by omega) (by unfold b_and; split <;> omega) (by
          unfold b_and
          constructor
          · intro hh
            have h1 : good = 1 ∧ zm = 1 := by split at hh <;> omega
            obtain ⟨f1, f2⟩ := hq.mp h1.1
            refine ⟨f1, fun i i1 i2 => ?_⟩
            by_cases hi : i = c
            · subst hi; exact hm6.mp h1.2
            · exact f2 i i1 (by omega)
          · intro hh
            obtain ⟨f1, f2⟩ := hh
            have h1 : good = 1 := hq.mpr ⟨f1, fun i i1 i2 => f2 i i1 (by omega)⟩
            have h2 := hm6.mpr (f2 c (by omega) (by omega))
            rw [if_pos ⟨h1, h2⟩]) (by show _ = min (lmin m c) (m 2 (m 16 c)); omega) (by omega)
  have L106 : ∀ (good : Int) (t : zT) (hR : RA m f x g t) (h0 : 1 ≤ k ∧ k ≤ 3 ∧ 1 ≤ q ∧ q ≤ 2 ∧ 0 ≤ u ∧ u ≤ 400 ∧ m 0 0 ≠ 120) (hg : 0 ≤ good ∧ good ≤ 1) (hgc : good = 1 ↔ lay_ct m k), zOK yX4_lay cX4_lay 9 (some .int) 1 0 0 (fun r t1 => r = some (vI (a_lay m k q u)) ∧ RA (s_lay m k q u) f x g t1) 0 0 106 [(0, vR (some x)), (1, vI k), (2, vI q), (3, vI u)] [vI good] t := by
    intro good t hR h0 hg hgc
    refine z_istore (lv' := [(4, _), (0, _), (1, _), (2, _), (3, _)]) 108 dX4_lay_106 rfl rfl rfl ?_
    refine z_sipush 111 dX4_lay_108 rfl ⟨by decide, by decide⟩ ?_
    refine z_istore (lv' := [(5, _), (4, _), (0, _), (1, _), (2, _), (3, _)]) 113 dX4_lay_111 rfl rfl rfl ?_
    refine z_iconst 114 dX4_lay_113 rfl ?_
    refine z_istore (lv' := [(6, _), (5, _), (4, _), (0, _), (1, _), (2, _), (3, _)]) 116 dX4_lay_114 rfl rfl rfl ?_
    refine z_sub (lv' := [(6, _), (5, _), (4, _), (0, _), (1, _), (2, _), (3, _)]) ⟨rfl, rfl, rfl, rfl, rfl, rfl, rfl, trivial⟩ ?_
    exact L116 10 0 _ _ _ hR (by omega) (by omega) (by omega) (by rw [hgc]; exact ⟨fun h => ⟨h, fun i a b => by omega⟩, fun h => h.1⟩) (rfl) (by omega)
  refine z_iload_n 1 dX4_lay_0 rfl rfl ?_
  refine z_iconst 2 dX4_lay_1 rfl ?_
  refine z_icmp_lt 40 5 dX4_lay_2 (by decide) rfl ⟨by omega, by omega⟩ ⟨by omega, by omega⟩ (fun h2 => ?_) (fun h2 => ?_)
  · refine z_bipush 42 dX4_lay_40 rfl ⟨by decide, by decide⟩ ?_
    refine z_ireturn rfl dX4_lay_42 (by decide) (by decide) ?_
    have hno : ¬ lay_ok m k q u := fun h => by obtain ⟨a1, a2, a3, a4, a5, a6, a7, -⟩ := h; omega
    unfold a_lay s_lay cif
    rw [if_neg hno, if_neg hno]
    exact ⟨rfl, hR⟩
  · refine z_iload_n 6 dX4_lay_5 rfl rfl ?_
    refine z_iconst 7 dX4_lay_6 rfl ?_
    refine z_icmp_gt 40 10 dX4_lay_7 (by decide) rfl ⟨by omega, by omega⟩ ⟨by omega, by omega⟩ (fun h7 => ?_) (fun h7 => ?_)
    · refine z_bipush 42 dX4_lay_40 rfl ⟨by decide, by decide⟩ ?_
      refine z_ireturn rfl dX4_lay_42 (by decide) (by decide) ?_
      have hno : ¬ lay_ok m k q u := fun h => by obtain ⟨a1, a2, a3, a4, a5, a6, a7, -⟩ := h; omega
      unfold a_lay s_lay cif
      rw [if_neg hno, if_neg hno]
      exact ⟨rfl, hR⟩
    · refine z_iload_n 11 dX4_lay_10 rfl rfl ?_
      refine z_iconst 12 dX4_lay_11 rfl ?_
      refine z_icmp_lt 40 15 dX4_lay_12 (by decide) rfl ⟨by omega, by omega⟩ ⟨by omega, by omega⟩ (fun h12 => ?_) (fun h12 => ?_)
      · refine z_bipush 42 dX4_lay_40 rfl ⟨by decide, by decide⟩ ?_
        refine z_ireturn rfl dX4_lay_42 (by decide) (by decide) ?_
        have hno : ¬ lay_ok m k q u := fun h => by obtain ⟨a1, a2, a3, a4, a5, a6, a7, -⟩ := h; omega
        unfold a_lay s_lay cif
        rw [if_neg hno, if_neg hno]
        exact ⟨rfl, hR⟩
      · refine z_iload_n 16 dX4_lay_15 rfl rfl ?_
        refine z_iconst 17 dX4_lay_16 rfl ?_
        refine z_icmp_gt 40 20 dX4_lay_17 (by decide) rfl ⟨by omega, by omega⟩ ⟨by omega, by omega⟩ (fun h17 => ?_) (fun h17 => ?_)
        · refine z_bipush 42 dX4_lay_40 rfl ⟨by decide, by decide⟩ ?_
          refine z_ireturn rfl dX4_lay_42 (by decide) (by decide) ?_
          have hno : ¬ lay_ok m k q u := fun h => by obtain ⟨a1, a2, a3, a4, a5, a6, a7, -⟩ := h; omega
          unfold a_lay s_lay cif
          rw [if_neg hno, if_neg hno]
          exact ⟨rfl, hR⟩
        · refine z_iload_n 21 dX4_lay_20 rfl rfl ?_
          refine z_if_lt 40 24 dX4_lay_21 (by decide) rfl ⟨by omega, by omega⟩ (fun h21 => ?_) (fun h21 => ?_)
          · refine z_bipush 42 dX4_lay_40 rfl ⟨by decide, by decide⟩ ?_
            refine z_ireturn rfl dX4_lay_42 (by decide) (by decide) ?_
            have hno : ¬ lay_ok m k q u := fun h => by obtain ⟨a1, a2, a3, a4, a5, a6, a7, -⟩ := h; omega
            unfold a_lay s_lay cif
            rw [if_neg hno, if_neg hno]
            exact ⟨rfl, hR⟩
          · refine z_iload_n 25 dX4_lay_24 rfl rfl ?_
            refine z_sipush 28 dX4_lay_25 rfl ⟨by decide, by decide⟩ ?_
            refine z_icmp_gt 40 31 dX4_lay_28 (by decide) rfl ⟨by omega, by omega⟩ ⟨by omega, by omega⟩ (fun h28 => ?_) (fun h28 => ?_)
            · refine z_bipush 42 dX4_lay_40 rfl ⟨by decide, by decide⟩ ?_
              refine z_ireturn rfl dX4_lay_42 (by decide) (by decide) ?_
              have hno : ¬ lay_ok m k q u := fun h => by obtain ⟨a1, a2, a3, a4, a5, a6, a7, -⟩ := h; omega
              unfold a_lay s_lay cif
              rw [if_neg hno, if_neg hno]
              exact ⟨rfl, hR⟩
            · refine z_aload_n 32 dX4_lay_31 rfl rfl ?_
              refine r_getI 35 hR fl_X4_105 (by decide) dX4_lay_32 rfl ?_
              refine z_bipush 37 dX4_lay_35 rfl ⟨by decide, by decide⟩ ?_
              refine z_icmp_ne 43 40 dX4_lay_37 (by decide) rfl ⟨by omega, by omega⟩ ⟨by omega, by omega⟩ (fun h37 => ?_) (fun h37 => ?_)
              · refine z_iload_n 44 dX4_lay_43 rfl rfl ?_
                refine z_iconst 45 dX4_lay_44 rfl ?_
                refine z_icmp_ne 64 48 dX4_lay_45 (by decide) rfl ⟨by omega, by omega⟩ ⟨by omega, by omega⟩ (fun h45 => ?_) (fun h45 => ?_)
                · refine z_iload_n 65 dX4_lay_64 rfl rfl ?_
                  refine z_iconst 66 dX4_lay_65 rfl ?_
                  refine z_icmp_ne 93 69 dX4_lay_66 (by decide) rfl ⟨by omega, by omega⟩ ⟨by omega, by omega⟩ (fun h66 => ?_) (fun h66 => ?_)
                  · refine z_aload_n 94 dX4_lay_93 rfl rfl ?_
                    refine r_getI 97 hR fl_X4_125 (by decide) dX4_lay_94 rfl ?_
                    refine z_iconst 98 dX4_lay_97 rfl ?_
                    refine z_icmp_ne 105 101 dX4_lay_98 (by decide) rfl ⟨by omega, by omega⟩ ⟨by omega, by omega⟩ (fun h98 => ?_) (fun h98 => ?_)
                    · refine z_iconst 106 dX4_lay_105 rfl ?_
                      refine z_sub (lv' := [(0, _), (1, _), (2, _), (3, _)]) ⟨rfl, rfl, rfl, rfl, trivial⟩ ?_
                      exact L106 _ _ hR (by omega) (by omega) (by unfold lay_ct; omega)
                    · refine z_iconst 102 dX4_lay_101 rfl ?_
                      refine z_goto 106 dX4_lay_102 (by decide) ?_
                      refine z_sub (lv' := [(0, _), (1, _), (2, _), (3, _)]) ⟨rfl, rfl, rfl, rfl, trivial⟩ ?_
                      exact L106 _ _ hR (by omega) (by omega) (by unfold lay_ct; omega)
                  · refine z_aload_n 70 dX4_lay_69 rfl rfl ?_
                    refine r_getI 73 hR fl_X4_125 (by decide) dX4_lay_70 rfl ?_
                    refine z_iconst 74 dX4_lay_73 rfl ?_
                    refine z_icmp_eq 85 77 dX4_lay_74 (by decide) rfl ⟨by omega, by omega⟩ ⟨by omega, by omega⟩ (fun h74 => ?_) (fun h74 => ?_)
                    · refine z_iconst 86 dX4_lay_85 rfl ?_
                      refine z_goto 106 dX4_lay_86 (by decide) ?_
                      refine z_sub (lv' := [(0, _), (1, _), (2, _), (3, _)]) ⟨rfl, rfl, rfl, rfl, trivial⟩ ?_
                      exact L106 _ _ hR (by omega) (by omega) (by unfold lay_ct; omega)
                    · refine z_aload_n 78 dX4_lay_77 rfl rfl ?_
                      refine r_getI 81 hR fl_X4_125 (by decide) dX4_lay_78 rfl ?_
                      refine z_iconst 82 dX4_lay_81 rfl ?_
                      refine z_icmp_ne 89 85 dX4_lay_82 (by decide) rfl ⟨by omega, by omega⟩ ⟨by omega, by omega⟩ (fun h82 => ?_) (fun h82 => ?_)
                      · refine z_iconst 90 dX4_lay_89 rfl ?_
                        refine z_goto 106 dX4_lay_90 (by decide) ?_
                        refine z_sub (lv' := [(0, _), (1, _), (2, _), (3, _)]) ⟨rfl, rfl, rfl, rfl, trivial⟩ ?_
                        exact L106 _ _ hR (by omega) (by omega) (by unfold lay_ct; omega)
                      · refine z_iconst 86 dX4_lay_85 rfl ?_
                        refine z_goto 106 dX4_lay_86 (by decide) ?_
                        refine z_sub (lv' := [(0, _), (1, _), (2, _), (3, _)]) ⟨rfl, rfl, rfl, rfl, trivial⟩ ?_
                        exact L106 _ _ hR (by omega) (by omega) (by unfold lay_ct; omega)
                · refine z_aload_n 49 dX4_lay_48 rfl rfl ?_
                  refine r_getI 52 hR fl_X4_125 (by decide) dX4_lay_49 rfl ?_
                  refine z_iconst 53 dX4_lay_52 rfl ?_
                  refine z_icmp_lt 60 56 dX4_lay_53 (by decide) rfl ⟨by omega, by omega⟩ ⟨by omega, by omega⟩ (fun h53 => ?_) (fun h53 => ?_)
                  · refine z_iconst 61 dX4_lay_60 rfl ?_
                    refine z_goto 106 dX4_lay_61 (by decide) ?_
                    refine z_sub (lv' := [(0, _), (1, _), (2, _), (3, _)]) ⟨rfl, rfl, rfl, rfl, trivial⟩ ?_
                    exact L106 _ _ hR (by omega) (by omega) (by unfold lay_ct; omega)
                  · refine z_iconst 57 dX4_lay_56 rfl ?_
                    refine z_goto 106 dX4_lay_57 (by decide) ?_
                    refine z_sub (lv' := [(0, _), (1, _), (2, _), (3, _)]) ⟨rfl, rfl, rfl, rfl, trivial⟩ ?_
                    exact L106 _ _ hR (by omega) (by omega) (by unfold lay_ct; omega)
              · refine z_bipush 42 dX4_lay_40 rfl ⟨by decide, by decide⟩ ?_
                refine z_ireturn rfl dX4_lay_42 (by decide) (by decide) ?_
                have hno : ¬ lay_ok m k q u := fun h => by obtain ⟨a1, a2, a3, a4, a5, a6, a7, -⟩ := h; omega
                unfold a_lay s_lay cif
                rw [if_neg hno, if_neg hno]
                exact ⟨rfl, hR⟩
