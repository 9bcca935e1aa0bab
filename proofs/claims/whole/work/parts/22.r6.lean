set_option maxRecDepth 20000 in
theorem r_base {m : Nat → Int → Int} {f : Nat → Int → UInt32} {pl : Int → Int} {be : Int → UInt32} {x : Nat} {g : Nat → Nat} {t : zT} (hR : RA (s30 m pl) (s31 f be) x g t) {p w q : Int} (hW : WF m f) (hp : p < m 0 0) (hT : TP m p w pl (-1)) (hq : 0 ≤ q ∧ q ≤ p) (h0q : 0 ≤ pl q) (hB : ∀ r, 0 ≤ r → r < q → 0 ≤ pl r → be r = B m f r (pl r)) : zM yX4_base cX4_base 4 (some .float) 0 0 0 [vR (some x), vI q] t (fun r t1 => r = some (vF (bs m f (B m f) q (pl q))) ∧ RA (s30 m pl) (s31 f be) x g t1) := by
  refine zM.of [(0, vR (some x)), (1, vI q)] (by decide +kernel) rfl (Nat.le_of_ble_eq_true rfl) ?_
  have hn1 := hW.n.1
  have hn2 := hW.n.2
  obtain ⟨hb1, hb2, hb3⟩ := hT.2.1 q hq.1 hq.2 |>.resolve_left (by omega)
  have hbq := hW.b hq.1 (by omega)
  have hpt := fun (k : Int) (h0 : 0 ≤ k) (h : k < m 6 q) => (hW.parts q hq.1 (by omega)).1.2 k h0 h
  have hpl := fun (k : Int) (h0 : 0 ≤ k) (h : k < m 6 q) => hT.2.2 q (by omega) hq.1 hq.2 h0q k h0 h
  have hbe : ∀ k : Int, 0 ≤ k → k < m 6 q → 0 ≤ plc m q k (pl q) → be (m 7 (9 * q + k)) = B m f (m 7 (9 * q + k)) (plc m q k (pl q)) := fun k a b c => by rw [← hpl k a b] at c ⊢; exact hB _ (hpt k a b).1 (hpt k a b).2 c
  have hNU := B_nums hW ⟨hq.1, by omega, hb3⟩ h0q hb2
  have hk5 := (hW.2.1 q hq.1 (by omega)).2.2.2.2.2.2.2.2.2.2
  have hp5 := fun (h : m 1 q = 5) => plc_5 hW hq.1 (by omega) h0q hb2 h
  have hpn := fun (h : m 1 q ≠ 5) (k : Int) (h0 : 0 ≤ k) (h1 : k < m 6 q) => plc_n5 hW hq.1 (by omega) h0 h1 h0q hb2 h
  have L131 : ∀ (fuel : Nat) (k : Nat) (t : zT) (hR : RA (s30 m pl) (s31 f be) x g t) (hk : (k : Int) ≤ m 6 q) (hnk : m 1 q = 1 ∨ m 1 q = 2 ∨ m 1 q = 3) (hf : m 6 q - k < (fuel : Int)), zOK yX4_base cX4_base 4 (some .float) 0 0 0 (fun r t1 => r = some (vF (bs m f (B m f) q (pl q))) ∧ RA (s30 m pl) (s31 f be) x g t1) 0 0 131 [(3, vI (k : Int)), (2, vF (sm m (B m f) q (pl q) k)), (0, vR (some x)), (1, vI q)] [] t := by
    intro fuel
    induction fuel with
    | zero => intro k t hR hk hnk hf; exfalso; omega
    | succ fuel ih131 =>
      intro k t hR hk hnk hf
      have hpk := fun (h : (k : Int) < m 6 q) => hpt k (by omega) h
      refine z_iload_n 132 dX4_base_131 rfl rfl ?_
      refine z_aload_n 133 dX4_base_132 rfl rfl ?_
      refine r_getP 136 hR fl_X4_26 (by decide) dX4_base_133 rfl ?_
      refine z_iload_n 137 dX4_base_136 rfl rfl ?_
      refine r_ialde 138 6 120 hR rk6 ⟨by omega, by omega⟩ (show _ = m 6 _ from rfl) dX4_base_137 rfl ?_
      refine z_icmp_ge 166 141 dX4_base_138 (by decide) rfl ⟨by omega, by omega⟩ ⟨by omega, by omega⟩ (fun h138 => ?_) (fun h138 => ?_)
      · have hkk : (m 6 q).toNat = k := by omega
        refine z_aload_n 167 dX4_base_166 rfl rfl ?_
        refine r_getP 170 hR fl_X4_9 (by decide) dX4_base_167 rfl ?_
        refine z_iload_n 171 dX4_base_170 rfl rfl ?_
        refine r_ialde 172 1 120 hR rk1 ⟨by omega, by omega⟩ (show _ = m 1 _ from rfl) dX4_base_171 rfl ?_
        refine z_iconst 173 dX4_base_172 rfl ?_
        refine z_icmp_ne 183 176 dX4_base_173 (by decide) rfl ⟨by omega, by omega⟩ ⟨by omega, by omega⟩ (fun h173 => ?_) (fun h173 => ?_)
        · refine z_aload_n 184 dX4_base_183 rfl rfl ?_
          refine r_getP 187 hR fl_X4_9 (by decide) dX4_base_184 rfl ?_
          refine z_iload_n 188 dX4_base_187 rfl rfl ?_
          refine r_ialde 189 1 120 hR rk1 ⟨by omega, by omega⟩ (show _ = m 1 _ from rfl) dX4_base_188 rfl ?_
          refine z_iconst 190 dX4_base_189 rfl ?_
          refine z_icmp_ne 200 193 dX4_base_190 (by decide) rfl ⟨by omega, by omega⟩ ⟨by omega, by omega⟩ (fun h190 => ?_) (fun h190 => ?_)
          · refine z_fload_n 201 dX4_base_200 rfl rfl ?_
            refine z_ldcf 203 co_X4_155 dX4_base_201 rfl ?_
            refine z_fmul 204 dX4_base_203 rfl (by rw [← hkk]; exact hNU.2.2.2.2.1 (by omega)) ?_
            refine z_freturn rfl dX4_base_204 (by decide) (by decide) ?_
            refine ⟨congrArg (fun z => some (vF z)) ?_, hR⟩
            unfold bs
            rw [if_neg (by omega), if_neg (by omega), if_neg (by omega), hkk]
            first | rw [if_pos (by omega)] | rw [if_neg (by omega), if_pos (by omega)] | rw [if_neg (by omega), if_neg (by omega)]
          · refine z_fload_n 194 dX4_base_193 rfl rfl ?_
            refine z_ldcf 196 co_X4_154 dX4_base_194 rfl ?_
            refine z_fmul 197 dX4_base_196 rfl (by rw [← hkk]; exact hNU.2.2.2.1 (by omega)) ?_
            refine z_goto 204 dX4_base_197 (by decide) ?_
            refine z_freturn rfl dX4_base_204 (by decide) (by decide) ?_
            refine ⟨congrArg (fun z => some (vF z)) ?_, hR⟩
            unfold bs
            rw [if_neg (by omega), if_neg (by omega), if_neg (by omega), hkk]
            first | rw [if_pos (by omega)] | rw [if_neg (by omega), if_pos (by omega)] | rw [if_neg (by omega), if_neg (by omega)]
        · refine z_fload_n 177 dX4_base_176 rfl rfl ?_
          refine z_ldcf 179 co_X4_153 dX4_base_177 rfl ?_
          refine z_fmul 180 dX4_base_179 rfl (by rw [← hkk]; exact hNU.2.2.1 (by omega)) ?_
          refine z_goto 204 dX4_base_180 (by decide) ?_
          refine z_freturn rfl dX4_base_204 (by decide) (by decide) ?_
          refine ⟨congrArg (fun z => some (vF z)) ?_, hR⟩
          unfold bs
          rw [if_neg (by omega), if_neg (by omega), if_neg (by omega), hkk]
          first | rw [if_pos (by omega)] | rw [if_neg (by omega), if_pos (by omega)] | rw [if_neg (by omega), if_neg (by omega)]
      · refine z_fload_n 142 dX4_base_141 rfl rfl ?_
        refine z_aload_n 143 dX4_base_142 rfl rfl ?_
        refine r_getP 146 hR fl_X4_93 (by decide) dX4_base_143 rfl ?_
        refine z_aload_n 147 dX4_base_146 rfl rfl ?_
        refine r_getP 150 hR fl_X4_29 (by decide) dX4_base_147 rfl ?_
        refine z_bipush 152 dX4_base_150 rfl ⟨by decide, by decide⟩ ?_
        refine z_iload_n 153 dX4_base_152 rfl rfl ?_
        refine z_imul 154 dX4_base_153 rfl ?_
        refine z_iload_n 155 dX4_base_154 rfl rfl ?_
        refine z_iadd 156 dX4_base_155 rfl ?_
        refine r_ialde 157 7 1080 hR rk7 ⟨by omega, by omega⟩ (show _ = m 7 _ from rfl) dX4_base_156 rfl ?_
        refine r_falde 158 31 120 hR rk31 ⟨by omega, by omega⟩ (show _ = be _ from rfl) dX4_base_157 rfl ?_
        refine z_top (w := vF (B m f (m 7 (9 * q + k)) (plc m q k (pl q)))) (congrArg vF (hbe k (by omega) (by omega) (hpn (by omega) k (by omega) (by omega)))) ?_
        refine z_fadd 159 dX4_base_158 rfl (hNU.2.1 hnk k (by omega)) ?_
        refine z_fstore_n (lv' := [(2, _), (3, _), (0, _), (1, _)]) 160 dX4_base_159 rfl rfl rfl ?_
        refine z_iinc (lv' := [(3, _), (2, _), (0, _), (1, _)]) 163 dX4_base_160 rfl rfl rfl rfl ?_
        refine z_goto 131 dX4_base_163 (by decide) ?_
        refine z_sub (lv' := [(3, _), (2, _), (0, _), (1, _)]) ⟨rfl, rfl, rfl, rfl, trivial⟩ ?_
        exact ih131 (k + 1) _ hR (by omega) (by omega) (by omega)
  refine z_aload_n 1 dX4_base_0 rfl rfl ?_
  refine r_getP 4 hR fl_X4_9 (by decide) dX4_base_1 rfl ?_
  refine z_iload_n 5 dX4_base_4 rfl rfl ?_
  refine r_ialde 6 1 120 hR rk1 ⟨by omega, by omega⟩ (show _ = m 1 _ from rfl) dX4_base_5 rfl ?_
  refine z_if_ne 16 9 dX4_base_6 (by decide) rfl ⟨by omega, by omega⟩ (fun h6 => ?_) (fun h6 => ?_)
  · refine z_aload_n 17 dX4_base_16 rfl rfl ?_
    refine r_getP 20 hR fl_X4_9 (by decide) dX4_base_17 rfl ?_
    refine z_iload_n 21 dX4_base_20 rfl rfl ?_
    refine r_ialde 22 1 120 hR rk1 ⟨by omega, by omega⟩ (show _ = m 1 _ from rfl) dX4_base_21 rfl ?_
    refine z_iconst 23 dX4_base_22 rfl ?_
    refine z_icmp_ne 36 26 dX4_base_23 (by decide) rfl ⟨by omega, by omega⟩ ⟨by omega, by omega⟩ (fun h23 => ?_) (fun h23 => ?_)
    · refine z_aload_n 37 dX4_base_36 rfl rfl ?_
      refine r_getP 40 hR fl_X4_9 (by decide) dX4_base_37 rfl ?_
      refine z_iload_n 41 dX4_base_40 rfl rfl ?_
      refine r_ialde 42 1 120 hR rk1 ⟨by omega, by omega⟩ (show _ = m 1 _ from rfl) dX4_base_41 rfl ?_
      refine z_iconst 43 dX4_base_42 rfl ?_
      refine z_icmp_ne 127 46 dX4_base_43 (by decide) rfl ⟨by omega, by omega⟩ ⟨by omega, by omega⟩ (fun h43 => ?_) (fun h43 => ?_)
      · refine z_fconst0 128 dX4_base_127 rfl ?_
        refine z_fstore_n (lv' := [(2, _), (0, _), (1, _)]) 129 dX4_base_128 rfl rfl rfl ?_
        refine z_iconst 130 dX4_base_129 rfl ?_
        refine z_istore_n (lv' := [(3, _), (2, _), (0, _), (1, _)]) 131 dX4_base_130 rfl rfl rfl ?_
        refine z_sub (lv' := [(3, _), (2, _), (0, _), (1, _)]) ⟨rfl, rfl, rfl, rfl, trivial⟩ ?_
        exact L131 10 0 _ hR (by omega) (by omega) (by omega)
      · have h55 : m 1 q = 5 := by omega
        have h62 := (hk5 h55).1
        have ha0 := hpt 0 (by omega) (by omega)
        have ha1 := hpt 1 (by omega) (by omega)
        have hl0 := hpl 0 (by omega) (by omega)
        have hl1 := hpl 1 (by omega) (by omega)
        have hv0 := hbe 0 (by omega) (by omega)
        have hv1 := hbe 1 (by omega) (by omega)
        rw [Int.add_zero] at ha0 hl0 hv0
        have hp55 := hp5 h55
        have hz0 := hT.2.1 _ ha0.1 (by omega)
        have hz1 := hT.2.1 _ ha1.1 (by omega)
        have hy0 := hW.b ha0.1 (by omega)
        have hy1 := hW.b ha1.1 (by omega)
        refine z_aload_n 47 dX4_base_46 rfl rfl ?_
        refine r_getP 50 hR fl_X4_29 (by decide) dX4_base_47 rfl ?_
        refine z_bipush 52 dX4_base_50 rfl ⟨by decide, by decide⟩ ?_
        refine z_iload_n 53 dX4_base_52 rfl rfl ?_
        refine z_imul 54 dX4_base_53 rfl ?_
        refine r_ialde 55 7 1080 hR rk7 ⟨by omega, by omega⟩ (show _ = m 7 _ from rfl) dX4_base_54 rfl ?_
        refine z_istore_n (lv' := [(2, _), (0, _), (1, _)]) 56 dX4_base_55 rfl rfl rfl ?_
        refine z_aload_n 57 dX4_base_56 rfl rfl ?_
        refine r_getP 60 hR fl_X4_29 (by decide) dX4_base_57 rfl ?_
        refine z_bipush 62 dX4_base_60 rfl ⟨by decide, by decide⟩ ?_
        refine z_iload_n 63 dX4_base_62 rfl rfl ?_
        refine z_imul 64 dX4_base_63 rfl ?_
        refine z_iconst 65 dX4_base_64 rfl ?_
        refine z_iadd 66 dX4_base_65 rfl ?_
        refine r_ialde 67 7 1080 hR rk7 ⟨by omega, by omega⟩ (show _ = m 7 _ from rfl) dX4_base_66 rfl ?_
        refine z_istore_n (lv' := [(3, _), (2, _), (0, _), (1, _)]) 68 dX4_base_67 rfl rfl rfl ?_
        refine z_aload_n 69 dX4_base_68 rfl rfl ?_
        refine r_getP 72 hR fl_X4_90 (by decide) dX4_base_69 rfl ?_
        refine z_iload_n 73 dX4_base_72 rfl rfl ?_
        refine r_ialde 74 30 120 hR rk30 ⟨by omega, by omega⟩ (show _ = pl _ from rfl) dX4_base_73 rfl ?_
        refine z_if_ge 86 77 dX4_base_74 (by decide) rfl ⟨by omega, by omega⟩ (fun h74 => ?_) (fun h74 => ?_)
        · refine z_aload_n 87 dX4_base_86 rfl rfl ?_
          refine r_getP 90 hR fl_X4_90 (by decide) dX4_base_87 rfl ?_
          refine z_iload_n 91 dX4_base_90 rfl rfl ?_
          refine r_ialde 92 30 120 hR rk30 ⟨by omega, by omega⟩ (show _ = pl _ from rfl) dX4_base_91 rfl ?_
          refine z_if_lt 111 95 dX4_base_92 (by decide) rfl ⟨by omega, by omega⟩ (fun h92 => ?_) (fun h92 => ?_)
          · refine z_aload_n 112 dX4_base_111 rfl rfl ?_
            refine r_getP 115 hR fl_X4_93 (by decide) dX4_base_112 rfl ?_
            refine z_iload_n 116 dX4_base_115 rfl rfl ?_
            refine r_falde 117 31 120 hR rk31 ⟨by omega, by omega⟩ (show _ = be _ from rfl) dX4_base_116 rfl ?_
            refine z_goto 126 dX4_base_117 (by decide) ?_
            refine z_freturn rfl dX4_base_126 (by decide) (by decide) ?_
            refine ⟨congrArg (fun z => some (vF z)) ?_, hR⟩
            unfold bs
            rw [if_neg (by omega), if_neg (by omega), if_pos h55]
            first | (rw [if_pos (by omega)]; exact hv1 (by omega)) | (rw [if_neg (by omega), if_pos (Or.inl (by omega))]; exact hv0 (by omega)) | (rw [if_neg (by omega), if_pos (Or.inr (by rw [← hv0 (by omega), ← hv1 (by omega)]; assumption))]; exact hv0 (by omega)) | (rw [if_neg (by omega), if_neg (by rw [← hv0 (by omega), ← hv1 (by omega)]; omega)]; exact hv1 (by omega))
          · refine z_aload_n 96 dX4_base_95 rfl rfl ?_
            refine r_getP 99 hR fl_X4_93 (by decide) dX4_base_96 rfl ?_
            refine z_iload_n 100 dX4_base_99 rfl rfl ?_
            refine r_falde 101 31 120 hR rk31 ⟨by omega, by omega⟩ (show _ = be _ from rfl) dX4_base_100 rfl ?_
            refine z_aload_n 102 dX4_base_101 rfl rfl ?_
            refine r_getP 105 hR fl_X4_93 (by decide) dX4_base_102 rfl ?_
            refine z_iload_n 106 dX4_base_105 rfl rfl ?_
            refine r_falde 107 31 120 hR rk31 ⟨by omega, by omega⟩ (show _ = be _ from rfl) dX4_base_106 rfl ?_
            refine z_fcmp 108 dX4_base_107 rfl ?_
            refine z_if_lt 120 111 dX4_base_108 (by decide) rfl zfc_i (fun h108 => ?_) (fun h108 => ?_)
            · refine z_aload_n 121 dX4_base_120 rfl rfl ?_
              refine r_getP 124 hR fl_X4_93 (by decide) dX4_base_121 rfl ?_
              refine z_iload_n 125 dX4_base_124 rfl rfl ?_
              refine r_falde 126 31 120 hR rk31 ⟨by omega, by omega⟩ (show _ = be _ from rfl) dX4_base_125 rfl ?_
              refine z_freturn rfl dX4_base_126 (by decide) (by decide) ?_
              refine ⟨congrArg (fun z => some (vF z)) ?_, hR⟩
              unfold bs
              rw [if_neg (by omega), if_neg (by omega), if_pos h55]
              first | (rw [if_pos (by omega)]; exact hv1 (by omega)) | (rw [if_neg (by omega), if_pos (Or.inl (by omega))]; exact hv0 (by omega)) | (rw [if_neg (by omega), if_pos (Or.inr (by rw [← hv0 (by omega), ← hv1 (by omega)]; assumption))]; exact hv0 (by omega)) | (rw [if_neg (by omega), if_neg (by rw [← hv0 (by omega), ← hv1 (by omega)]; omega)]; exact hv1 (by omega))
            · refine z_aload_n 112 dX4_base_111 rfl rfl ?_
              refine r_getP 115 hR fl_X4_93 (by decide) dX4_base_112 rfl ?_
              refine z_iload_n 116 dX4_base_115 rfl rfl ?_
              refine r_falde 117 31 120 hR rk31 ⟨by omega, by omega⟩ (show _ = be _ from rfl) dX4_base_116 rfl ?_
              refine z_goto 126 dX4_base_117 (by decide) ?_
              refine z_freturn rfl dX4_base_126 (by decide) (by decide) ?_
              refine ⟨congrArg (fun z => some (vF z)) ?_, hR⟩
              unfold bs
              rw [if_neg (by omega), if_neg (by omega), if_pos h55]
              first | (rw [if_pos (by omega)]; exact hv1 (by omega)) | (rw [if_neg (by omega), if_pos (Or.inl (by omega))]; exact hv0 (by omega)) | (rw [if_neg (by omega), if_pos (Or.inr (by rw [← hv0 (by omega), ← hv1 (by omega)]; assumption))]; exact hv0 (by omega)) | (rw [if_neg (by omega), if_neg (by rw [← hv0 (by omega), ← hv1 (by omega)]; omega)]; exact hv1 (by omega))
        · refine z_aload_n 78 dX4_base_77 rfl rfl ?_
          refine r_getP 81 hR fl_X4_93 (by decide) dX4_base_78 rfl ?_
          refine z_iload_n 82 dX4_base_81 rfl rfl ?_
          refine r_falde 83 31 120 hR rk31 ⟨by omega, by omega⟩ (show _ = be _ from rfl) dX4_base_82 rfl ?_
          refine z_goto 126 dX4_base_83 (by decide) ?_
          refine z_freturn rfl dX4_base_126 (by decide) (by decide) ?_
          refine ⟨congrArg (fun z => some (vF z)) ?_, hR⟩
          unfold bs
          rw [if_neg (by omega), if_neg (by omega), if_pos h55]
          first | (rw [if_pos (by omega)]; exact hv1 (by omega)) | (rw [if_neg (by omega), if_pos (Or.inl (by omega))]; exact hv0 (by omega)) | (rw [if_neg (by omega), if_pos (Or.inr (by rw [← hv0 (by omega), ← hv1 (by omega)]; assumption))]; exact hv0 (by omega)) | (rw [if_neg (by omega), if_neg (by rw [← hv0 (by omega), ← hv1 (by omega)]; omega)]; exact hv1 (by omega))
    · refine z_aload_n 27 dX4_base_26 rfl rfl ?_
      refine r_getP 30 hR fl_X4_22 (by decide) dX4_base_27 rfl ?_
      refine z_iload_n 31 dX4_base_30 rfl rfl ?_
      refine r_falde 32 5 120 hR rk5 ⟨by omega, by omega⟩ (show _ = f 5 _ from rfl) dX4_base_31 rfl ?_
      refine z_ldcf 34 co_X4_152 dX4_base_32 rfl ?_
      refine z_fmul 35 dX4_base_34 rfl (hNU.1 (by omega)) ?_
      refine z_freturn rfl dX4_base_35 (by decide) (by decide) ?_
      exact ⟨congrArg (fun z => some (vF z)) (by unfold bs; rw [if_neg (by omega), if_pos (by omega)]), hR⟩
  · refine z_aload_n 10 dX4_base_9 rfl rfl ?_
    refine r_getP 13 hR fl_X4_22 (by decide) dX4_base_10 rfl ?_
    refine z_iload_n 14 dX4_base_13 rfl rfl ?_
    refine r_falde 15 5 120 hR rk5 ⟨by omega, by omega⟩ (show _ = f 5 _ from rfl) dX4_base_14 rfl ?_
    refine z_freturn rfl dX4_base_15 (by decide) (by decide) ?_
    exact ⟨congrArg (fun z => some (vF z)) (by unfold bs; rw [if_pos (by omega)]), hR⟩
set_option maxRecDepth 20000 in
theorem r_bearing {m : Nat → Int → Int} {f : Nat → Int → UInt32} {x : Nat} {g : Nat → Nat} {t : zT} (hR : RA m f x g t) {p w : Int} (hW : WF m f) (hp : live m p) (hx0 : 0 ≤ w ∧ w < m 2 p) : zM yX4_bearing cX4_bearing 7 (some .float) 1 0 0 [vR (some x), vI p, vI w] t (fun r t1 => r = some (vF (B m f p w)) ∧ ∃ pl be, RA (s30 m pl) (s31 f be) x g t1) := by
  refine zM.of [(0, vR (some x)), (1, vI p), (2, vI w)] (by decide +kernel) rfl (Nat.le_of_ble_eq_true rfl) ?_
  obtain ⟨hp1, hp2, hp3⟩ := id hp
  have hn1 := hW.n.1
  have hn2 := hW.n.2
  have hbp := hW.b hp1 hp2
  obtain ⟨hw1, hw2⟩ := id hx0
  have Lo : ∀ (N : Nat) (q : Int) (pl : Int → Int) (be : Int → UInt32) (t : zT) (hR : RA (s30 m pl) (s31 f be) x g t) (hq : 0 ≤ q ∧ q ≤ p + 1) (hT : TP m p w pl (-1)) (hB : ∀ r, 0 ≤ r → r < q → 0 ≤ pl r → be r = B m f r (pl r)) (hf : p + 1 - q < (N : Int)), zOK yX4_bearing cX4_bearing 7 (some .float) 1 0 0 (fun r t1 => r = some (vF (B m f p w)) ∧ ∃ pl be, RA (s30 m pl) (s31 f be) x g t1) 0 0 8 [(3, vI q), (0, vR (some x)), (1, vI p), (2, vI w)] [] t := by
    intro N
    induction N with
    | zero => intro q pl be t hR hq hT hB hf; exfalso; omega
    | succ N ih8 =>
      intro q pl be t hR hq hT hB hf
      have hpq := fun (h : q ≤ p) => hT.2.1 q hq.1 h
      have hbq := fun (h : q ≤ p) => hW.b hq.1 (show q < m 0 0 by omega)
      have Li : ∀ (M : Nat) (k : Nat) (be : Int → UInt32) (t : zT) (hR : RA (s30 m pl) (s31 f be) x g t) (hqp : q ≤ p) (hpl : 0 ≤ pl q) (hB : ∀ r, 0 ≤ r → r < q → 0 ≤ pl r → be r = B m f r (pl r)) (hk : (k : Int) ≤ m 10 q ∨ k = 0) (hf2 : 8 - (k : Int) < (M : Int)), zOK yX4_bearing cX4_bearing 7 (some .float) 1 0 0 (fun r t1 => r = some (vF (B m f p w)) ∧ ∃ pl be, RA (s30 m pl) (s31 f be) x g t1) 0 0 35 [(5, vI (k : Int)), (4, vF (wr m f q (pl q) (bs m f (B m f) q (pl q)) k)), (3, vI q), (0, vR (some x)), (1, vI p), (2, vI w)] [] t := by
        intro M
        induction M with
        | zero => intro k be t hR hqp hpl hB hk hf2; exfalso; have := hbq hqp; omega
        | succ M ih35 =>
          intro k be t hR hqp hpl hB hk hf2
          have hb2 := hbq hqp
          have hpq2 := (hpq hqp).resolve_left (by omega)
          have hNU := B_nums hW (q := q) (z := pl q) ⟨hq.1, by omega, hpq2.2.2⟩ hpl hpq2.2.1
          refine z_iload 37 dX4_bearing_35 rfl rfl ?_
          refine z_aload_n 38 dX4_bearing_37 rfl rfl ?_
          refine r_getP 41 hR fl_X4_38 (by decide) dX4_bearing_38 rfl ?_
          refine z_iload_n 42 dX4_bearing_41 rfl rfl ?_
          refine r_ialde 43 10 120 hR rk10 ⟨by omega, by omega⟩ (show _ = m 10 _ from rfl) dX4_bearing_42 rfl ?_
          refine z_icmp_ge 115 46 dX4_bearing_43 (by decide) rfl ⟨by omega, by omega⟩ ⟨by omega, by omega⟩ (fun h43 => ?_) (fun h43 => ?_)
          · refine z_aload_n 116 dX4_bearing_115 rfl rfl ?_
            refine r_getP 119 hR fl_X4_93 (by decide) dX4_bearing_116 rfl ?_
            refine z_iload_n 120 dX4_bearing_119 rfl rfl ?_
            refine z_fload 122 dX4_bearing_120 rfl rfl ?_
            refine r_fast 123 31 120 hR rk31 ⟨by omega, by omega⟩ dX4_bearing_122 rfl (fun t hR => ?_)
            refine z_iinc (lv' := [(3, _), (5, _), (4, _), (0, _), (1, _), (2, _)]) 126 dX4_bearing_123 rfl rfl rfl rfl ?_
            refine z_goto 8 dX4_bearing_126 (by decide) ?_
            rw [s31_u] at hR
            refine z_sub (lv' := [(3, _), (0, _), (1, _), (2, _)]) ⟨rfl, rfl, rfl, rfl, trivial⟩ ?_
            refine ih8 (q + 1) pl _ _ hR (by omega) hT (fun r r0 r1 r2 => ?_) (by omega)
            unfold up0
            by_cases hr : r = q
            · subst hr; rw [if_pos rfl, B_eq hW.parts r0 (by omega)]; congr 1; omega
            · rw [if_neg hr]; exact hB r r0 (by omega) r2
          · have hsp := (hW.2.1 q hq.1 (by omega)).2.2.2.2.2.1 k (by omega) (by omega)
            refine z_bipush 48 dX4_bearing_46 rfl ⟨by decide, by decide⟩ ?_
            refine z_iload_n 49 dX4_bearing_48 rfl rfl ?_
            refine z_imul 50 dX4_bearing_49 rfl ?_
            refine z_iload 52 dX4_bearing_50 rfl rfl ?_
            refine z_iadd 53 dX4_bearing_52 rfl ?_
            refine z_istore (lv' := [(6, _), (5, _), (4, _), (3, _), (0, _), (1, _), (2, _)]) 55 dX4_bearing_53 rfl rfl rfl ?_
            refine z_aload_n 56 dX4_bearing_55 rfl rfl ?_
            refine r_getP 59 hR fl_X4_41 (by decide) dX4_bearing_56 rfl ?_
            refine z_iload 61 dX4_bearing_59 rfl rfl ?_
            refine r_balde 62 11 960 hR rk11 ⟨by omega, by omega⟩ (show _ = m 11 _ from rfl) dX4_bearing_61 rfl ?_
            refine z_if_eq 109 65 dX4_bearing_62 (by decide) rfl ⟨by omega, by omega⟩ (fun h62 => ?_) (fun h62 => ?_)
            · refine z_iinc (lv' := [(5, _), (6, _), (4, _), (3, _), (0, _), (1, _), (2, _)]) 112 dX4_bearing_109 rfl rfl rfl rfl ?_
              refine z_goto 35 dX4_bearing_112 (by decide) ?_
              have ih := fun v e => ih35 (k + 1) be t hR hqp hpl hB (by omega) (by omega) |> fun z => (show wr m f q (pl q) (bs m f (B m f) q (pl q)) (k + 1) = v from e) ▸ z
              refine z_sub (lv' := [(5, _), (4, _), (3, _), (0, _), (1, _), (2, _)]) ⟨rfl, rfl, rfl, rfl, rfl, rfl, trivial⟩ ?_
              first | exact ih _ (if_pos ⟨by omega, by omega, by omega⟩) | exact ih _ (if_neg (by omega))
            · refine z_aload_n 66 dX4_bearing_65 rfl rfl ?_
              refine r_getP 69 hR fl_X4_45 (by decide) dX4_bearing_66 rfl ?_
              refine z_iload 71 dX4_bearing_69 rfl rfl ?_
              refine r_ialde 72 12 960 hR rk12 ⟨by omega, by omega⟩ (show _ = m 12 _ from rfl) dX4_bearing_71 rfl ?_
              refine z_aload_n 73 dX4_bearing_72 rfl rfl ?_
              refine r_getP 76 hR fl_X4_90 (by decide) dX4_bearing_73 rfl ?_
              refine z_iload_n 77 dX4_bearing_76 rfl rfl ?_
              refine r_ialde 78 30 120 hR rk30 ⟨by omega, by omega⟩ (show _ = pl _ from rfl) dX4_bearing_77 rfl ?_
              refine z_icmp_gt 109 81 dX4_bearing_78 (by decide) rfl ⟨by omega, by omega⟩ ⟨by omega, by omega⟩ (fun h78 => ?_) (fun h78 => ?_)
              · refine z_iinc (lv' := [(5, _), (6, _), (4, _), (3, _), (0, _), (1, _), (2, _)]) 112 dX4_bearing_109 rfl rfl rfl rfl ?_
                refine z_goto 35 dX4_bearing_112 (by decide) ?_
                have ih := fun v e => ih35 (k + 1) be t hR hqp hpl hB (by omega) (by omega) |> fun z => (show wr m f q (pl q) (bs m f (B m f) q (pl q)) (k + 1) = v from e) ▸ z
                refine z_sub (lv' := [(5, _), (4, _), (3, _), (0, _), (1, _), (2, _)]) ⟨rfl, rfl, rfl, rfl, rfl, rfl, trivial⟩ ?_
                first | exact ih _ (if_pos ⟨by omega, by omega, by omega⟩) | exact ih _ (if_neg (by omega))
              · refine z_aload_n 82 dX4_bearing_81 rfl rfl ?_
                refine r_getP 85 hR fl_X4_90 (by decide) dX4_bearing_82 rfl ?_
                refine z_iload_n 86 dX4_bearing_85 rfl rfl ?_
                refine r_ialde 87 30 120 hR rk30 ⟨by omega, by omega⟩ (show _ = pl _ from rfl) dX4_bearing_86 rfl ?_
                refine z_aload_n 88 dX4_bearing_87 rfl rfl ?_
                refine r_getP 91 hR fl_X4_48 (by decide) dX4_bearing_88 rfl ?_
                refine z_iload 93 dX4_bearing_91 rfl rfl ?_
                refine r_ialde 94 13 960 hR rk13 ⟨by omega, by omega⟩ (show _ = m 13 _ from rfl) dX4_bearing_93 rfl ?_
                refine z_icmp_gt 109 97 dX4_bearing_94 (by decide) rfl ⟨by omega, by omega⟩ ⟨by omega, by omega⟩ (fun h94 => ?_) (fun h94 => ?_)
                · refine z_iinc (lv' := [(5, _), (6, _), (4, _), (3, _), (0, _), (1, _), (2, _)]) 112 dX4_bearing_109 rfl rfl rfl rfl ?_
                  refine z_goto 35 dX4_bearing_112 (by decide) ?_
                  have ih := fun v e => ih35 (k + 1) be t hR hqp hpl hB (by omega) (by omega) |> fun z => (show wr m f q (pl q) (bs m f (B m f) q (pl q)) (k + 1) = v from e) ▸ z
                  refine z_sub (lv' := [(5, _), (4, _), (3, _), (0, _), (1, _), (2, _)]) ⟨rfl, rfl, rfl, rfl, rfl, rfl, trivial⟩ ?_
                  first | exact ih _ (if_pos ⟨by omega, by omega, by omega⟩) | exact ih _ (if_neg (by omega))
                · refine z_fload 99 dX4_bearing_97 rfl rfl ?_
                  refine z_aload_n 100 dX4_bearing_99 rfl rfl ?_
                  refine r_getP 103 hR fl_X4_51 (by decide) dX4_bearing_100 rfl ?_
                  refine z_iload 105 dX4_bearing_103 rfl rfl ?_
                  refine r_falde 106 14 960 hR rk14 ⟨by omega, by omega⟩ (show _ = f 14 _ from rfl) dX4_bearing_105 rfl ?_
                  refine z_fmul 107 dX4_bearing_106 rfl (hNU.2.2.2.2.2 k (by omega) (by omega)) ?_
                  refine z_fstore (lv' := [(4, _), (6, _), (5, _), (3, _), (0, _), (1, _), (2, _)]) 109 dX4_bearing_107 rfl rfl rfl ?_
                  refine z_iinc (lv' := [(5, _), (4, _), (6, _), (3, _), (0, _), (1, _), (2, _)]) 112 dX4_bearing_109 rfl rfl rfl rfl ?_
                  refine z_goto 35 dX4_bearing_112 (by decide) ?_
                  have ih := fun v e => ih35 (k + 1) be t hR hqp hpl hB (by omega) (by omega) |> fun z => (show wr m f q (pl q) (bs m f (B m f) q (pl q)) (k + 1) = v from e) ▸ z
                  refine z_sub (lv' := [(5, _), (4, _), (3, _), (0, _), (1, _), (2, _)]) ⟨rfl, rfl, rfl, rfl, rfl, rfl, trivial⟩ ?_
                  first | exact ih _ (if_pos ⟨by omega, by omega, by omega⟩) | exact ih _ (if_neg (by omega))
      refine z_iload_n 9 dX4_bearing_8 rfl rfl ?_
      refine z_iload_n 10 dX4_bearing_9 rfl rfl ?_
      refine z_icmp_gt 129 13 dX4_bearing_10 (by decide) rfl ⟨by omega, by omega⟩ ⟨by omega, by omega⟩ (fun h10 => ?_) (fun h10 => ?_)
      · refine z_aload_n 130 dX4_bearing_129 rfl rfl ?_
        refine r_getP 133 hR fl_X4_93 (by decide) dX4_bearing_130 rfl ?_
        refine z_iload_n 134 dX4_bearing_133 rfl rfl ?_
        refine r_falde 135 31 120 hR rk31 ⟨by omega, by omega⟩ (show _ = be _ from rfl) dX4_bearing_134 rfl ?_
        refine z_freturn rfl dX4_bearing_135 (by decide) (by decide) ?_
        have hv := hB p (by omega) (by omega) (by rw [hT.1]; omega)
        rw [hT.1] at hv
        exact ⟨congrArg (fun z => some (vF z)) hv, _, _, hR⟩
      · refine z_aload_n 14 dX4_bearing_13 rfl rfl ?_
        refine r_getP 17 hR fl_X4_90 (by decide) dX4_bearing_14 rfl ?_
        refine z_iload_n 18 dX4_bearing_17 rfl rfl ?_
        refine r_ialde 19 30 120 hR rk30 ⟨by omega, by omega⟩ (show _ = pl _ from rfl) dX4_bearing_18 rfl ?_
        refine z_if_ge 25 22 dX4_bearing_19 (by decide) rfl ⟨by omega, by omega⟩ (fun h19 => ?_) (fun h19 => ?_)
        · refine z_aload_n 26 dX4_bearing_25 rfl rfl ?_
          refine z_iload_n 27 dX4_bearing_26 rfl rfl ?_
          refine z_callV 30 [_] la_X4_base ml_X4_159 im_X4_base se_X4_base hR.1.1 hR.1.2.1 (by decide) rfl rfl (r_base hR hW hp2 hT ⟨by omega, by omega⟩ (by omega) hB) rfl rfl (by decide) (Nat.le_of_ble_eq_true rfl) (by decide) (by decide) dX4_bearing_27 rfl (fun r t hq1 => ?_)
          obtain ⟨rfl, hR⟩ := hq1
          refine z_fstore (lv' := [(4, _), (3, _), (0, _), (1, _), (2, _)]) 32 dX4_bearing_30 rfl rfl rfl ?_
          refine z_iconst 33 dX4_bearing_32 rfl ?_
          refine z_istore (lv' := [(5, _), (4, _), (3, _), (0, _), (1, _), (2, _)]) 35 dX4_bearing_33 rfl rfl rfl ?_
          refine z_sub (lv' := [(5, _), (4, _), (3, _), (0, _), (1, _), (2, _)]) ⟨rfl, rfl, rfl, rfl, rfl, rfl, trivial⟩ ?_
          exact Li 9 0 be _ hR (by omega) (by omega) hB (Or.inr rfl) (by omega)
        · refine z_goto 123 dX4_bearing_22 (by decide) ?_
          refine z_iinc (lv' := [(3, _), (0, _), (1, _), (2, _)]) 126 dX4_bearing_123 rfl rfl rfl rfl ?_
          refine z_goto 8 dX4_bearing_126 (by decide) ?_
          refine z_sub (lv' := [(3, _), (0, _), (1, _), (2, _)]) ⟨rfl, rfl, rfl, rfl, trivial⟩ ?_
          refine ih8 (q + 1) pl be _ hR (by omega) hT (fun r r0 r1 r2 => ?_) (by omega)
          by_cases hr : r = q
          · exfalso; subst hr; omega
          · exact hB r r0 (by omega) r2
  refine z_aload_n 1 dX4_bearing_0 rfl rfl ?_
  refine z_iload_n 2 dX4_bearing_1 rfl rfl ?_
  refine z_iload_n 3 dX4_bearing_2 rfl rfl ?_
  refine z_callV 6 [_, _] la_X4_tellPlaces ml_X4_156 im_X4_tellPlaces se_X4_tellPlaces hR.1.1 hR.1.2.1 (by decide) rfl rfl (r_tellPlaces hR hW hp hx0) rfl rfl (by decide) (Nat.le_of_ble_eq_true rfl) (by decide) (by decide) dX4_bearing_3 rfl (fun r t hq => ?_)
  obtain ⟨rfl, pl, hR, hT⟩ := hq
  rw [← s31_0 f] at hR
  refine z_iconst 7 dX4_bearing_6 rfl ?_
  refine z_istore_n (lv' := [(3, _), (0, _), (1, _), (2, _)]) 8 dX4_bearing_7 rfl rfl rfl ?_
  refine z_sub (lv' := [(3, _), (0, _), (1, _), (2, _)]) ⟨rfl, rfl, rfl, rfl, trivial⟩ ?_
  exact Lo 122 0 pl (f 31) _ hR (by omega) hT (fun r r0 r1 => by omega) (by omega)
