set_option maxRecDepth 20000 in
theorem r_tellPlaces {m : Nat → Int → Int} {f : Nat → Int → UInt32} {x : Nat} {g : Nat → Nat} {t : zT} (hR : RA m f x g t) {p w : Int} (hW : WF m f) (hp : live m p) (hx0 : 0 ≤ w ∧ w < m 2 p) : zM yX4_tellPlaces cX4_tellPlaces 7 none 0 0 0 [vR (some x), vI p, vI w] t (fun r t1 => r = none ∧ ∃ pl, RA (s30 m pl) f x g t1 ∧ TP m p w pl (-1)) := by
  refine zM.of [(0, vR (some x)), (1, vI p), (2, vI w)] (by decide +kernel) rfl (Nat.le_of_ble_eq_true rfl) ?_
  obtain ⟨hp1, hp2, hp3⟩ := hp
  have hn1 := hW.n.1
  have hn2 := hW.n.2
  have hbp := hW.b hp1 hp2
  obtain ⟨hw1, hw2⟩ := hx0
  have Lo : ∀ (N : Nat) (q : Int) (pl : Int → Int) (t : zT) (hR : RA (s30 m pl) f x g t) (hq : -1 ≤ q ∧ q ≤ p) (ht : TP m p w pl q) (hf : q + 1 < (N : Int)), zOK yX4_tellPlaces cX4_tellPlaces 7 none 0 0 0 (fun r t1 => r = none ∧ ∃ pl, RA (s30 m pl) f x g t1 ∧ TP m p w pl (-1)) 0 0 29 [(3, vI q), (0, vR (some x)), (1, vI p), (2, vI w)] [] t := by
    intro N
    induction N with
    | zero => intro q pl t hR hq ht hf; exfalso; omega
    | succ N ih29 =>
      intro q pl t hR hq ht hf
      have Li : ∀ (M : Nat) (k : Int) (pl : Int → Int) (t : zT) (hR : RA (s30 m pl) f x g t) (hq0 : 0 ≤ q) (ht : TP m p w pl q) (hk : 0 ≤ k ∧ k ≤ m 6 q) (h4 : 0 ≤ pl q → ∀ j, 0 ≤ j → j < k → pl (m 7 (9 * q + j)) = plc m q j (pl q)) (hf2 : m 6 q - k < (M : Int)), zOK yX4_tellPlaces cX4_tellPlaces 7 none 0 0 0 (fun r t1 => r = none ∧ ∃ pl, RA (s30 m pl) f x g t1 ∧ TP m p w pl (-1)) 0 0 36 [(4, vI k), (3, vI q), (0, vR (some x)), (1, vI p), (2, vI w)] [] t := by
        intro M
        induction M with
        | zero => intro k pl t hR hq0 ht hk h4 hf2; exfalso; omega
        | succ M ih36 =>
          intro k pl t hR hq0 ht hk h4 hf2
          have hbq := hW.b (p := q) (by omega) (by omega)
          have hpt := fun (h : k < m 6 q) => (hW.parts q (by omega) (by omega)).1.2 k (by omega) h
          obtain ⟨-, ht2, -⟩ := id ht
          have hpq := ht2 q (by omega) (by omega)
          have hwn := fun (h : 0 ≤ pl q ∧ k < m 6 q) => ((hW.2.1 q (by omega) (by omega)).2.2.2.2.1 (by omega) k (by omega) h.2).1
          have hin := fun (h : k < m 6 q) => hW.b (hpt h).1 (by have := (hpt h).2; omega)
          have hk5 : m 1 q = 5 → m 6 q = 2 ∧ 0 ≤ m 7 (9 * q) ∧ m 7 (9 * q) < q ∧ 1 ≤ m 2 (m 7 (9 * q)) ∧ m 2 (m 7 (9 * q)) ≤ 2000 ∧ 1 ≤ m 9 q ∧ m 9 q ≤ 2000 := fun h => by have e := (hW.2.1 q (by omega) (by omega)).2.2.2.2.2.2.2.2.2.2 h; have e0 := (hW.parts q (by omega) (by omega)).1.2 0 (by omega) (by omega); rw [Int.add_zero] at e0; have e1 := hW.b e0.1 (by omega); omega
          refine z_iload 38 dX4_tellPlaces_36 rfl rfl ?_
          refine z_aload_n 39 dX4_tellPlaces_38 rfl rfl ?_
          refine r_getP 42 hR fl_X4_26 (by decide) dX4_tellPlaces_39 rfl ?_
          refine z_iload_n 43 dX4_tellPlaces_42 rfl rfl ?_
          refine r_ialde 44 6 120 hR rk6 ⟨by omega, by omega⟩ (show _ = m 6 _ from rfl) dX4_tellPlaces_43 rfl ?_
          refine z_icmp_ge 213 47 dX4_tellPlaces_44 (by decide) rfl ⟨by omega, by omega⟩ ⟨by omega, by omega⟩ (fun h44 => ?_) (fun h44 => ?_)
          · refine z_iinc (lv' := [(3, _), (4, _), (0, _), (1, _), (2, _)]) 216 dX4_tellPlaces_213 rfl rfl rfl rfl ?_
            refine z_goto 29 dX4_tellPlaces_216 (by decide) ?_
            refine z_sub (lv' := [(3, _), (0, _), (1, _), (2, _)]) ⟨rfl, rfl, rfl, rfl, trivial⟩ ?_
            have hnx : TP m p w pl (q - 1) := ht.next (by by_cases h9 : pl q < 0; exact Or.inl h9; exact Or.inr (fun j j0 j1 => h4 (by omega) j j0 (by omega)))
            exact ih29 _ _ _ hR (by omega) hnx (by omega)
          · refine z_aload_n 48 dX4_tellPlaces_47 rfl rfl ?_
            refine r_getP 51 hR fl_X4_90 (by decide) dX4_tellPlaces_48 rfl ?_
            refine z_iload_n 52 dX4_tellPlaces_51 rfl rfl ?_
            refine r_ialde 53 30 120 hR rk30 ⟨by omega, by omega⟩ (show _ = pl _ from rfl) dX4_tellPlaces_52 rfl ?_
            refine z_if_lt 213 56 dX4_tellPlaces_53 (by decide) rfl ⟨by omega, by omega⟩ (fun h53 => ?_) (fun h53 => ?_)
            · refine z_iinc (lv' := [(3, _), (4, _), (0, _), (1, _), (2, _)]) 216 dX4_tellPlaces_213 rfl rfl rfl rfl ?_
              refine z_goto 29 dX4_tellPlaces_216 (by decide) ?_
              refine z_sub (lv' := [(3, _), (0, _), (1, _), (2, _)]) ⟨rfl, rfl, rfl, rfl, trivial⟩ ?_
              have hnx : TP m p w pl (q - 1) := ht.next (by by_cases h9 : pl q < 0; exact Or.inl h9; exact Or.inr (fun j j0 j1 => h4 (by omega) j j0 (by omega)))
              exact ih29 _ _ _ hR (by omega) hnx (by omega)
            · refine z_aload_n 57 dX4_tellPlaces_56 rfl rfl ?_
              refine r_getP 60 hR fl_X4_29 (by decide) dX4_tellPlaces_57 rfl ?_
              refine z_bipush 62 dX4_tellPlaces_60 rfl ⟨by decide, by decide⟩ ?_
              refine z_iload_n 63 dX4_tellPlaces_62 rfl rfl ?_
              refine z_imul 64 dX4_tellPlaces_63 rfl ?_
              refine z_iload 66 dX4_tellPlaces_64 rfl rfl ?_
              refine z_iadd 67 dX4_tellPlaces_66 rfl ?_
              refine r_ialde 68 7 1080 hR rk7 ⟨by omega, by omega⟩ (show _ = m 7 _ from rfl) dX4_tellPlaces_67 rfl ?_
              refine z_istore (lv' := [(5, _), (4, _), (3, _), (0, _), (1, _), (2, _)]) 70 dX4_tellPlaces_68 rfl rfl rfl ?_
              refine z_aload_n 71 dX4_tellPlaces_70 rfl rfl ?_
              refine r_getP 74 hR fl_X4_32 (by decide) dX4_tellPlaces_71 rfl ?_
              refine z_iload 76 dX4_tellPlaces_74 rfl rfl ?_
              refine r_ialde 77 8 120 hR rk8 ⟨by omega, by omega⟩ (show _ = m 8 _ from rfl) dX4_tellPlaces_76 rfl ?_
              refine z_iload_n 78 dX4_tellPlaces_77 rfl rfl ?_
              refine z_icmp_ne 168 81 dX4_tellPlaces_78 (by decide) rfl ⟨by omega, by omega⟩ ⟨by omega, by omega⟩ (fun h78 => ?_) (fun h78 => ?_)
              · exfalso; (have := hwn ⟨by omega, by omega⟩; omega)
              refine z_aload_n 82 dX4_tellPlaces_81 rfl rfl ?_
              refine r_getP 85 hR fl_X4_9 (by decide) dX4_tellPlaces_82 rfl ?_
              refine z_iload_n 86 dX4_tellPlaces_85 rfl rfl ?_
              refine r_ialde 87 1 120 hR rk1 ⟨by omega, by omega⟩ (show _ = m 1 _ from rfl) dX4_tellPlaces_86 rfl ?_
              refine z_iconst 88 dX4_tellPlaces_87 rfl ?_
              refine z_icmp_ne 168 91 dX4_tellPlaces_88 (by decide) rfl ⟨by omega, by omega⟩ ⟨by omega, by omega⟩ (fun h88 => ?_) (fun h88 => ?_)
              · refine z_aload_n 169 dX4_tellPlaces_168 rfl rfl ?_
                refine r_getP 172 hR fl_X4_32 (by decide) dX4_tellPlaces_169 rfl ?_
                refine z_iload 174 dX4_tellPlaces_172 rfl rfl ?_
                refine r_ialde 175 8 120 hR rk8 ⟨by omega, by omega⟩ (show _ = m 8 _ from rfl) dX4_tellPlaces_174 rfl ?_
                refine z_iload_n 176 dX4_tellPlaces_175 rfl rfl ?_
                refine z_icmp_ne 207 179 dX4_tellPlaces_176 (by decide) rfl ⟨by omega, by omega⟩ ⟨by omega, by omega⟩ (fun h176 => ?_) (fun h176 => ?_)
                · exfalso; (have := hwn ⟨by omega, by omega⟩; omega)
                refine z_aload_n 180 dX4_tellPlaces_179 rfl rfl ?_
                refine r_getP 183 hR fl_X4_90 (by decide) dX4_tellPlaces_180 rfl ?_
                refine z_iload 185 dX4_tellPlaces_183 rfl rfl ?_
                refine z_aload_n 186 dX4_tellPlaces_185 rfl rfl ?_
                refine r_getP 189 hR fl_X4_90 (by decide) dX4_tellPlaces_186 rfl ?_
                refine z_iload_n 190 dX4_tellPlaces_189 rfl rfl ?_
                refine r_ialde 191 30 120 hR rk30 ⟨by omega, by omega⟩ (show _ = pl _ from rfl) dX4_tellPlaces_190 rfl ?_
                refine z_aload_n 192 dX4_tellPlaces_191 rfl rfl ?_
                refine r_getP 195 hR fl_X4_13 (by decide) dX4_tellPlaces_192 rfl ?_
                have hzz := Int.mul_nonneg (show 0 ≤ pl q by omega) (show 0 ≤ m 2 (m 7 (9 * q + k)) by have := hin (by omega); omega)
                have hzy : pl q * m 2 (m 7 (9 * q + k)) ≤ 2000 * 2000 := Int.mul_le_mul (by omega) (by have := hin (by omega); omega) (by have := hin (by omega); omega) (by decide)
                refine z_iload 197 dX4_tellPlaces_195 rfl rfl ?_
                refine r_ialde 198 2 120 hR rk2 ⟨by omega, by omega⟩ (show _ = m 2 _ from rfl) dX4_tellPlaces_197 rfl ?_
                refine z_imul 199 dX4_tellPlaces_198 rfl ?_
                refine z_aload_n 200 dX4_tellPlaces_199 rfl rfl ?_
                refine r_getP 203 hR fl_X4_13 (by decide) dX4_tellPlaces_200 rfl ?_
                refine z_iload_n 204 dX4_tellPlaces_203 rfl rfl ?_
                refine r_ialde 205 2 120 hR rk2 ⟨by omega, by omega⟩ (show _ = m 2 _ from rfl) dX4_tellPlaces_204 rfl ?_
                refine z_idiv 206 dX4_tellPlaces_205 rfl ⟨by omega, by omega⟩ ⟨by omega, by omega⟩ (by omega) ?_
                have hp0 : 0 ≤ pl q := by omega
                have hkk : k < m 6 q := by omega
                obtain ⟨hs1, hs2, hs3⟩ := ht.step hW hp2 hq0 hq.2 hp0 hk.1 hkk (h4 hp0)
                refine z_top (w := vI (plc m q k (pl q))) (congrArg vI (by unfold plc; rw [if_neg (by omega)]; exact Int.tdiv_eq_ediv_of_nonneg hzz)) ?_
                refine r_iast 207 30 120 hR rk30 ⟨by omega, by omega⟩ dX4_tellPlaces_206 rfl (fun t hR => ?_)
                rw [s30_u] at hR
                refine z_iinc (lv' := [(4, _), (5, _), (3, _), (0, _), (1, _), (2, _)]) 210 dX4_tellPlaces_207 rfl rfl rfl rfl ?_
                refine z_goto 36 dX4_tellPlaces_210 (by decide) ?_
                refine z_sub (lv' := [(4, _), (3, _), (0, _), (1, _), (2, _)]) ⟨rfl, rfl, rfl, rfl, rfl, trivial⟩ ?_
                exact ih36 _ _ _ hR hq0 hs1 (by omega) (fun _ => by rw [hs2]; exact hs3) (by omega)
              · refine z_iload 93 dX4_tellPlaces_91 rfl rfl ?_
                refine z_if_ne 105 96 dX4_tellPlaces_93 (by decide) rfl ⟨by omega, by omega⟩ (fun h93 => ?_) (fun h93 => ?_)
                · refine z_aload_n 106 dX4_tellPlaces_105 rfl rfl ?_
                  refine r_getP 109 hR fl_X4_90 (by decide) dX4_tellPlaces_106 rfl ?_
                  refine z_iload_n 110 dX4_tellPlaces_109 rfl rfl ?_
                  refine r_ialde 111 30 120 hR rk30 ⟨by omega, by omega⟩ (show _ = pl _ from rfl) dX4_tellPlaces_110 rfl ?_
                  refine z_aload_n 112 dX4_tellPlaces_111 rfl rfl ?_
                  refine r_getP 115 hR fl_X4_13 (by decide) dX4_tellPlaces_112 rfl ?_
                  refine z_aload_n 116 dX4_tellPlaces_115 rfl rfl ?_
                  refine r_getP 119 hR fl_X4_29 (by decide) dX4_tellPlaces_116 rfl ?_
                  refine z_bipush 121 dX4_tellPlaces_119 rfl ⟨by decide, by decide⟩ ?_
                  refine z_iload_n 122 dX4_tellPlaces_121 rfl rfl ?_
                  refine z_imul 123 dX4_tellPlaces_122 rfl ?_
                  refine r_ialde 124 7 1080 hR rk7 ⟨by omega, by omega⟩ (show _ = m 7 _ from rfl) dX4_tellPlaces_123 rfl ?_
                  refine r_ialde 125 2 120 hR rk2 ⟨by omega, by omega⟩ (show _ = m 2 _ from rfl) dX4_tellPlaces_124 rfl ?_
                  refine z_isub 126 dX4_tellPlaces_125 rfl ?_
                  refine z_aload_n 127 dX4_tellPlaces_126 rfl rfl ?_
                  refine r_getP 130 hR fl_X4_35 (by decide) dX4_tellPlaces_127 rfl ?_
                  refine z_iload_n 131 dX4_tellPlaces_130 rfl rfl ?_
                  refine r_ialde 132 9 120 hR rk9 ⟨by omega, by omega⟩ (show _ = m 9 _ from rfl) dX4_tellPlaces_131 rfl ?_
                  refine z_iadd 133 dX4_tellPlaces_132 rfl ?_
                  refine z_istore (lv' := [(6, _), (5, _), (4, _), (3, _), (0, _), (1, _), (2, _)]) 135 dX4_tellPlaces_133 rfl rfl rfl ?_
                  refine z_aload_n 136 dX4_tellPlaces_135 rfl rfl ?_
                  refine r_getP 139 hR fl_X4_90 (by decide) dX4_tellPlaces_136 rfl ?_
                  refine z_iload 141 dX4_tellPlaces_139 rfl rfl ?_
                  refine z_iload 143 dX4_tellPlaces_141 rfl rfl ?_
                  refine z_if_lt 163 146 dX4_tellPlaces_143 (by decide) rfl ⟨by omega, by omega⟩ (fun h143 => ?_) (fun h143 => ?_)
                  · refine z_iconst 164 dX4_tellPlaces_163 rfl ?_
                    have hp0 : 0 ≤ pl q := by omega
                    have hkk : k < m 6 q := by omega
                    obtain ⟨hs1, hs2, hs3⟩ := ht.step hW hp2 hq0 hq.2 hp0 hk.1 hkk (h4 hp0)
                    refine z_top (w := vI (plc m q k (pl q))) (congrArg vI (by
            unfold plc
            rw [if_pos (by omega)]
            (repeat' split) <;> first | rfl | omega)) ?_
                    refine r_iast 165 30 120 hR rk30 ⟨by omega, by omega⟩ dX4_tellPlaces_164 rfl (fun t hR => ?_)
                    refine z_goto 207 dX4_tellPlaces_165 (by decide) ?_
                    rw [s30_u] at hR
                    refine z_iinc (lv' := [(4, _), (6, _), (5, _), (3, _), (0, _), (1, _), (2, _)]) 210 dX4_tellPlaces_207 rfl rfl rfl rfl ?_
                    refine z_goto 36 dX4_tellPlaces_210 (by decide) ?_
                    refine z_sub (lv' := [(4, _), (3, _), (0, _), (1, _), (2, _)]) ⟨rfl, rfl, rfl, rfl, rfl, trivial⟩ ?_
                    exact ih36 _ _ _ hR hq0 hs1 (by omega) (fun _ => by rw [hs2]; exact hs3) (by omega)
                  · refine z_iload 148 dX4_tellPlaces_146 rfl rfl ?_
                    refine z_aload_n 149 dX4_tellPlaces_148 rfl rfl ?_
                    refine r_getP 152 hR fl_X4_13 (by decide) dX4_tellPlaces_149 rfl ?_
                    refine z_iload 154 dX4_tellPlaces_152 rfl rfl ?_
                    refine r_ialde 155 2 120 hR rk2 ⟨by omega, by omega⟩ (show _ = m 2 _ from rfl) dX4_tellPlaces_154 rfl ?_
                    refine z_icmp_ge 163 158 dX4_tellPlaces_155 (by decide) rfl ⟨by omega, by omega⟩ ⟨by omega, by omega⟩ (fun h155 => ?_) (fun h155 => ?_)
                    · refine z_iconst 164 dX4_tellPlaces_163 rfl ?_
                      have hp0 : 0 ≤ pl q := by omega
                      have hkk : k < m 6 q := by omega
                      obtain ⟨hs1, hs2, hs3⟩ := ht.step hW hp2 hq0 hq.2 hp0 hk.1 hkk (h4 hp0)
                      refine z_top (w := vI (plc m q k (pl q))) (congrArg vI (by
            unfold plc
            rw [if_pos (by omega)]
            (repeat' split) <;> first | rfl | omega)) ?_
                      refine r_iast 165 30 120 hR rk30 ⟨by omega, by omega⟩ dX4_tellPlaces_164 rfl (fun t hR => ?_)
                      refine z_goto 207 dX4_tellPlaces_165 (by decide) ?_
                      rw [s30_u] at hR
                      refine z_iinc (lv' := [(4, _), (6, _), (5, _), (3, _), (0, _), (1, _), (2, _)]) 210 dX4_tellPlaces_207 rfl rfl rfl rfl ?_
                      refine z_goto 36 dX4_tellPlaces_210 (by decide) ?_
                      refine z_sub (lv' := [(4, _), (3, _), (0, _), (1, _), (2, _)]) ⟨rfl, rfl, rfl, rfl, rfl, trivial⟩ ?_
                      exact ih36 _ _ _ hR hq0 hs1 (by omega) (fun _ => by rw [hs2]; exact hs3) (by omega)
                    · refine z_iload 160 dX4_tellPlaces_158 rfl rfl ?_
                      refine z_goto 164 dX4_tellPlaces_160 (by decide) ?_
                      have hp0 : 0 ≤ pl q := by omega
                      have hkk : k < m 6 q := by omega
                      obtain ⟨hs1, hs2, hs3⟩ := ht.step hW hp2 hq0 hq.2 hp0 hk.1 hkk (h4 hp0)
                      refine z_top (w := vI (plc m q k (pl q))) (congrArg vI (by
            unfold plc
            rw [if_pos (by omega)]
            (repeat' split) <;> first | rfl | omega)) ?_
                      refine r_iast 165 30 120 hR rk30 ⟨by omega, by omega⟩ dX4_tellPlaces_164 rfl (fun t hR => ?_)
                      refine z_goto 207 dX4_tellPlaces_165 (by decide) ?_
                      rw [s30_u] at hR
                      refine z_iinc (lv' := [(4, _), (6, _), (5, _), (3, _), (0, _), (1, _), (2, _)]) 210 dX4_tellPlaces_207 rfl rfl rfl rfl ?_
                      refine z_goto 36 dX4_tellPlaces_210 (by decide) ?_
                      refine z_sub (lv' := [(4, _), (3, _), (0, _), (1, _), (2, _)]) ⟨rfl, rfl, rfl, rfl, rfl, trivial⟩ ?_
                      exact ih36 _ _ _ hR hq0 hs1 (by omega) (fun _ => by rw [hs2]; exact hs3) (by omega)
                · refine z_aload_n 97 dX4_tellPlaces_96 rfl rfl ?_
                  refine r_getP 100 hR fl_X4_90 (by decide) dX4_tellPlaces_97 rfl ?_
                  refine z_iload_n 101 dX4_tellPlaces_100 rfl rfl ?_
                  refine r_ialde 102 30 120 hR rk30 ⟨by omega, by omega⟩ (show _ = pl _ from rfl) dX4_tellPlaces_101 rfl ?_
                  refine z_goto 133 dX4_tellPlaces_102 (by decide) ?_
                  refine z_istore (lv' := [(6, _), (5, _), (4, _), (3, _), (0, _), (1, _), (2, _)]) 135 dX4_tellPlaces_133 rfl rfl rfl ?_
                  refine z_aload_n 136 dX4_tellPlaces_135 rfl rfl ?_
                  refine r_getP 139 hR fl_X4_90 (by decide) dX4_tellPlaces_136 rfl ?_
                  refine z_iload 141 dX4_tellPlaces_139 rfl rfl ?_
                  refine z_iload 143 dX4_tellPlaces_141 rfl rfl ?_
                  refine z_if_lt 163 146 dX4_tellPlaces_143 (by decide) rfl ⟨by omega, by omega⟩ (fun h143 => ?_) (fun h143 => ?_)
                  · refine z_iconst 164 dX4_tellPlaces_163 rfl ?_
                    have hp0 : 0 ≤ pl q := by omega
                    have hkk : k < m 6 q := by omega
                    obtain ⟨hs1, hs2, hs3⟩ := ht.step hW hp2 hq0 hq.2 hp0 hk.1 hkk (h4 hp0)
                    refine z_top (w := vI (plc m q k (pl q))) (congrArg vI (by
            unfold plc
            rw [if_pos (by omega)]
            (repeat' split) <;> first | rfl | omega)) ?_
                    refine r_iast 165 30 120 hR rk30 ⟨by omega, by omega⟩ dX4_tellPlaces_164 rfl (fun t hR => ?_)
                    refine z_goto 207 dX4_tellPlaces_165 (by decide) ?_
                    rw [s30_u] at hR
                    refine z_iinc (lv' := [(4, _), (6, _), (5, _), (3, _), (0, _), (1, _), (2, _)]) 210 dX4_tellPlaces_207 rfl rfl rfl rfl ?_
                    refine z_goto 36 dX4_tellPlaces_210 (by decide) ?_
                    refine z_sub (lv' := [(4, _), (3, _), (0, _), (1, _), (2, _)]) ⟨rfl, rfl, rfl, rfl, rfl, trivial⟩ ?_
                    exact ih36 _ _ _ hR hq0 hs1 (by omega) (fun _ => by rw [hs2]; exact hs3) (by omega)
                  · refine z_iload 148 dX4_tellPlaces_146 rfl rfl ?_
                    refine z_aload_n 149 dX4_tellPlaces_148 rfl rfl ?_
                    refine r_getP 152 hR fl_X4_13 (by decide) dX4_tellPlaces_149 rfl ?_
                    refine z_iload 154 dX4_tellPlaces_152 rfl rfl ?_
                    refine r_ialde 155 2 120 hR rk2 ⟨by omega, by omega⟩ (show _ = m 2 _ from rfl) dX4_tellPlaces_154 rfl ?_
                    refine z_icmp_ge 163 158 dX4_tellPlaces_155 (by decide) rfl ⟨by omega, by omega⟩ ⟨by omega, by omega⟩ (fun h155 => ?_) (fun h155 => ?_)
                    · refine z_iconst 164 dX4_tellPlaces_163 rfl ?_
                      have hp0 : 0 ≤ pl q := by omega
                      have hkk : k < m 6 q := by omega
                      obtain ⟨hs1, hs2, hs3⟩ := ht.step hW hp2 hq0 hq.2 hp0 hk.1 hkk (h4 hp0)
                      refine z_top (w := vI (plc m q k (pl q))) (congrArg vI (by
            unfold plc
            rw [if_pos (by omega)]
            (repeat' split) <;> first | rfl | omega)) ?_
                      refine r_iast 165 30 120 hR rk30 ⟨by omega, by omega⟩ dX4_tellPlaces_164 rfl (fun t hR => ?_)
                      refine z_goto 207 dX4_tellPlaces_165 (by decide) ?_
                      rw [s30_u] at hR
                      refine z_iinc (lv' := [(4, _), (6, _), (5, _), (3, _), (0, _), (1, _), (2, _)]) 210 dX4_tellPlaces_207 rfl rfl rfl rfl ?_
                      refine z_goto 36 dX4_tellPlaces_210 (by decide) ?_
                      refine z_sub (lv' := [(4, _), (3, _), (0, _), (1, _), (2, _)]) ⟨rfl, rfl, rfl, rfl, rfl, trivial⟩ ?_
                      exact ih36 _ _ _ hR hq0 hs1 (by omega) (fun _ => by rw [hs2]; exact hs3) (by omega)
                    · refine z_iload 160 dX4_tellPlaces_158 rfl rfl ?_
                      refine z_goto 164 dX4_tellPlaces_160 (by decide) ?_
                      have hp0 : 0 ≤ pl q := by omega
                      have hkk : k < m 6 q := by omega
                      obtain ⟨hs1, hs2, hs3⟩ := ht.step hW hp2 hq0 hq.2 hp0 hk.1 hkk (h4 hp0)
                      refine z_top (w := vI (plc m q k (pl q))) (congrArg vI (by
            unfold plc
            rw [if_pos (by omega)]
            (repeat' split) <;> first | rfl | omega)) ?_
                      refine r_iast 165 30 120 hR rk30 ⟨by omega, by omega⟩ dX4_tellPlaces_164 rfl (fun t hR => ?_)
                      refine z_goto 207 dX4_tellPlaces_165 (by decide) ?_
                      rw [s30_u] at hR
                      refine z_iinc (lv' := [(4, _), (6, _), (5, _), (3, _), (0, _), (1, _), (2, _)]) 210 dX4_tellPlaces_207 rfl rfl rfl rfl ?_
                      refine z_goto 36 dX4_tellPlaces_210 (by decide) ?_
                      refine z_sub (lv' := [(4, _), (3, _), (0, _), (1, _), (2, _)]) ⟨rfl, rfl, rfl, rfl, rfl, trivial⟩ ?_
                      exact ih36 _ _ _ hR hq0 hs1 (by omega) (fun _ => by rw [hs2]; exact hs3) (by omega)
      have hbq := fun (h : 0 ≤ q) => hW.b (p := q) h (by omega)
      refine z_iload_n 30 dX4_tellPlaces_29 rfl rfl ?_
      refine z_if_lt 219 33 dX4_tellPlaces_30 (by decide) rfl ⟨by omega, by omega⟩ (fun h30 => ?_) (fun h30 => ?_)
      · refine z_return rfl dX4_tellPlaces_219 (by decide) (by decide) ?_
        have hq1 : q = -1 := by omega
        subst hq1
        exact ⟨rfl, pl, hR, ht⟩
      · refine z_iconst 34 dX4_tellPlaces_33 rfl ?_
        refine z_istore (lv' := [(4, _), (3, _), (0, _), (1, _), (2, _)]) 36 dX4_tellPlaces_34 rfl rfl rfl ?_
        refine z_sub (lv' := [(4, _), (3, _), (0, _), (1, _), (2, _)]) ⟨rfl, rfl, rfl, rfl, rfl, trivial⟩ ?_
        exact Li 10 0 pl t hR (by omega) ht (by omega) (fun _ j j0 j1 => by omega) (by omega)
  have L2 : ∀ (N : Nat) (q : Int) (pl : Int → Int) (t : zT) (hR : RA (s30 m pl) f x g t) (hq : 0 ≤ q ∧ q ≤ p) (h9 : ∀ j, 0 ≤ j → j < q → pl j = -1) (hf : p - q < (N : Int)), zOK yX4_tellPlaces cX4_tellPlaces 7 none 0 0 0 (fun r t1 => r = none ∧ ∃ pl, RA (s30 m pl) f x g t1 ∧ TP m p w pl (-1)) 0 0 2 [(3, vI q), (0, vR (some x)), (1, vI p), (2, vI w)] [] t := by
    intro N
    induction N with
    | zero => intro q pl t hR hq h9 hf; exfalso; omega
    | succ N ih2 =>
      intro q pl t hR hq h9 hf
      refine z_iload_n 3 dX4_tellPlaces_2 rfl rfl ?_
      refine z_iload_n 4 dX4_tellPlaces_3 rfl rfl ?_
      refine z_icmp_ge 20 7 dX4_tellPlaces_4 (by decide) rfl ⟨by omega, by omega⟩ ⟨by omega, by omega⟩ (fun h4 => ?_) (fun h4 => ?_)
      · refine z_aload_n 21 dX4_tellPlaces_20 rfl rfl ?_
        refine r_getP 24 hR fl_X4_90 (by decide) dX4_tellPlaces_21 rfl ?_
        refine z_iload_n 25 dX4_tellPlaces_24 rfl rfl ?_
        refine z_iload_n 26 dX4_tellPlaces_25 rfl rfl ?_
        refine r_iast 27 30 120 hR rk30 ⟨by omega, by omega⟩ dX4_tellPlaces_26 rfl (fun t hR => ?_)
        refine z_iload_n 28 dX4_tellPlaces_27 rfl rfl ?_
        refine z_istore_n (lv' := [(3, _), (0, _), (1, _), (2, _)]) 29 dX4_tellPlaces_28 rfl rfl rfl ?_
        refine z_sub (lv' := [(3, _), (0, _), (1, _), (2, _)]) ⟨rfl, rfl, rfl, rfl, trivial⟩ ?_
        rw [s30_u] at hR
        refine Lo 121 _ _ _ hR (by omega) ⟨if_pos rfl, fun r r0 r1 => ?_, fun r r0 r1 r2 => by omega⟩ (by omega)
        unfold up0
        by_cases hr : r = p
        · rw [if_pos hr, hr]; exact Or.inr ⟨by omega, by omega, by omega⟩
        · rw [if_neg hr]; exact Or.inl (h9 r r0 (by omega))
      · refine z_aload_n 8 dX4_tellPlaces_7 rfl rfl ?_
        refine r_getP 11 hR fl_X4_90 (by decide) dX4_tellPlaces_8 rfl ?_
        refine z_iload_n 12 dX4_tellPlaces_11 rfl rfl ?_
        refine z_iconst 13 dX4_tellPlaces_12 rfl ?_
        refine r_iast 14 30 120 hR rk30 ⟨by omega, by omega⟩ dX4_tellPlaces_13 rfl (fun t hR => ?_)
        refine z_iinc (lv' := [(3, _), (0, _), (1, _), (2, _)]) 17 dX4_tellPlaces_14 rfl rfl rfl rfl ?_
        refine z_goto 2 dX4_tellPlaces_17 (by decide) ?_
        refine z_sub (lv' := [(3, _), (0, _), (1, _), (2, _)]) ⟨rfl, rfl, rfl, rfl, trivial⟩ ?_
        rw [s30_u] at hR
        exact ih2 _ _ _ hR (by omega) (fun j j0 j1 => by unfold up0; split; rfl; exact h9 j j0 (by omega)) (by omega)
  rw [← s30_0 m] at hR
  refine z_iconst 1 dX4_tellPlaces_0 rfl ?_
  refine z_istore_n (lv' := [(3, _), (0, _), (1, _), (2, _)]) 2 dX4_tellPlaces_1 rfl rfl rfl ?_
  refine z_sub (lv' := [(3, _), (0, _), (1, _), (2, _)]) ⟨rfl, rfl, rfl, rfl, trivial⟩ ?_
  exact L2 121 _ _ _ hR (by omega) (fun j j0 j1 => by omega) (by omega)
