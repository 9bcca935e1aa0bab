theorem pca_0 {a : Nat → Int → Nat} {N : Int} {q r q1 q2 q3 : Nat} {s : Nat} {j : Int} (h : j ≠ N ∨ s < 6) : pca a N q r q1 q2 q3 s j = a s j := by
  unfold pca
  by_cases e : j = N
  · rw [if_pos e]
    have hs : s < 6 := by omega
    rw [if_neg (by omega), if_neg (by omega), if_neg (by omega), if_neg (by omega), if_neg (by omega)]
  · rw [if_neg e]
theorem rf_pca {a : Nat → Int → Nat} {N : Int} {q r q1 q2 q3 : Nat} {v : Int} (h : v ≠ N) : rf (pca a N q r q1 q2 q3) 6 v = rf a 6 v := by
  unfold rf
  rw [pca_0 (Or.inl h)]
theorem rf_new {a : Nat → Int → Nat} {N : Int} {q r q1 q2 q3 : Nat} (h : 0 ≤ N) : rf (pca a N q r q1 q2 q3) 6 N = some q := by
  unfold rf
  rw [if_neg (by omega)]
  unfold pca
  rw [if_pos rfl, if_pos rfl]
theorem rf_this {a : Nat → Int → Nat} {N : Int} {q r q1 q2 q3 : Nat} : rf (pca a N q r q1 q2 q3) 0 0 = rf a 0 0 := by
  show some (pca a N q r q1 q2 q3 0 0) = some (a 0 0)
  rw [pca_0 (Or.inr (by decide))]
theorem CA.fresh {m : Nat → Int → Int} {f : Nat → Int → UInt32} {a : Nat → Int → Nat} {t : zT} (h : CA m f a t) {q : Nat} (hq : q ∉ tL t) : ∀ s j, s < 15 → cLive m s j → a s j ≠ q := fun s j hs hl e => hq (e ▸ (h.lv s j hs hl).1)
theorem pcm_l {m : Nat → Int → Int} {N n k l w c : Int} {pt : Int → Int} (h : 0 ≤ N) : cLive (pcm m N n k l w c pt) 6 N := ⟨h, by
  show N < pcm m N n k l w c pt 60 0
  rw [pcm_s (by decide)]
  show N < up2 m 60 0 (N + 1) 60 0
  rw [up2_s]; omega⟩
theorem pcm_0 {m : Nat → Int → Int} {N n k l w c : Int} {pt : Int → Int} : pcm m N n k l w c pt 0 0 = m 0 0 := (pcm_c (by decide) 0).trans (chn_o rfl 0)
theorem pcm_60 {m : Nat → Int → Int} {N n k l w c : Int} {pt : Int → Int} : pcm m N n k l w c pt 60 0 = N + 1 := (pcm_c (by decide) 0).trans (up2_s m 60 0 (N + 1))
theorem pcm_56 {m : Nat → Int → Int} {N n k l w c : Int} {pt : Int → Int} : pcm m N n k l w c pt 56 N = n := (pcm_c (by decide) N).trans (up2_s _ 56 N n)
theorem tape_num {v : UInt32} (h : ∃ e, 0 ≤ e ∧ e ≤ 80000 ∧ v = E8 e) : vf_n32 (FP.fmul v 1056964608) := tape_num' h
theorem sA_new {t : zT} {q kd n : Nat} : q ∈ tL (sA t q kd n) ∧ tK (sA t q kd n) q = kd ∧ tN (sA t q kd n) q = n ∧ (∀ i, tI (sA t q kd n) q i = 0) ∧ (∀ i, tF (sA t q kd n) q i = 0) ∧ ∀ i, tP (sA t q kd n) q i = none := by
  refine ⟨List.mem_append_right _ List.mem_cons_self, ?_, ?_, fun i => ?_, fun i => ?_, fun i => ?_⟩ <;> simp [sA, tK, tN, tI, tF, tP, up1]
theorem sA_old {t : zT} {q kd n b : Nat} (hb : b ∈ tL t) (hq : q ∉ tL t) : samec t (sA t q kd n) b := by
  have hne : b ≠ q := fun e => hq (e ▸ hb)
  refine ⟨List.mem_append_left _ hb, ?_, ?_, fun i => ?_, fun i => ?_, fun i => ?_⟩ <;> simp [sA, tK, tN, tI, tF, tP, up1, hne]
set_option maxRecDepth 20000 in
theorem c_spin {m : Nat → Int → Int} {f : Nat → Int → UInt32} {a : Nat → Int → Nat} {t : zT} (hR : CA m f a t) {k : Int} (hk : zi k) {n : Int} (hn : zi n) {e : Int} (he : zi e) (hW : WF m f) (hX : XI m f) (hk04 : k = 0 ∨ k = 4) : zM yX3_spin cX3_spin 6 (some .int) 2 5 38 [vR (rf a 0 0), vI k, vI n, vI e] t (fun r t1 => r = some (vI (a_new m n e)) ∧ CP (a 0 0) (s_new m f k n e) t1) := by
  refine zM.of2 [(0, vR (rf a 0 0)), (1, vI k), (2, vI n), (3, vI e)] (by decide +kernel) rfl (Nat.le_of_ble_eq_true rfl) ?_
  obtain ⟨hk1, hk2⟩ := hk
  obtain ⟨hn1, hn2⟩ := hn
  obtain ⟨he1, he2⟩ := he
  have hn1 := hW.n.1
  have hn2 := hW.n.2
  have h60 := hX.1.1
  have h62 := hX.1.2.1
  have h64 := hX.1.2.2
  refine z_iload_n 1 dX3_spin_0 rfl rfl ?_
  refine z_iconst 2 dX3_spin_1 rfl ?_
  refine z_icmp_lt 22 5 dX3_spin_2 (by decide) rfl ⟨by omega, by omega⟩ ⟨by omega, by omega⟩ (fun h2 => ?_) (fun h2 => ?_)
  · refine z_bipush 24 dX3_spin_22 rfl ⟨by decide, by decide⟩ ?_
    refine z_ireturn rfl dX3_spin_24 (by decide) (by decide) ?_
    refine ⟨congrArg (fun z => some (vI z)) ?_, ?_⟩
    · unfold a_new cif new_no; rw [if_pos (by omega)]
    · have es : s_new m f k n e = (m, f) := if_pos (by unfold new_no; omega)
      rw [es]; exact CP.rf hR hX
  · refine z_iload_n 6 dX3_spin_5 rfl rfl ?_
    refine z_sipush 9 dX3_spin_6 rfl ⟨by decide, by decide⟩ ?_
    refine z_icmp_gt 22 12 dX3_spin_9 (by decide) rfl ⟨by omega, by omega⟩ ⟨by omega, by omega⟩ (fun h9 => ?_) (fun h9 => ?_)
    · refine z_bipush 24 dX3_spin_22 rfl ⟨by decide, by decide⟩ ?_
      refine z_ireturn rfl dX3_spin_24 (by decide) (by decide) ?_
      refine ⟨congrArg (fun z => some (vI z)) ?_, ?_⟩
      · unfold a_new cif new_no; rw [if_pos (by omega)]
      · have es : s_new m f k n e = (m, f) := if_pos (by unfold new_no; omega)
        rw [es]; exact CP.rf hR hX
    · refine z_iload_n 13 dX3_spin_12 rfl rfl ?_
      refine z_if_lt 22 16 dX3_spin_13 (by decide) rfl ⟨by omega, by omega⟩ (fun h13 => ?_) (fun h13 => ?_)
      · refine z_bipush 24 dX3_spin_22 rfl ⟨by decide, by decide⟩ ?_
        refine z_ireturn rfl dX3_spin_24 (by decide) (by decide) ?_
        refine ⟨congrArg (fun z => some (vI z)) ?_, ?_⟩
        · unfold a_new cif new_no; rw [if_pos (by omega)]
        · have es : s_new m f k n e = (m, f) := if_pos (by unfold new_no; omega)
          rw [es]; exact CP.rf hR hX
      · refine z_iload_n 17 dX3_spin_16 rfl rfl ?_
        refine z_ldc 19 co_X3_39 dX3_spin_17 rfl ?_
        refine z_icmp_le 25 22 dX3_spin_19 (by decide) rfl ⟨by omega, by omega⟩ ⟨by omega, by omega⟩ (fun h19 => ?_) (fun h19 => ?_)
        · refine z_aload_n 26 dX3_spin_25 rfl rfl ?_
          refine c_getI 29 0 hR fl_X3_40 (by decide) (show cLive m 0 0 from l0) (show _ = m 0 0 from rfl) dX3_spin_26 rfl ?_
          refine z_bipush 31 dX3_spin_29 rfl ⟨by decide, by decide⟩ ?_
          refine z_icmp_lt 37 34 dX3_spin_31 (by decide) rfl ⟨by omega, by omega⟩ ⟨by omega, by omega⟩ (fun h31 => ?_) (fun h31 => ?_)
          · refine z_iload_n 38 dX3_spin_37 rfl rfl ?_
            refine z_i2f 39 dX3_spin_38 rfl ?_
            refine z_ldcf 41 co_X3_44 dX3_spin_39 rfl ?_
            refine z_fmul 42 dX3_spin_41 rfl (E8_num (by omega) (by omega)) ?_
            refine z_fstore (lv' := [(4, _), (0, _), (1, _), (2, _), (3, _)]) 44 dX3_spin_42 rfl rfl rfl ?_
            have hRa := hR
            refine z_new 47 nw_X3_9 (by decide) (by decide) dX3_spin_44 rfl (fun q44 hq44 => ?_)
            replace hR := hR.new (kd := 1) (n := 0) hq44
            refine z_dup 48 dX3_spin_47 rfl rfl ?_
            refine z_aload_n 49 dX3_spin_48 rfl rfl ?_
            refine c_getI 52 0 hR fl_X3_40 (by decide) (show cLive m 0 0 from l0) (show _ = m 0 0 from rfl) dX3_spin_49 rfl ?_
            refine z_iload_n 53 dX3_spin_52 rfl rfl ?_
            refine z_iload_n 54 dX3_spin_53 rfl rfl ?_
            refine z_iconst 55 dX3_spin_54 rfl ?_
            refine z_iconst 56 dX3_spin_55 rfl ?_
            have hRb := hR
            refine z_anew (ci := 1) 59 0 rfl (by first | decide | omega) (by decide) rfl cl_X3_9 (by decide) (by decide) dX3_spin_56 rfl (fun q56 hq56 => ?_)
            replace hR := hR.new (kd := 9) (n := 0) hq56
            have hqn := sA_new (t := t) (q := q44) (kd := 1) (n := 0)
            have h0 := sA_old (kd := 9) (n := 0) hqn.1 hq56
            have hrn := sA_new (t := sA t q44 1 0) (q := q56) (kd := 9) (n := 0)
            have hR0 := hR
            refine z_callI 62 [_, _, _, _, _] la_X1_init mn_X3_45 im_X1_init rfl (c_Piece_init h0.1 (h0.2.1.trans hqn.2.1)) rfl rfl (by decide) (Nat.le_of_ble_eq_true rfl) (by decide) (by decide) dX3_spin_59 rfl (fun r0 t hq => ?_)
            obtain ⟨rfl, q1, q2, q3, hPI⟩ := hq
            have hR1 := CA.piece (pt := (fun i => m 7 (9 * m 60 0 + i))) (c := 0) hR0 (by omega) ⟨by decide, by decide⟩ hPI ⟨hrn.1, fun e => hq56 (e ▸ hqn.1), hrn.2.1, hrn.2.2.1⟩ (fun i i0 i1 => by omega) h0.1 ⟨(h0.2.2.2.1 6).trans (hqn.2.2.2.1 6), (h0.2.2.2.1 7).trans (hqn.2.2.2.1 7), (h0.2.2.2.2.1 5).trans (hqn.2.2.2.2.1 5), h0.2.2.1.trans hqn.2.2.1⟩ (hRa.fresh hq44) (hRb.fresh hq56)
            replace hR := hR1
            clear hR1 hR0
            rw [← rf_this (a := a) (N := m 60 0) (q := q44) (r := q56) (q1 := q1) (q2 := q2) (q3 := q3)]
            rw [show vR (some q44) = vR (rf (pca a (m 60 0) q44 q56 q1 q2 q3) 6 (m 60 0)) by rw [rf_new (by omega)]]
            refine z_astore (lv' := [(5, _), (4, _), (0, _), (1, _), (2, _), (3, _)]) 64 dX3_spin_62 rfl rfl rfl ?_
            refine z_aload 66 dX3_spin_64 rfl rfl ?_
            refine z_iload_n 67 dX3_spin_66 rfl rfl ?_
            refine z_iconst 68 dX3_spin_67 rfl ?_
            refine z_icmp_ne 79 71 dX3_spin_68 (by decide) rfl ⟨by omega, by omega⟩ ⟨by omega, by omega⟩ (fun h68 => ?_) (fun h68 => ?_)
            · refine z_fload 81 dX3_spin_79 rfl rfl ?_
              refine c_putF 84 51 hR fl_X3_49 (by decide) (pcm_l (by omega)) dX3_spin_81 rfl (fun t hR => ?_)
              refine z_aload 86 dX3_spin_84 rfl rfl ?_
              refine z_iload_n 87 dX3_spin_86 rfl rfl ?_
              refine z_iconst 88 dX3_spin_87 rfl ?_
              refine z_icmp_ne 97 91 dX3_spin_88 (by decide) rfl ⟨by omega, by omega⟩ ⟨by omega, by omega⟩ (fun h88 => ?_) (fun h88 => ?_)
              · refine z_iload_n 98 dX3_spin_97 rfl rfl ?_
                refine c_putI 101 50 hR fl_X3_53 (by decide) (pcm_l (by omega)) dX3_spin_98 rfl (fun t hR => ?_)
                refine z_aload_n 102 dX3_spin_101 rfl rfl ?_
                refine z_aload 104 dX3_spin_102 rfl rfl ?_
                refine z_callV 107 [_] la_X3_keep ml_X3_56 im_X3_keep se_X3_keep (hR.lv 0 0 (by decide) l0).1 (hR.lv 0 0 (by decide) l0).2.1 (by decide) rfl rfl (c_keep hR ⟨by omega, by omega⟩ ((up2_a _ _ _ _ (by decide) _).trans (pcm_0.trans h60.symm)) ((up2_a _ _ _ _ (by decide) _).trans pcm_60) ((up2_a _ _ _ _ (by decide) _).trans (pcm_56.trans h60.symm))) rfl rfl (by decide) (Nat.le_of_ble_eq_true rfl) (by decide) (by decide) dX3_spin_104 rfl (fun r t hq => ?_)
                obtain ⟨rfl, hR⟩ := hq
                refine z_ireturn rfl dX3_spin_107 (by decide) (by decide) ?_
                first
                | (exfalso; omega)
                | (have hno : ¬ new_no m n e := by unfold new_no; omega
                   refine ⟨congrArg (fun z => some (vI z)) ?_, ?_⟩
                   · unfold a_new cif; rw [if_neg hno, h60]
                   · exact cp_spin hW hX hk04 hno (by first | (rw [if_neg (by omega)]) | (rw [if_pos (by omega)])) (by first | (rw [if_neg (by omega)]; rfl) | (rw [if_pos (by omega)]; rfl)) (pca_0 (Or.inr (by decide))) hR)
              · refine z_iconst 92 dX3_spin_91 rfl ?_
                refine z_iload_n 93 dX3_spin_92 rfl rfl ?_
                refine z_imul 94 dX3_spin_93 rfl ?_
                refine z_goto 98 dX3_spin_94 (by decide) ?_
                refine c_putI 101 50 hR fl_X3_53 (by decide) (pcm_l (by omega)) dX3_spin_98 rfl (fun t hR => ?_)
                refine z_aload_n 102 dX3_spin_101 rfl rfl ?_
                refine z_aload 104 dX3_spin_102 rfl rfl ?_
                refine z_callV 107 [_] la_X3_keep ml_X3_56 im_X3_keep se_X3_keep (hR.lv 0 0 (by decide) l0).1 (hR.lv 0 0 (by decide) l0).2.1 (by decide) rfl rfl (c_keep hR ⟨by omega, by omega⟩ ((up2_a _ _ _ _ (by decide) _).trans (pcm_0.trans h60.symm)) ((up2_a _ _ _ _ (by decide) _).trans pcm_60) ((up2_a _ _ _ _ (by decide) _).trans (pcm_56.trans h60.symm))) rfl rfl (by decide) (Nat.le_of_ble_eq_true rfl) (by decide) (by decide) dX3_spin_104 rfl (fun r t hq => ?_)
                obtain ⟨rfl, hR⟩ := hq
                refine z_ireturn rfl dX3_spin_107 (by decide) (by decide) ?_
                first
                | (exfalso; omega)
                | (have hno : ¬ new_no m n e := by unfold new_no; omega
                   refine ⟨congrArg (fun z => some (vI z)) ?_, ?_⟩
                   · unfold a_new cif; rw [if_neg hno, h60]
                   · exact cp_spin hW hX hk04 hno (by first | (rw [if_neg (by omega)]) | (rw [if_pos (by omega)])) (by first | (rw [if_neg (by omega)]; rfl) | (rw [if_pos (by omega)]; rfl)) (pca_0 (Or.inr (by decide))) hR)
            · refine z_fload 73 dX3_spin_71 rfl rfl ?_
              refine z_ldcf 75 co_X3_48 dX3_spin_73 rfl ?_
              refine z_fmul 76 dX3_spin_75 rfl (tape_num ⟨e, by omega, by omega, rfl⟩) ?_
              refine z_goto 81 dX3_spin_76 (by decide) ?_
              refine c_putF 84 51 hR fl_X3_49 (by decide) (pcm_l (by omega)) dX3_spin_81 rfl (fun t hR => ?_)
              refine z_aload 86 dX3_spin_84 rfl rfl ?_
              refine z_iload_n 87 dX3_spin_86 rfl rfl ?_
              refine z_iconst 88 dX3_spin_87 rfl ?_
              refine z_icmp_ne 97 91 dX3_spin_88 (by decide) rfl ⟨by omega, by omega⟩ ⟨by omega, by omega⟩ (fun h88 => ?_) (fun h88 => ?_)
              · refine z_iload_n 98 dX3_spin_97 rfl rfl ?_
                refine c_putI 101 50 hR fl_X3_53 (by decide) (pcm_l (by omega)) dX3_spin_98 rfl (fun t hR => ?_)
                refine z_aload_n 102 dX3_spin_101 rfl rfl ?_
                refine z_aload 104 dX3_spin_102 rfl rfl ?_
                refine z_callV 107 [_] la_X3_keep ml_X3_56 im_X3_keep se_X3_keep (hR.lv 0 0 (by decide) l0).1 (hR.lv 0 0 (by decide) l0).2.1 (by decide) rfl rfl (c_keep hR ⟨by omega, by omega⟩ ((up2_a _ _ _ _ (by decide) _).trans (pcm_0.trans h60.symm)) ((up2_a _ _ _ _ (by decide) _).trans pcm_60) ((up2_a _ _ _ _ (by decide) _).trans (pcm_56.trans h60.symm))) rfl rfl (by decide) (Nat.le_of_ble_eq_true rfl) (by decide) (by decide) dX3_spin_104 rfl (fun r t hq => ?_)
                obtain ⟨rfl, hR⟩ := hq
                refine z_ireturn rfl dX3_spin_107 (by decide) (by decide) ?_
                first
                | (exfalso; omega)
                | (have hno : ¬ new_no m n e := by unfold new_no; omega
                   refine ⟨congrArg (fun z => some (vI z)) ?_, ?_⟩
                   · unfold a_new cif; rw [if_neg hno, h60]
                   · exact cp_spin hW hX hk04 hno (by first | (rw [if_neg (by omega)]) | (rw [if_pos (by omega)])) (by first | (rw [if_neg (by omega)]; rfl) | (rw [if_pos (by omega)]; rfl)) (pca_0 (Or.inr (by decide))) hR)
              · refine z_iconst 92 dX3_spin_91 rfl ?_
                refine z_iload_n 93 dX3_spin_92 rfl rfl ?_
                refine z_imul 94 dX3_spin_93 rfl ?_
                refine z_goto 98 dX3_spin_94 (by decide) ?_
                refine c_putI 101 50 hR fl_X3_53 (by decide) (pcm_l (by omega)) dX3_spin_98 rfl (fun t hR => ?_)
                refine z_aload_n 102 dX3_spin_101 rfl rfl ?_
                refine z_aload 104 dX3_spin_102 rfl rfl ?_
                refine z_callV 107 [_] la_X3_keep ml_X3_56 im_X3_keep se_X3_keep (hR.lv 0 0 (by decide) l0).1 (hR.lv 0 0 (by decide) l0).2.1 (by decide) rfl rfl (c_keep hR ⟨by omega, by omega⟩ ((up2_a _ _ _ _ (by decide) _).trans (pcm_0.trans h60.symm)) ((up2_a _ _ _ _ (by decide) _).trans pcm_60) ((up2_a _ _ _ _ (by decide) _).trans (pcm_56.trans h60.symm))) rfl rfl (by decide) (Nat.le_of_ble_eq_true rfl) (by decide) (by decide) dX3_spin_104 rfl (fun r t hq => ?_)
                obtain ⟨rfl, hR⟩ := hq
                refine z_ireturn rfl dX3_spin_107 (by decide) (by decide) ?_
                first
                | (exfalso; omega)
                | (have hno : ¬ new_no m n e := by unfold new_no; omega
                   refine ⟨congrArg (fun z => some (vI z)) ?_, ?_⟩
                   · unfold a_new cif; rw [if_neg hno, h60]
                   · exact cp_spin hW hX hk04 hno (by first | (rw [if_neg (by omega)]) | (rw [if_pos (by omega)])) (by first | (rw [if_neg (by omega)]; rfl) | (rw [if_pos (by omega)]; rfl)) (pca_0 (Or.inr (by decide))) hR)
          · refine z_bipush 36 dX3_spin_34 rfl ⟨by decide, by decide⟩ ?_
            refine z_ireturn rfl dX3_spin_36 (by decide) (by decide) ?_
            refine ⟨congrArg (fun z => some (vI z)) ?_, ?_⟩
            · unfold a_new cif new_no; rw [if_pos (by omega)]
            · have es : s_new m f k n e = (m, f) := if_pos (by unfold new_no; omega)
              rw [es]; exact CP.rf hR hX
        · refine z_bipush 24 dX3_spin_22 rfl ⟨by decide, by decide⟩ ?_
          refine z_ireturn rfl dX3_spin_24 (by decide) (by decide) ?_
          refine ⟨congrArg (fun z => some (vI z)) ?_, ?_⟩
          · unfold a_new cif new_no; rw [if_pos (by omega)]
          · have es : s_new m f k n e = (m, f) := if_pos (by unfold new_no; omega)
            rw [es]; exact CP.rf hR hX
set_option maxRecDepth 20000 in
theorem c_yarn {m : Nat → Int → Int} {f : Nat → Int → UInt32} {a : Nat → Int → Nat} {t : zT} (hR : CA m f a t) {n : Int} (hn : zi n) {e : Int} (he : zi e) (hW : WF m f) (hX : XI m f) : zM yX3_yarn cX3_yarn 3 (some .int) 3 5 38 [vR (rf a 0 0), vI n, vI e] t (fun r t1 => r = some (vI (a_new m n e)) ∧ CP (a 0 0) (s_new m f 0 n e) t1) := by
  refine zM.of2 [(0, vR (rf a 0 0)), (1, vI n), (2, vI e)] (by decide +kernel) rfl (Nat.le_of_ble_eq_true rfl) ?_
  obtain ⟨hn1, hn2⟩ := hn
  obtain ⟨he1, he2⟩ := he
  refine z_aload_n 1 dX3_yarn_0 rfl rfl ?_
  refine z_iconst 2 dX3_yarn_1 rfl ?_
  refine z_iload_n 3 dX3_yarn_2 rfl rfl ?_
  refine z_iload_n 4 dX3_yarn_3 rfl rfl ?_
  refine z_callV 7 [_, _, _] la_X3_spin ml_X3_35 im_X3_spin se_X3_spin (hR.lv 0 0 (by decide) l0).1 (hR.lv 0 0 (by decide) l0).2.1 (by decide) rfl rfl (c_spin hR ⟨by decide, by decide⟩ ⟨by omega, by omega⟩ ⟨by omega, by omega⟩ hW hX (by decide)) rfl rfl (by decide) (Nat.le_of_ble_eq_true rfl) (by decide) (by decide) dX3_yarn_4 rfl (fun r t hq => ?_)
  obtain ⟨rfl, hC⟩ := hq
  refine z_ireturn rfl dX3_yarn_7 (by decide) (by decide) ?_
  exact ⟨rfl, hC⟩
set_option maxRecDepth 20000 in
theorem c_tape {m : Nat → Int → Int} {f : Nat → Int → UInt32} {a : Nat → Int → Nat} {t : zT} (hR : CA m f a t) {n : Int} (hn : zi n) {e : Int} (he : zi e) (hW : WF m f) (hX : XI m f) : zM yX3_tape cX3_tape 3 (some .int) 3 5 38 [vR (rf a 0 0), vI n, vI e] t (fun r t1 => r = some (vI (a_new m n e)) ∧ CP (a 0 0) (s_new m f 4 n e) t1) := by
  refine zM.of2 [(0, vR (rf a 0 0)), (1, vI n), (2, vI e)] (by decide +kernel) rfl (Nat.le_of_ble_eq_true rfl) ?_
  obtain ⟨hn1, hn2⟩ := hn
  obtain ⟨he1, he2⟩ := he
  refine z_aload_n 1 dX3_tape_0 rfl rfl ?_
  refine z_iconst 2 dX3_tape_1 rfl ?_
  refine z_iload_n 3 dX3_tape_2 rfl rfl ?_
  refine z_iload_n 4 dX3_tape_3 rfl rfl ?_
  refine z_callV 7 [_, _, _] la_X3_spin ml_X3_35 im_X3_spin se_X3_spin (hR.lv 0 0 (by decide) l0).1 (hR.lv 0 0 (by decide) l0).2.1 (by decide) rfl rfl (c_spin hR ⟨by decide, by decide⟩ ⟨by omega, by omega⟩ ⟨by omega, by omega⟩ hW hX (by decide)) rfl rfl (by decide) (Nat.le_of_ble_eq_true rfl) (by decide) (by decide) dX3_tape_4 rfl (fun r t hq => ?_)
  obtain ⟨rfl, hC⟩ := hq
  refine z_ireturn rfl dX3_tape_7 (by decide) (by decide) ?_
  exact ⟨rfl, hC⟩
