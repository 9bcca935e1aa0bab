def s25 (m : Nat → Int → Int) (wg : Int → Int) : Nat → Int → Int := fun k j => if k = 25 then wg j else m k j
theorem s25_0 (m : Nat → Int → Int) : s25 m (m 25) = m := by
  funext k j; unfold s25; split
  · next h => rw [h]
  · rfl
theorem s25_u (m : Nat → Int → Int) (wg : Int → Int) (j v : Int) : up2 (s25 m wg) 25 j v = s25 m (up0 wg j v) := by
  funext k i; unfold up2 s25 up0
  by_cases hk : k = 25
  · subst hk; simp
  · simp [hk]
theorem eqs_25 {m : Nat → Int → Int} {f : Nat → Int → UInt32} {wg : Int → Int} : eqs m (s25 m wg) f f := ⟨fun i a _ _ => if_neg (by omega), fun _ _ _ _ => rfl, fun i a _ => rfl⟩
theorem wgt_0 {m : Nat → Int → Int} {w : Int → Int} {q : Int} (h : m 1 q = 0) : wgt m w q = m 2 q := by unfold wgt; rw [if_pos h]
theorem wgt_4 {m : Nat → Int → Int} {w : Int → Int} {q : Int} (h : m 1 q = 4) : wgt m w q = 2 * m 2 q := by unfold wgt; rw [if_neg (by omega), if_pos h]
theorem wgt_3 {m : Nat → Int → Int} {w : Int → Int} {q : Int} (h : m 1 q = 3) : wgt m w q = wsum m w q (m 6 q).toNat + m 2 q := by unfold wgt; rw [if_neg (by omega), if_neg (by omega), if_pos h]
theorem wgt_e {m : Nat → Int → Int} {w : Int → Int} {q : Int} (h0 : m 1 q ≠ 0) (h4 : m 1 q ≠ 4) (h3 : m 1 q ≠ 3) : wgt m w q = wsum m w q (m 6 q).toNat := by unfold wgt; rw [if_neg h0, if_neg h4, if_neg h3]
theorem r_lowest' {t : zT} {a b : Int} {w : Int} (hA : 0 ≤ a ∧ a ≤ 1000000) (hB : 0 < b ∧ b ≤ 1073741824) (hw : zi w) : zM yX4_lowest cX4_lowest 11 (some .long) 0 0 0 [vL a, vL b, vI w] t (fun r t1 => r = some (vL (low a.toNat b.toNat w)) ∧ t1 = t) := by
  obtain ⟨A, rfl⟩ := Int.eq_ofNat_of_zero_le hA.1
  obtain ⟨B, rfl⟩ := Int.eq_ofNat_of_zero_le (Int.le_of_lt hB.1)
  exact r_lowest (A := A) (B := B) (by omega) (by omega) hw
set_option maxRecDepth 20000 in
theorem r_weight {m : Nat → Int → Int} {f : Nat → Int → UInt32} {x : Nat} {g : Nat → Nat} {t : zT} (hR : RA m f x g t) {p : Int} (hW : WF m f) (hp : 0 ≤ p ∧ p < m 0 0) : zM yX4_weight cX4_weight 5 (some .int) 0 0 0 [vR (some x), vI p] t (fun r t1 => r = some (vI (wt m p)) ∧ ∃ m1 f1, RA m1 f1 x g t1 ∧ eqs m m1 f f1) := by
  refine zM.of [(0, vR (some x)), (1, vI p)] (by decide +kernel) rfl (Nat.le_of_ble_eq_true rfl) ?_
  have hn1 := hW.n.1
  have hn2 := hW.n.2
  have hpk : ∀ q, 0 ≤ q → q < m 0 0 → partsok m q := fun q a b => (hW.parts q a b).1
  have L2 : ∀ (N : Nat) (q : Int) (wg : Int → Int) (t : zT) (hR : RA (s25 m wg) f x g t) (hq : 0 ≤ q ∧ q ≤ p + 1) (hB : ∀ r, 0 ≤ r → r < q → wg r = wt m r) (hf : p + 1 - q < (N : Int)), zOK yX4_weight cX4_weight 5 (some .int) 0 0 0 (fun r t1 => r = some (vI (wt m p)) ∧ ∃ m1 f1, RA m1 f1 x g t1 ∧ eqs m m1 f f1) 0 0 2 [(2, vI q), (0, vR (some x)), (1, vI p)] [] t := by
    intro N
    induction N with
    | zero => intro q wg t hR hq hB hf; exfalso; omega
    | succ N ihL2 =>
      intro q wg t hR hq hB hf
      have hbq := fun (h : q ≤ p) => hW.b (p := q) hq.1 (by omega)
      have L12 : ∀ (N : Nat) (k : Nat) (t : zT) (hR : RA (s25 m wg) f x g t) (hqp : q ≤ p) (hk : (k : Int) ≤ m 6 q) (hf : m 6 q - k < (N : Int)), zOK yX4_weight cX4_weight 5 (some .int) 0 0 0 (fun r t1 => r = some (vI (wt m p)) ∧ ∃ m1 f1, RA m1 f1 x g t1 ∧ eqs m m1 f f1) 0 0 12 [(4, vI (k : Int)), (3, vI (wsum m wg q k)), (2, vI q), (0, vR (some x)), (1, vI p)] [] t := by
        intro N
        induction N with
        | zero => intro k t hR hqp hk hf; exfalso; omega
        | succ N ihL12 =>
          intro k t hR hqp hk hf
          have hb2 := hbq hqp
          have hpt := fun (h : (k : Int) < m 6 q) => (hpk q hq.1 (by omega)).2 k (by omega) h
          refine z_iload 14 dX4_weight_12 rfl rfl ?_
          refine z_aload_n 15 dX4_weight_14 rfl rfl ?_
          refine r_getP 18 hR fl_X4_26 (by decide) dX4_weight_15 rfl ?_
          refine z_iload_n 19 dX4_weight_18 rfl rfl ?_
          refine r_ialde 20 6 120 hR rk6 ⟨by omega, by omega⟩ (show _ = m 6 _ from rfl) dX4_weight_19 rfl ?_
          refine z_icmp_ge 49 23 dX4_weight_20 (by decide) rfl ⟨by omega, by omega⟩ ⟨by omega, by omega⟩ (fun h20 => ?_) (fun h20 => ?_)
          · refine z_aload_n 50 dX4_weight_49 rfl rfl ?_
            refine r_getP 53 hR fl_X4_75 (by decide) dX4_weight_50 rfl ?_
            refine z_iload_n 54 dX4_weight_53 rfl rfl ?_
            refine z_aload_n 55 dX4_weight_54 rfl rfl ?_
            refine r_getP 58 hR fl_X4_9 (by decide) dX4_weight_55 rfl ?_
            refine z_iload_n 59 dX4_weight_58 rfl rfl ?_
            refine r_ialde 60 1 120 hR rk1 ⟨by omega, by omega⟩ (show _ = m 1 _ from rfl) dX4_weight_59 rfl ?_
            refine z_if_ne 72 63 dX4_weight_60 (by decide) rfl ⟨by omega, by omega⟩ (fun h60 => ?_) (fun h60 => ?_)
            · refine z_aload_n 73 dX4_weight_72 rfl rfl ?_
              refine r_getP 76 hR fl_X4_9 (by decide) dX4_weight_73 rfl ?_
              refine z_iload_n 77 dX4_weight_76 rfl rfl ?_
              refine r_ialde 78 1 120 hR rk1 ⟨by omega, by omega⟩ (show _ = m 1 _ from rfl) dX4_weight_77 rfl ?_
              refine z_iconst 79 dX4_weight_78 rfl ?_
              refine z_icmp_ne 93 82 dX4_weight_79 (by decide) rfl ⟨by omega, by omega⟩ ⟨by omega, by omega⟩ (fun h79 => ?_) (fun h79 => ?_)
              · refine z_aload_n 94 dX4_weight_93 rfl rfl ?_
                refine r_getP 97 hR fl_X4_9 (by decide) dX4_weight_94 rfl ?_
                refine z_iload_n 98 dX4_weight_97 rfl rfl ?_
                refine r_ialde 99 1 120 hR rk1 ⟨by omega, by omega⟩ (show _ = m 1 _ from rfl) dX4_weight_98 rfl ?_
                refine z_iconst 100 dX4_weight_99 rfl ?_
                refine z_icmp_ne 114 103 dX4_weight_100 (by decide) rfl ⟨by omega, by omega⟩ ⟨by omega, by omega⟩ (fun h100 => ?_) (fun h100 => ?_)
                · refine z_iload_n 115 dX4_weight_114 rfl rfl ?_
                  refine r_iast 116 25 120 hR rk25 ⟨by omega, by omega⟩ dX4_weight_115 rfl (fun t hR => ?_)
                  refine z_iinc (lv' := [(2, _), (4, _), (3, _), (0, _), (1, _)]) 119 dX4_weight_116 rfl rfl rfl rfl ?_
                  refine z_goto 2 dX4_weight_119 (by decide) ?_
                  have hkk : (m 6 q).toNat = k := by omega
                  have hws := wsum_congr (w := wg) (w' := wt m) (q := q) (n := k) (fun a b c => by have hz := (hpk q hq.1 (by omega)).2 a b (by omega); exact hB _ hz.1 hz.2)
                  have hwe := wt_eq hpk hq.1 (show q < m 0 0 by omega)
                  rw [s25_u] at hR
                  refine z_sub (lv' := [(2, _), (0, _), (1, _)]) ⟨rfl, rfl, rfl, trivial⟩ ?_
                  refine ihL2 (q + 1) _ _ hR (by omega) (fun r r0 r1 => ?_) (by omega)
                  unfold up0
                  by_cases hr : r = q
                  · subst hr; rw [if_pos rfl, hwe]; first | rw [wgt_0 (by omega)] | rw [wgt_4 (by omega)] | (rw [wgt_3 (by omega), hkk, ← hws]) | (rw [wgt_e (by omega) (by omega) (by omega), hkk, ← hws])
                  · rw [if_neg hr]; exact hB r r0 (by omega)
                · refine z_iload_n 104 dX4_weight_103 rfl rfl ?_
                  refine z_aload_n 105 dX4_weight_104 rfl rfl ?_
                  refine r_getP 108 hR fl_X4_13 (by decide) dX4_weight_105 rfl ?_
                  refine z_iload_n 109 dX4_weight_108 rfl rfl ?_
                  refine r_ialde 110 2 120 hR rk2 ⟨by omega, by omega⟩ (show _ = m 2 _ from rfl) dX4_weight_109 rfl ?_
                  refine z_iadd 111 dX4_weight_110 rfl ?_
                  refine z_goto 115 dX4_weight_111 (by decide) ?_
                  refine r_iast 116 25 120 hR rk25 ⟨by omega, by omega⟩ dX4_weight_115 rfl (fun t hR => ?_)
                  refine z_iinc (lv' := [(2, _), (4, _), (3, _), (0, _), (1, _)]) 119 dX4_weight_116 rfl rfl rfl rfl ?_
                  refine z_goto 2 dX4_weight_119 (by decide) ?_
                  have hkk : (m 6 q).toNat = k := by omega
                  have hws := wsum_congr (w := wg) (w' := wt m) (q := q) (n := k) (fun a b c => by have hz := (hpk q hq.1 (by omega)).2 a b (by omega); exact hB _ hz.1 hz.2)
                  have hwe := wt_eq hpk hq.1 (show q < m 0 0 by omega)
                  rw [s25_u] at hR
                  refine z_sub (lv' := [(2, _), (0, _), (1, _)]) ⟨rfl, rfl, rfl, trivial⟩ ?_
                  refine ihL2 (q + 1) _ _ hR (by omega) (fun r r0 r1 => ?_) (by omega)
                  unfold up0
                  by_cases hr : r = q
                  · subst hr; rw [if_pos rfl, hwe]; first | rw [wgt_0 (by omega)] | rw [wgt_4 (by omega)] | (rw [wgt_3 (by omega), hkk, ← hws]) | (rw [wgt_e (by omega) (by omega) (by omega), hkk, ← hws])
                  · rw [if_neg hr]; exact hB r r0 (by omega)
              · refine z_iconst 83 dX4_weight_82 rfl ?_
                refine z_aload_n 84 dX4_weight_83 rfl rfl ?_
                refine r_getP 87 hR fl_X4_13 (by decide) dX4_weight_84 rfl ?_
                refine z_iload_n 88 dX4_weight_87 rfl rfl ?_
                refine r_ialde 89 2 120 hR rk2 ⟨by omega, by omega⟩ (show _ = m 2 _ from rfl) dX4_weight_88 rfl ?_
                refine z_imul 90 dX4_weight_89 rfl ?_
                refine z_goto 115 dX4_weight_90 (by decide) ?_
                refine r_iast 116 25 120 hR rk25 ⟨by omega, by omega⟩ dX4_weight_115 rfl (fun t hR => ?_)
                refine z_iinc (lv' := [(2, _), (4, _), (3, _), (0, _), (1, _)]) 119 dX4_weight_116 rfl rfl rfl rfl ?_
                refine z_goto 2 dX4_weight_119 (by decide) ?_
                have hkk : (m 6 q).toNat = k := by omega
                have hws := wsum_congr (w := wg) (w' := wt m) (q := q) (n := k) (fun a b c => by have hz := (hpk q hq.1 (by omega)).2 a b (by omega); exact hB _ hz.1 hz.2)
                have hwe := wt_eq hpk hq.1 (show q < m 0 0 by omega)
                rw [s25_u] at hR
                refine z_sub (lv' := [(2, _), (0, _), (1, _)]) ⟨rfl, rfl, rfl, trivial⟩ ?_
                refine ihL2 (q + 1) _ _ hR (by omega) (fun r r0 r1 => ?_) (by omega)
                unfold up0
                by_cases hr : r = q
                · subst hr; rw [if_pos rfl, hwe]; first | rw [wgt_0 (by omega)] | rw [wgt_4 (by omega)] | (rw [wgt_3 (by omega), hkk, ← hws]) | (rw [wgt_e (by omega) (by omega) (by omega), hkk, ← hws])
                · rw [if_neg hr]; exact hB r r0 (by omega)
            · refine z_aload_n 64 dX4_weight_63 rfl rfl ?_
              refine r_getP 67 hR fl_X4_13 (by decide) dX4_weight_64 rfl ?_
              refine z_iload_n 68 dX4_weight_67 rfl rfl ?_
              refine r_ialde 69 2 120 hR rk2 ⟨by omega, by omega⟩ (show _ = m 2 _ from rfl) dX4_weight_68 rfl ?_
              refine z_goto 115 dX4_weight_69 (by decide) ?_
              refine r_iast 116 25 120 hR rk25 ⟨by omega, by omega⟩ dX4_weight_115 rfl (fun t hR => ?_)
              refine z_iinc (lv' := [(2, _), (4, _), (3, _), (0, _), (1, _)]) 119 dX4_weight_116 rfl rfl rfl rfl ?_
              refine z_goto 2 dX4_weight_119 (by decide) ?_
              have hkk : (m 6 q).toNat = k := by omega
              have hws := wsum_congr (w := wg) (w' := wt m) (q := q) (n := k) (fun a b c => by have hz := (hpk q hq.1 (by omega)).2 a b (by omega); exact hB _ hz.1 hz.2)
              have hwe := wt_eq hpk hq.1 (show q < m 0 0 by omega)
              rw [s25_u] at hR
              refine z_sub (lv' := [(2, _), (0, _), (1, _)]) ⟨rfl, rfl, rfl, trivial⟩ ?_
              refine ihL2 (q + 1) _ _ hR (by omega) (fun r r0 r1 => ?_) (by omega)
              unfold up0
              by_cases hr : r = q
              · subst hr; rw [if_pos rfl, hwe]; first | rw [wgt_0 (by omega)] | rw [wgt_4 (by omega)] | (rw [wgt_3 (by omega), hkk, ← hws]) | (rw [wgt_e (by omega) (by omega) (by omega), hkk, ← hws])
              · rw [if_neg hr]; exact hB r r0 (by omega)
          · refine z_iload_n 24 dX4_weight_23 rfl rfl ?_
            refine z_aload_n 25 dX4_weight_24 rfl rfl ?_
            refine r_getP 28 hR fl_X4_75 (by decide) dX4_weight_25 rfl ?_
            refine z_aload_n 29 dX4_weight_28 rfl rfl ?_
            refine r_getP 32 hR fl_X4_29 (by decide) dX4_weight_29 rfl ?_
            refine z_bipush 34 dX4_weight_32 rfl ⟨by decide, by decide⟩ ?_
            refine z_iload_n 35 dX4_weight_34 rfl rfl ?_
            refine z_imul 36 dX4_weight_35 rfl ?_
            refine z_iload 38 dX4_weight_36 rfl rfl ?_
            refine z_iadd 39 dX4_weight_38 rfl ?_
            refine r_ialde 40 7 1080 hR rk7 ⟨by omega, by omega⟩ (show _ = m 7 _ from rfl) dX4_weight_39 rfl ?_
            refine r_ialde 41 25 120 hR rk25 ⟨by omega, by omega⟩ (show _ = wg _ from rfl) dX4_weight_40 rfl ?_
            refine z_iadd 42 dX4_weight_41 rfl ?_
            refine z_istore_n (lv' := [(3, _), (4, _), (2, _), (0, _), (1, _)]) 43 dX4_weight_42 rfl rfl rfl ?_
            refine z_iinc (lv' := [(4, _), (3, _), (2, _), (0, _), (1, _)]) 46 dX4_weight_43 rfl rfl rfl rfl ?_
            refine z_goto 12 dX4_weight_46 (by decide) ?_
            refine z_sub (lv' := [(4, _), (3, _), (2, _), (0, _), (1, _)]) ⟨rfl, rfl, rfl, rfl, rfl, trivial⟩ ?_
            exact ihL12 (k + 1) _ hR hqp (by omega) (by omega)
      refine z_iload_n 3 dX4_weight_2 rfl rfl ?_
      refine z_iload_n 4 dX4_weight_3 rfl rfl ?_
      refine z_icmp_gt 122 7 dX4_weight_4 (by decide) rfl ⟨by omega, by omega⟩ ⟨by omega, by omega⟩ (fun h4 => ?_) (fun h4 => ?_)
      · refine z_aload_n 123 dX4_weight_122 rfl rfl ?_
        refine r_getP 126 hR fl_X4_75 (by decide) dX4_weight_123 rfl ?_
        refine z_iload_n 127 dX4_weight_126 rfl rfl ?_
        refine r_ialde 128 25 120 hR rk25 ⟨by omega, by omega⟩ (show _ = wg _ from rfl) dX4_weight_127 rfl ?_
        refine z_ireturn rfl dX4_weight_128 (by decide) (by decide) ?_
        have hv := hB p (by omega) (by omega)
        exact ⟨congrArg (fun z => some (vI z)) hv, _, _, hR, eqs_25⟩
      · refine z_iconst 8 dX4_weight_7 rfl ?_
        refine z_istore_n (lv' := [(3, _), (2, _), (0, _), (1, _)]) 9 dX4_weight_8 rfl rfl rfl ?_
        refine z_iconst 10 dX4_weight_9 rfl ?_
        refine z_istore (lv' := [(4, _), (3, _), (2, _), (0, _), (1, _)]) 12 dX4_weight_10 rfl rfl rfl ?_
        refine z_sub (lv' := [(4, _), (3, _), (2, _), (0, _), (1, _)]) ⟨rfl, rfl, rfl, rfl, rfl, trivial⟩ ?_
        exact L12 10 0 _ hR (by omega) (by omega) (by omega)
  rw [← s25_0 m] at hR
  refine z_iconst 1 dX4_weight_0 rfl ?_
  refine z_istore_n (lv' := [(2, _), (0, _), (1, _)]) 2 dX4_weight_1 rfl rfl rfl ?_
  refine z_sub (lv' := [(2, _), (0, _), (1, _)]) ⟨rfl, rfl, rfl, trivial⟩ ?_
  exact L2 122 0 _ _ hR (by omega) (fun r r0 r1 => by omega) (by omega)
set_option maxRecDepth 20000 in
theorem r_of {m : Nat → Int → Int} {f : Nat → Int → UInt32} {x : Nat} {g : Nat → Nat} {t : zT} (hR : RA m f x g t) {p : Int} (hp : zi p) {w : Int} (hw : zi w) (hW : WF m f) : zM yX4_of cX4_of 3 (some .int) 1 0 0 [vR (some x), vI p, vI w] t (fun r t1 => r = some (vI (a_of m p w)) ∧ ∃ m1 f1, RA m1 f1 x g t1 ∧ eqs m m1 f f1) := by
  refine zM.of [(0, vR (some x)), (1, vI p), (2, vI w)] (by decide +kernel) rfl (Nat.le_of_ble_eq_true rfl) ?_
  obtain ⟨hp1, hp2⟩ := hp
  obtain ⟨hw1, hw2⟩ := hw
  have hn1 := hW.n.1
  have hn2 := hW.n.2
  refine z_aload_n 1 dX4_of_0 rfl rfl ?_
  refine z_iload_n 2 dX4_of_1 rfl rfl ?_
  refine z_callV 5 [_] la_X4_isPiece ml_X4_109 im_X4_isPiece se_X4_isPiece hR.1.1 hR.1.2.1 (by decide) rfl rfl (r_isPiece hR ⟨hp1, hp2⟩ hW.n) rfl rfl (by decide) (Nat.le_of_ble_eq_true rfl) (by decide) (by decide) dX4_of_2 rfl (fun r t hq => ?_)
  obtain ⟨z, rfl, hz1, hz2, hz3, hR⟩ := hq
  have hB := fun (h : z = 1) => hW.b (p := p) (by omega) (by omega)
  refine z_if_ne 11 8 dX4_of_5 (by decide) rfl ⟨by omega, by omega⟩ (fun h5 => ?_) (fun h5 => ?_)
  · refine z_iload_n 12 dX4_of_11 rfl rfl ?_
    by_cases hs12 : w < 0 ∨ 7 < w
    · refine z_swOut 115 dX4_of_12 ⟨by omega, by omega⟩ hs12 (by decide) ?_
      refine z_bipush 117 dX4_of_115 rfl ⟨by decide, by decide⟩ ?_
      refine z_ireturn rfl dX4_of_117 (by decide) (by decide) ?_
      refine ⟨congrArg (fun z => some (vI z)) ?_, _, _, hR, eqs.rf⟩
      unfold a_of cif; rw [if_neg (by omega), if_neg (by omega), if_neg (by omega), if_neg (by omega), if_neg (by omega), if_neg (by omega), if_neg (by omega), if_neg (by omega), if_neg (by omega)]
    · obtain hs12 | hs12 | hs12 | hs12 | hs12 | hs12 | hs12 | hs12 : w = 0 ∨ w = 1 ∨ w = 2 ∨ w = 3 ∨ w = 4 ∨ w = 5 ∨ w = 6 ∨ w = 7 := by omega
      · refine z_swIn 60 dX4_of_12 ⟨by omega, by omega⟩ (by omega) (by omega) (by rw [hs12]; rfl) (by decide) ?_
        refine z_aload_n 61 dX4_of_60 rfl rfl ?_
        refine r_getP 64 hR fl_X4_9 (by decide) dX4_of_61 rfl ?_
        refine z_iload_n 65 dX4_of_64 rfl rfl ?_
        refine r_iald 66 1 120 hR rk1 ⟨by omega, by omega⟩ dX4_of_65 rfl ?_
        refine z_ireturn rfl dX4_of_66 (by decide) (by decide) ?_
        refine ⟨congrArg (fun z => some (vI z)) ?_, _, _, hR, eqs.rf⟩
        unfold a_of cif; rw [if_neg (by omega), hs12]; first | done | rfl
      · refine z_swIn 67 dX4_of_12 ⟨by omega, by omega⟩ (by omega) (by omega) (by rw [hs12]; rfl) (by decide) ?_
        refine z_aload_n 68 dX4_of_67 rfl rfl ?_
        refine r_getP 71 hR fl_X4_13 (by decide) dX4_of_68 rfl ?_
        refine z_iload_n 72 dX4_of_71 rfl rfl ?_
        refine r_iald 73 2 120 hR rk2 ⟨by omega, by omega⟩ dX4_of_72 rfl ?_
        refine z_ireturn rfl dX4_of_73 (by decide) (by decide) ?_
        refine ⟨congrArg (fun z => some (vI z)) ?_, _, _, hR, eqs.rf⟩
        unfold a_of cif; rw [if_neg (by omega), hs12]; first | done | rfl
      · refine z_swIn 74 dX4_of_12 ⟨by omega, by omega⟩ (by omega) (by omega) (by rw [hs12]; rfl) (by decide) ?_
        refine z_aload_n 75 dX4_of_74 rfl rfl ?_
        refine r_getP 78 hR fl_X4_16 (by decide) dX4_of_75 rfl ?_
        refine z_iload_n 79 dX4_of_78 rfl rfl ?_
        refine r_iald 80 3 120 hR rk3 ⟨by omega, by omega⟩ dX4_of_79 rfl ?_
        refine z_ireturn rfl dX4_of_80 (by decide) (by decide) ?_
        refine ⟨congrArg (fun z => some (vI z)) ?_, _, _, hR, eqs.rf⟩
        unfold a_of cif; rw [if_neg (by omega), hs12]; first | done | rfl
      · refine z_swIn 81 dX4_of_12 ⟨by omega, by omega⟩ (by omega) (by omega) (by rw [hs12]; rfl) (by decide) ?_
        refine z_aload_n 82 dX4_of_81 rfl rfl ?_
        refine r_getP 85 hR fl_X4_19 (by decide) dX4_of_82 rfl ?_
        refine z_iload_n 86 dX4_of_85 rfl rfl ?_
        refine r_iald 87 4 120 hR rk4 ⟨by omega, by omega⟩ dX4_of_86 rfl ?_
        refine z_ireturn rfl dX4_of_87 (by decide) (by decide) ?_
        refine ⟨congrArg (fun z => some (vI z)) ?_, _, _, hR, eqs.rf⟩
        unfold a_of cif; rw [if_neg (by omega), hs12]; first | done | rfl
      · refine z_swIn 88 dX4_of_12 ⟨by omega, by omega⟩ (by omega) (by omega) (by rw [hs12]; rfl) (by decide) ?_
        refine z_aload_n 89 dX4_of_88 rfl rfl ?_
        refine r_getP 92 hR fl_X4_26 (by decide) dX4_of_89 rfl ?_
        refine z_iload_n 93 dX4_of_92 rfl rfl ?_
        refine r_iald 94 6 120 hR rk6 ⟨by omega, by omega⟩ dX4_of_93 rfl ?_
        refine z_ireturn rfl dX4_of_94 (by decide) (by decide) ?_
        refine ⟨congrArg (fun z => some (vI z)) ?_, _, _, hR, eqs.rf⟩
        unfold a_of cif; rw [if_neg (by omega), hs12]; first | done | rfl
      · refine z_swIn 95 dX4_of_12 ⟨by omega, by omega⟩ (by omega) (by omega) (by rw [hs12]; rfl) (by decide) ?_
        refine z_aload_n 96 dX4_of_95 rfl rfl ?_
        refine z_iload_n 97 dX4_of_96 rfl rfl ?_
        refine z_callV 100 [_] la_X4_weight ml_X4_139 im_X4_weight se_X4_weight hR.1.1 hR.1.2.1 (by decide) rfl rfl (r_weight hR hW ⟨by omega, by omega⟩) rfl rfl (by decide) (Nat.le_of_ble_eq_true rfl) (by decide) (by decide) dX4_of_97 rfl (fun r t hq => ?_)
        obtain ⟨rfl, m1, f1, hR, he⟩ := hq
        refine z_ireturn rfl dX4_of_100 (by decide) (by decide) ?_
        refine ⟨congrArg (fun z => some (vI z)) ?_, _, _, hR, he⟩
        unfold a_of cif; rw [if_neg (by omega), hs12]; first | done | rfl
      · refine z_swIn 101 dX4_of_12 ⟨by omega, by omega⟩ (by omega) (by omega) (by rw [hs12]; rfl) (by decide) ?_
        refine z_aload_n 102 dX4_of_101 rfl rfl ?_
        refine r_getP 105 hR fl_X4_32 (by decide) dX4_of_102 rfl ?_
        refine z_iload_n 106 dX4_of_105 rfl rfl ?_
        refine r_iald 107 8 120 hR rk8 ⟨by omega, by omega⟩ dX4_of_106 rfl ?_
        refine z_ireturn rfl dX4_of_107 (by decide) (by decide) ?_
        refine ⟨congrArg (fun z => some (vI z)) ?_, _, _, hR, eqs.rf⟩
        unfold a_of cif; rw [if_neg (by omega), hs12]; first | done | rfl
      · refine z_swIn 108 dX4_of_12 ⟨by omega, by omega⟩ (by omega) (by omega) (by rw [hs12]; rfl) (by decide) ?_
        refine z_aload_n 109 dX4_of_108 rfl rfl ?_
        refine r_getP 112 hR fl_X4_38 (by decide) dX4_of_109 rfl ?_
        refine z_iload_n 113 dX4_of_112 rfl rfl ?_
        refine r_iald 114 10 120 hR rk10 ⟨by omega, by omega⟩ dX4_of_113 rfl ?_
        refine z_ireturn rfl dX4_of_114 (by decide) (by decide) ?_
        refine ⟨congrArg (fun z => some (vI z)) ?_, _, _, hR, eqs.rf⟩
        unfold a_of cif; rw [if_neg (by omega), hs12]; first | done | rfl
  · refine z_bipush 10 dX4_of_8 rfl ⟨by decide, by decide⟩ ?_
    refine z_ireturn rfl dX4_of_10 (by decide) (by decide) ?_
    refine ⟨congrArg (fun z => some (vI z)) ?_, _, _, hR, eqs.rf⟩
    unfold a_of cif; rw [if_pos (by omega)]
set_option maxRecDepth 20000 in
theorem r_pull {m : Nat → Int → Int} {f : Nat → Int → UInt32} {x : Nat} {g : Nat → Nat} {t : zT} (hR : RA m f x g t) {l : Int} (hl : zi l) {w : Int} (hw : zi w) (hW : WF m f) : zM yX4_pull cX4_pull 5 (some .long) 1 0 0 [vR (some x), vI l, vI w] t (fun r t1 => r = some (vL (a_pull m l w)) ∧ RA m f x g t1) := by
  refine zM.of [(0, vR (some x)), (1, vI l), (2, vI w)] (by decide +kernel) rfl (Nat.le_of_ble_eq_true rfl) ?_
  obtain ⟨hl1, hl2⟩ := hl
  obtain ⟨hw1, hw2⟩ := hw
  have hn1 := hW.n.1
  have hn2 := hW.n.2
  obtain ⟨hm1, hm2, hm3⟩ := hW.2.2.2.2.2
  have hpz := prodf_z (m := m) (n := (m 23 0).toNat) (by omega) (fun k a b => hm3 k a (by omega))
  refine z_aload_n 1 dX4_pull_0 rfl rfl ?_
  refine z_aload_n 2 dX4_pull_1 rfl rfl ?_
  refine r_getI 5 hR fl_X4_146 (by decide) dX4_pull_2 rfl ?_
  refine z_callV 8 [_] la_X4_product ml_X4_236 im_X4_product se_X4_product hR.1.1 hR.1.2.1 (by decide) rfl rfl (r_product hR ⟨hm1, hm2⟩ hm3) rfl rfl (by decide) (Nat.le_of_ble_eq_true rfl) (by decide) (by decide) dX4_pull_5 rfl (fun r t hq => ?_)
  obtain ⟨rfl, hR⟩ := hq
  refine z_lstore_n (lv' := [(3, _), (0, _), (1, _), (2, _)]) 9 dX4_pull_8 rfl rfl rfl ?_
  refine z_lload_n 10 dX4_pull_9 rfl rfl ?_
  refine z_lconst (z := 0) 11 dX4_pull_10 rfl rfl ?_
  refine z_lcmp 12 dX4_pull_11 rfl ⟨by omega, by omega⟩ ⟨by omega, by omega⟩ ?_
  refine z_if_ne 19 15 dX4_pull_12 (by decide) rfl zlc_i (fun h12 => ?_) (fun h12 => ?_)
  · have hnz : ¬ prodf m (m 23 0).toNat = 0 := fun e => h12 (zlc_0.mpr e)
    refine z_iload_n 20 dX4_pull_19 rfl rfl ?_
    refine z_if_lt 38 23 dX4_pull_20 (by decide) rfl ⟨by omega, by omega⟩ (fun h20 => ?_) (fun h20 => ?_)
    · refine z_ldc2l 41 co_X4_176 dX4_pull_38 rfl ?_
      refine z_goto 51 dX4_pull_41 (by decide) ?_
      refine z_lreturn rfl dX4_pull_51 (by decide) (by decide) ?_
      refine ⟨congrArg (fun z => some (vL z)) ?_, hR⟩
      unfold a_pull
      first | rw [if_pos (by omega)] | (rw [if_neg (by omega)]; first | rw [if_pos (by omega)] | rw [if_neg (by omega)])
    · refine z_iload_n 24 dX4_pull_23 rfl rfl ?_
      refine z_ldc 26 co_X4_178 dX4_pull_24 rfl ?_
      refine z_icmp_gt 38 29 dX4_pull_26 (by decide) rfl ⟨by omega, by omega⟩ ⟨by omega, by omega⟩ (fun h26 => ?_) (fun h26 => ?_)
      · refine z_ldc2l 41 co_X4_176 dX4_pull_38 rfl ?_
        refine z_goto 51 dX4_pull_41 (by decide) ?_
        refine z_lreturn rfl dX4_pull_51 (by decide) (by decide) ?_
        refine ⟨congrArg (fun z => some (vL z)) ?_, hR⟩
        unfold a_pull
        first | rw [if_pos (by omega)] | (rw [if_neg (by omega)]; first | rw [if_pos (by omega)] | rw [if_neg (by omega)])
      · refine z_iload_n 30 dX4_pull_29 rfl rfl ?_
        refine z_if_lt 38 33 dX4_pull_30 (by decide) rfl ⟨by omega, by omega⟩ (fun h30 => ?_) (fun h30 => ?_)
        · refine z_ldc2l 41 co_X4_176 dX4_pull_38 rfl ?_
          refine z_goto 51 dX4_pull_41 (by decide) ?_
          refine z_lreturn rfl dX4_pull_51 (by decide) (by decide) ?_
          refine ⟨congrArg (fun z => some (vL z)) ?_, hR⟩
          unfold a_pull
          first | rw [if_pos (by omega)] | (rw [if_neg (by omega)]; first | rw [if_pos (by omega)] | rw [if_neg (by omega)])
        · refine z_iload_n 34 dX4_pull_33 rfl rfl ?_
          refine z_iconst 35 dX4_pull_34 rfl ?_
          refine z_icmp_le 44 38 dX4_pull_35 (by decide) rfl ⟨by omega, by omega⟩ ⟨by omega, by omega⟩ (fun h35 => ?_) (fun h35 => ?_)
          · refine z_iload_n 45 dX4_pull_44 rfl rfl ?_
            refine z_i2l 46 dX4_pull_45 rfl ⟨by omega, by omega⟩ ?_
            refine z_lload_n 47 dX4_pull_46 rfl rfl ?_
            refine z_iload_n 48 dX4_pull_47 rfl rfl ?_
            refine z_callS 51 [_, _, _] la_X4_lowest ml_X4_240 sm_X4_lowest (r_lowest' ⟨by omega, by omega⟩ ⟨by omega, by omega⟩ ⟨by omega, by omega⟩) rfl rfl (by decide) (Nat.le_of_ble_eq_true rfl) (by decide) (by decide) dX4_pull_48 rfl (fun r t1 hq => ?_)
            obtain ⟨rfl, rfl⟩ := hq
            refine z_lreturn rfl dX4_pull_51 (by decide) (by decide) ?_
            refine ⟨congrArg (fun z => some (vL z)) ?_, hR⟩
            unfold a_pull
            first | rw [if_pos (by omega)] | (rw [if_neg (by omega)]; first | rw [if_pos (by omega)] | rw [if_neg (by omega)])
          · refine z_ldc2l 41 co_X4_176 dX4_pull_38 rfl ?_
            refine z_goto 51 dX4_pull_41 (by decide) ?_
            refine z_lreturn rfl dX4_pull_51 (by decide) (by decide) ?_
            refine ⟨congrArg (fun z => some (vL z)) ?_, hR⟩
            unfold a_pull
            first | rw [if_pos (by omega)] | (rw [if_neg (by omega)]; first | rw [if_pos (by omega)] | rw [if_neg (by omega)])
  · have hnz : prodf m (m 23 0).toNat = 0 := zlc_0.mp (by omega)
    refine z_ldc2l 18 co_X4_194 dX4_pull_15 rfl ?_
    refine z_lreturn rfl dX4_pull_18 (by decide) (by decide) ?_
    refine ⟨congrArg (fun z => some (vL z)) ?_, hR⟩
    unfold a_pull
    first | rw [if_pos (by omega)] | (rw [if_neg (by omega)]; first | rw [if_pos (by omega)] | rw [if_neg (by omega)])
set_option maxRecDepth 20000 in
theorem r_stress {m : Nat → Int → Int} {f : Nat → Int → UInt32} {x : Nat} {g : Nat → Nat} {t : zT} (hR : RA m f x g t) {k : Int} (hk : zi k) {l : Int} (hl : zi l) {w : Int} (hw : zi w) (hW : WF m f) : zM yX4_stress cX4_stress 6 (some .long) 1 0 0 [vR (some x), vI k, vI l, vI w] t (fun r t1 => r = some (vL (a_stress m k l w)) ∧ RA m f x g t1) := by
  refine zM.of [(0, vR (some x)), (1, vI k), (2, vI l), (3, vI w)] (by decide +kernel) rfl (Nat.le_of_ble_eq_true rfl) ?_
  obtain ⟨hk1, hk2⟩ := hk
  obtain ⟨hl1, hl2⟩ := hl
  obtain ⟨hw1, hw2⟩ := hw
  have hn1 := hW.n.1
  have hn2 := hW.n.2
  obtain ⟨hm1, hm2, hm3⟩ := hW.2.2.2.2.2
  refine z_iload_n 1 dX4_stress_0 rfl rfl ?_
  refine z_if_lt 31 4 dX4_stress_1 (by decide) rfl ⟨by omega, by omega⟩ (fun h1 => ?_) (fun h1 => ?_)
  · refine z_ldc2l 34 co_X4_176 dX4_stress_31 rfl ?_
    refine z_lreturn rfl dX4_stress_34 (by decide) (by decide) ?_
    refine ⟨congrArg (fun z => some (vL z)) ?_, hR⟩
    unfold a_stress
    first | rw [if_pos (by omega)] | (rw [if_neg (by omega)]; first | rw [if_pos (by omega)] | rw [if_neg (by omega)])
  · refine z_iload_n 5 dX4_stress_4 rfl rfl ?_
    refine z_aload_n 6 dX4_stress_5 rfl rfl ?_
    refine r_getI 9 hR fl_X4_146 (by decide) dX4_stress_6 rfl ?_
    refine z_icmp_ge 31 12 dX4_stress_9 (by decide) rfl ⟨by omega, by omega⟩ ⟨by omega, by omega⟩ (fun h9 => ?_) (fun h9 => ?_)
    · refine z_ldc2l 34 co_X4_176 dX4_stress_31 rfl ?_
      refine z_lreturn rfl dX4_stress_34 (by decide) (by decide) ?_
      refine ⟨congrArg (fun z => some (vL z)) ?_, hR⟩
      unfold a_stress
      first | rw [if_pos (by omega)] | (rw [if_neg (by omega)]; first | rw [if_pos (by omega)] | rw [if_neg (by omega)])
    · refine z_iload_n 13 dX4_stress_12 rfl rfl ?_
      refine z_if_lt 31 16 dX4_stress_13 (by decide) rfl ⟨by omega, by omega⟩ (fun h13 => ?_) (fun h13 => ?_)
      · refine z_ldc2l 34 co_X4_176 dX4_stress_31 rfl ?_
        refine z_lreturn rfl dX4_stress_34 (by decide) (by decide) ?_
        refine ⟨congrArg (fun z => some (vL z)) ?_, hR⟩
        unfold a_stress
        first | rw [if_pos (by omega)] | (rw [if_neg (by omega)]; first | rw [if_pos (by omega)] | rw [if_neg (by omega)])
      · refine z_iload_n 17 dX4_stress_16 rfl rfl ?_
        refine z_ldc 19 co_X4_178 dX4_stress_17 rfl ?_
        refine z_icmp_gt 31 22 dX4_stress_19 (by decide) rfl ⟨by omega, by omega⟩ ⟨by omega, by omega⟩ (fun h19 => ?_) (fun h19 => ?_)
        · refine z_ldc2l 34 co_X4_176 dX4_stress_31 rfl ?_
          refine z_lreturn rfl dX4_stress_34 (by decide) (by decide) ?_
          refine ⟨congrArg (fun z => some (vL z)) ?_, hR⟩
          unfold a_stress
          first | rw [if_pos (by omega)] | (rw [if_neg (by omega)]; first | rw [if_pos (by omega)] | rw [if_neg (by omega)])
        · refine z_iload_n 23 dX4_stress_22 rfl rfl ?_
          refine z_if_lt 31 26 dX4_stress_23 (by decide) rfl ⟨by omega, by omega⟩ (fun h23 => ?_) (fun h23 => ?_)
          · refine z_ldc2l 34 co_X4_176 dX4_stress_31 rfl ?_
            refine z_lreturn rfl dX4_stress_34 (by decide) (by decide) ?_
            refine ⟨congrArg (fun z => some (vL z)) ?_, hR⟩
            unfold a_stress
            first | rw [if_pos (by omega)] | (rw [if_neg (by omega)]; first | rw [if_pos (by omega)] | rw [if_neg (by omega)])
          · refine z_iload_n 27 dX4_stress_26 rfl rfl ?_
            refine z_iconst 28 dX4_stress_27 rfl ?_
            refine z_icmp_le 35 31 dX4_stress_28 (by decide) rfl ⟨by omega, by omega⟩ ⟨by omega, by omega⟩ (fun h28 => ?_) (fun h28 => ?_)
            · refine z_aload_n 36 dX4_stress_35 rfl rfl ?_
              refine z_iload_n 37 dX4_stress_36 rfl rfl ?_
              refine z_iconst 38 dX4_stress_37 rfl ?_
              refine z_iadd 39 dX4_stress_38 rfl ?_
              refine z_callV 42 [_] la_X4_product ml_X4_236 im_X4_product se_X4_product hR.1.1 hR.1.2.1 (by decide) rfl rfl (r_product hR ⟨by omega, by omega⟩ (fun j a b => hm3 j a (by omega))) rfl rfl (by decide) (Nat.le_of_ble_eq_true rfl) (by decide) (by decide) dX4_stress_39 rfl (fun r t hq => ?_)
              obtain ⟨rfl, hR⟩ := hq
              have hpz := prodf_z (m := m) (n := (k + 1).toNat) (by omega) (fun j a b => hm3 j a (by omega))
              refine z_lstore (lv' := [(4, _), (0, _), (1, _), (2, _), (3, _)]) 44 dX4_stress_42 rfl rfl rfl ?_
              refine z_lload 46 dX4_stress_44 rfl rfl ?_
              refine z_lconst (z := 0) 47 dX4_stress_46 rfl rfl ?_
              refine z_lcmp 48 dX4_stress_47 rfl ⟨by omega, by omega⟩ ⟨by omega, by omega⟩ ?_
              refine z_if_ne 57 51 dX4_stress_48 (by decide) rfl zlc_i (fun h48 => ?_) (fun h48 => ?_)
              · have hnz : ¬ prodf m (k + 1).toNat = 0 := fun e => h48 (zlc_0.mpr e)
                refine z_iload_n 58 dX4_stress_57 rfl rfl ?_
                refine z_i2l 59 dX4_stress_58 rfl ⟨by omega, by omega⟩ ?_
                refine z_lload 61 dX4_stress_59 rfl rfl ?_
                refine z_iload_n 62 dX4_stress_61 rfl rfl ?_
                refine z_callS 65 [_, _, _] la_X4_lowest ml_X4_240 sm_X4_lowest (r_lowest' ⟨by omega, by omega⟩ ⟨by omega, by omega⟩ ⟨by omega, by omega⟩) rfl rfl (by decide) (Nat.le_of_ble_eq_true rfl) (by decide) (by decide) dX4_stress_62 rfl (fun r t1 hq => ?_)
                obtain ⟨rfl, rfl⟩ := hq
                refine z_lreturn rfl dX4_stress_65 (by decide) (by decide) ?_
                refine ⟨congrArg (fun z => some (vL z)) ?_, hR⟩
                unfold a_stress
                first | rw [if_pos (by omega)] | (rw [if_neg (by omega)]; first | rw [if_pos (by omega)] | rw [if_neg (by omega)])
              · have hnz : prodf m (k + 1).toNat = 0 := zlc_0.mp (by omega)
                refine z_ldc2l 54 co_X4_194 dX4_stress_51 rfl ?_
                refine z_goto 65 dX4_stress_54 (by decide) ?_
                refine z_lreturn rfl dX4_stress_65 (by decide) (by decide) ?_
                refine ⟨congrArg (fun z => some (vL z)) ?_, hR⟩
                unfold a_stress
                first | rw [if_pos (by omega)] | (rw [if_neg (by omega)]; first | rw [if_pos (by omega)] | rw [if_neg (by omega)])
            · refine z_ldc2l 34 co_X4_176 dX4_stress_31 rfl ?_
              refine z_lreturn rfl dX4_stress_34 (by decide) (by decide) ?_
              refine ⟨congrArg (fun z => some (vL z)) ?_, hR⟩
              unfold a_stress
              first | rw [if_pos (by omega)] | (rw [if_neg (by omega)]; first | rw [if_pos (by omega)] | rw [if_neg (by omega)])
