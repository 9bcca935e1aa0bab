set_option maxRecDepth 20000 in
theorem r_markTaken {m : Nat → Int → Int} {f : Nat → Int → UInt32} {tk : Int → Int} {x : Nat} {g : Nat → Nat} {t : zT} (hR : RA (s33 m tk) f x g t) {q : Int} (hW : WF m f) (hq6 : 0 ≤ q ∧ q < 6) : zM yX4_markTaken cX4_markTaken 4 none 0 0 0 [vR (some x), vI q] t (fun r t1 => r = none ∧ ∃ tk1, RA (s33 m tk1) f x g t1 ∧ ∀ y, 0 ≤ y → y < 2001 → 0 ≤ tk1 y ∧ tk1 y ≤ 1 ∧ (tk1 y = 1 ↔ tkn m (m 21) (m 22) q y)) := by
  refine zM.of [(0, vR (some x)), (1, vI q)] (by decide +kernel) rfl (Nat.le_of_ble_eq_true rfl) ?_
  obtain ⟨ho1, ho2, -⟩ := hW.2.2.2.2.1
  have L24 : ∀ (N : Nat) (o : Int) (tk : Int → Int) (t : zT) (hR : RA (s33 m tk) f x g t) (ho : 0 ≤ o ∧ o ≤ m 18 0) (hm : ∀ y, 0 ≤ y → y < 2001 → 0 ≤ tk y ∧ tk y ≤ 1 ∧ (tk y = 1 ↔ ∃ u, 0 ≤ u ∧ u < o ∧ m 21 u = q ∧ m 22 u ≤ y ∧ y < m 22 u + m 19 u)) (hf : m 18 0 - o < (N : Int)), zOK yX4_markTaken cX4_markTaken 4 none 0 0 0 (fun r t1 => r = none ∧ ∃ tk1, RA (s33 m tk1) f x g t1 ∧ ∀ y, 0 ≤ y → y < 2001 → 0 ≤ tk1 y ∧ tk1 y ≤ 1 ∧ (tk1 y = 1 ↔ tkn m (m 21) (m 22) q y)) 0 0 24 [(2, vI o), (0, vR (some x)), (1, vI q)] [] t := by
    intro N
    induction N with
    | zero => intro o tk t hR ho hm hf; exfalso; omega
    | succ N ihL24 =>
      intro o tk t hR ho hm hf
      have hor := fun (h : o < m 18 0) => hW.ord ho.1 h
      have L34 : ∀ (N : Nat) (j : Int) (tk : Int → Int) (t : zT) (hR : RA (s33 m tk) f x g t) (hj : 0 ≤ j ∧ j ≤ m 19 o) (ho3 : o < m 18 0) (hm : ∀ y, 0 ≤ y → y < 2001 → 0 ≤ tk y ∧ tk y ≤ 1 ∧ (tk y = 1 ↔ (∃ u, 0 ≤ u ∧ u < o ∧ m 21 u = q ∧ m 22 u ≤ y ∧ y < m 22 u + m 19 u) ∨ (m 21 o = q ∧ m 22 o ≤ y ∧ y < m 22 o + j))) (hf : m 19 o - j < (N : Int)), zOK yX4_markTaken cX4_markTaken 4 none 0 0 0 (fun r t1 => r = none ∧ ∃ tk1, RA (s33 m tk1) f x g t1 ∧ ∀ y, 0 ≤ y → y < 2001 → 0 ≤ tk1 y ∧ tk1 y ≤ 1 ∧ (tk1 y = 1 ↔ tkn m (m 21) (m 22) q y)) 0 0 34 [(3, vI j), (2, vI o), (0, vR (some x)), (1, vI q)] [] t := by
        intro N
        induction N with
        | zero => intro j tk t hR hj ho3 hm hf; exfalso; omega
        | succ N ihL34 =>
          intro j tk t hR hj ho3 hm hf
          have hor2 := hor ho3
          refine z_iload_n 35 dX4_markTaken_34 rfl rfl ?_
          refine z_aload_n 36 dX4_markTaken_35 rfl rfl ?_
          refine r_getP 39 hR fl_X4_60 (by decide) dX4_markTaken_36 rfl ?_
          refine z_iload_n 40 dX4_markTaken_39 rfl rfl ?_
          refine r_ialde 41 19 6 hR rk19 ⟨by omega, by omega⟩ (show _ = m 19 _ from rfl) dX4_markTaken_40 rfl ?_
          refine z_icmp_ge 74 44 dX4_markTaken_41 (by decide) rfl ⟨by omega, by omega⟩ ⟨by omega, by omega⟩ (fun h41 => ?_) (fun h41 => ?_)
          · refine z_iinc (lv' := [(2, _), (3, _), (0, _), (1, _)]) 77 dX4_markTaken_74 rfl rfl rfl rfl ?_
            refine z_goto 24 dX4_markTaken_77 (by decide) ?_
            refine z_sub (lv' := [(2, _), (0, _), (1, _)]) ⟨rfl, rfl, rfl, trivial⟩ ?_
            refine ihL24 (o + 1) _ _ hR (by omega) (fun y y0 y1 => ?_) (by omega)
            have hmy := hm y y0 y1
            refine ⟨hmy.1, hmy.2.1, hmy.2.2.trans ⟨fun hh => ?_, fun hh => ?_⟩⟩
            · rcases hh with ⟨u, u0, u1, u2, u3, u4⟩ | ⟨u2, u3, u4⟩
              · exact ⟨u, u0, by omega, u2, u3, u4⟩
              · exact ⟨o, by omega, by omega, u2, u3, by omega⟩
            · obtain ⟨u, u0, u1, u2, u3, u4⟩ := hh
              by_cases e : u = o
              · rw [e] at u2 u3 u4; exact Or.inr ⟨u2, u3, by omega⟩
              · exact Or.inl ⟨u, u0, by omega, u2, u3, u4⟩
          · refine z_aload_n 45 dX4_markTaken_44 rfl rfl ?_
            refine r_getP 48 hR fl_X4_66 (by decide) dX4_markTaken_45 rfl ?_
            refine z_iload_n 49 dX4_markTaken_48 rfl rfl ?_
            refine r_ialde 50 21 6 hR rk21 ⟨by omega, by omega⟩ (show _ = m 21 _ from rfl) dX4_markTaken_49 rfl ?_
            refine z_iload_n 51 dX4_markTaken_50 rfl rfl ?_
            refine z_icmp_ne 74 54 dX4_markTaken_51 (by decide) rfl ⟨by omega, by omega⟩ ⟨by omega, by omega⟩ (fun h51 => ?_) (fun h51 => ?_)
            · refine z_iinc (lv' := [(2, _), (3, _), (0, _), (1, _)]) 77 dX4_markTaken_74 rfl rfl rfl rfl ?_
              refine z_goto 24 dX4_markTaken_77 (by decide) ?_
              refine z_sub (lv' := [(2, _), (0, _), (1, _)]) ⟨rfl, rfl, rfl, trivial⟩ ?_
              refine ihL24 (o + 1) _ _ hR (by omega) (fun y y0 y1 => ?_) (by omega)
              have hmy := hm y y0 y1
              refine ⟨hmy.1, hmy.2.1, hmy.2.2.trans ⟨fun hh => ?_, fun hh => ?_⟩⟩
              · rcases hh with ⟨u, u0, u1, u2, u3, u4⟩ | ⟨u2, u3, u4⟩
                · exact ⟨u, u0, by omega, u2, u3, u4⟩
                · exact ⟨o, by omega, by omega, u2, u3, by omega⟩
              · obtain ⟨u, u0, u1, u2, u3, u4⟩ := hh
                by_cases e : u = o
                · rw [e] at u2 u3 u4; exact Or.inr ⟨u2, u3, by omega⟩
                · exact Or.inl ⟨u, u0, by omega, u2, u3, u4⟩
            · refine z_aload_n 55 dX4_markTaken_54 rfl rfl ?_
              refine r_getP 58 hR fl_X4_96 (by decide) dX4_markTaken_55 rfl ?_
              refine z_aload_n 59 dX4_markTaken_58 rfl rfl ?_
              refine r_getP 62 hR fl_X4_69 (by decide) dX4_markTaken_59 rfl ?_
              refine z_iload_n 63 dX4_markTaken_62 rfl rfl ?_
              refine r_ialde 64 22 6 hR rk22 ⟨by omega, by omega⟩ (show _ = m 22 _ from rfl) dX4_markTaken_63 rfl ?_
              refine z_iload_n 65 dX4_markTaken_64 rfl rfl ?_
              refine z_iadd 66 dX4_markTaken_65 rfl ?_
              refine z_iconst 67 dX4_markTaken_66 rfl ?_
              refine r_bast 68 33 2001 hR rk33 ⟨by omega, by omega⟩ (by first | exact Or.inl rfl | exact Or.inr rfl | omega) dX4_markTaken_67 rfl (fun t hR => ?_)
              refine z_iinc (lv' := [(3, _), (2, _), (0, _), (1, _)]) 71 dX4_markTaken_68 rfl rfl rfl rfl ?_
              refine z_goto 34 dX4_markTaken_71 (by decide) ?_
              rw [s33_u] at hR
              refine z_sub (lv' := [(3, _), (2, _), (0, _), (1, _)]) ⟨rfl, rfl, rfl, rfl, trivial⟩ ?_
              refine ihL34 (j + 1) _ _ hR (by omega) (by omega) (fun y y0 y1 => ?_) (by omega)
              have hmy := hm y y0 y1
              unfold up0
              by_cases e : y = m 22 o + j
              · rw [if_pos e]; exact ⟨by decide, by decide, fun _ => Or.inr ⟨by omega, by omega, by omega⟩, fun _ => rfl⟩
              · rw [if_neg e]
                refine ⟨hmy.1, hmy.2.1, hmy.2.2.trans ⟨fun hh => ?_, fun hh => ?_⟩⟩
                · rcases hh with hh | hh
                  · exact Or.inl hh
                  · exact Or.inr ⟨hh.1, hh.2.1, by omega⟩
                · rcases hh with hh | hh
                  · exact Or.inl hh
                  · exact Or.inr ⟨hh.1, hh.2.1, by omega⟩
      refine z_iload_n 25 dX4_markTaken_24 rfl rfl ?_
      refine z_aload_n 26 dX4_markTaken_25 rfl rfl ?_
      refine r_getIe 29 hR fl_X4_143 (by decide) (show _ = m 18 0 from rfl) dX4_markTaken_26 rfl ?_
      refine z_icmp_ge 80 32 dX4_markTaken_29 (by decide) rfl ⟨by omega, by omega⟩ ⟨by omega, by omega⟩ (fun h29 => ?_) (fun h29 => ?_)
      · refine z_return rfl dX4_markTaken_80 (by decide) (by decide) ?_
        have hoo : o = m 18 0 := by omega
        refine ⟨rfl, tk, hR, fun y y0 y1 => ?_⟩
        have hmy := hm y y0 y1
        unfold tkn
        rw [← hoo]
        exact hmy
      · refine z_iconst 33 dX4_markTaken_32 rfl ?_
        refine z_istore_n (lv' := [(3, _), (2, _), (0, _), (1, _)]) 34 dX4_markTaken_33 rfl rfl rfl ?_
        refine z_sub (lv' := [(3, _), (2, _), (0, _), (1, _)]) ⟨rfl, rfl, rfl, rfl, trivial⟩ ?_
        refine L34 2002 0 _ _ hR (by omega) (by omega) (fun y y0 y1 => ?_) (by omega)
        have hmy := hm y y0 y1
        refine ⟨hmy.1, hmy.2.1, hmy.2.2.trans ⟨fun hh => Or.inl hh, fun hh => ?_⟩⟩
        rcases hh with hh | hh
        · exact hh
        · exfalso; omega
  have L2 : ∀ (N : Nat) (k : Int) (tk : Int → Int) (t : zT) (hR : RA (s33 m tk) f x g t) (hk : 0 ≤ k ∧ k ≤ 2001) (h0 : ∀ y, 0 ≤ y → y < k → tk y = 0) (hf : 2001 - k < (N : Int)), zOK yX4_markTaken cX4_markTaken 4 none 0 0 0 (fun r t1 => r = none ∧ ∃ tk1, RA (s33 m tk1) f x g t1 ∧ ∀ y, 0 ≤ y → y < 2001 → 0 ≤ tk1 y ∧ tk1 y ≤ 1 ∧ (tk1 y = 1 ↔ tkn m (m 21) (m 22) q y)) 0 0 2 [(2, vI k), (0, vR (some x)), (1, vI q)] [] t := by
    intro N
    induction N with
    | zero => intro k tk t hR hk h0 hf; exfalso; omega
    | succ N ihL2 =>
      intro k tk t hR hk h0 hf
      refine z_iload_n 3 dX4_markTaken_2 rfl rfl ?_
      refine z_sipush 6 dX4_markTaken_3 rfl ⟨by decide, by decide⟩ ?_
      refine z_icmp_ge 22 9 dX4_markTaken_6 (by decide) rfl ⟨by omega, by omega⟩ ⟨by omega, by omega⟩ (fun h6 => ?_) (fun h6 => ?_)
      · refine z_iconst 23 dX4_markTaken_22 rfl ?_
        refine z_istore_n (lv' := [(2, _), (0, _), (1, _)]) 24 dX4_markTaken_23 rfl rfl rfl ?_
        refine z_sub (lv' := [(2, _), (0, _), (1, _)]) ⟨rfl, rfl, rfl, trivial⟩ ?_
        refine L24 8 0 _ _ hR (by omega) (fun y y0 y1 => ?_) (by omega)
        have e := h0 y y0 (by omega)
        exact ⟨by omega, by omega, fun h => by omega, fun h => by obtain ⟨u, u0, u1, -⟩ := h; omega⟩
      · refine z_aload_n 10 dX4_markTaken_9 rfl rfl ?_
        refine r_getP 13 hR fl_X4_96 (by decide) dX4_markTaken_10 rfl ?_
        refine z_iload_n 14 dX4_markTaken_13 rfl rfl ?_
        refine z_iconst 15 dX4_markTaken_14 rfl ?_
        refine r_bast 16 33 2001 hR rk33 ⟨by omega, by omega⟩ (by first | exact Or.inl rfl | exact Or.inr rfl | omega) dX4_markTaken_15 rfl (fun t hR => ?_)
        refine z_iinc (lv' := [(2, _), (0, _), (1, _)]) 19 dX4_markTaken_16 rfl rfl rfl rfl ?_
        refine z_goto 2 dX4_markTaken_19 (by decide) ?_
        rw [s33_u] at hR
        refine z_sub (lv' := [(2, _), (0, _), (1, _)]) ⟨rfl, rfl, rfl, trivial⟩ ?_
        refine ihL2 (k + 1) _ _ hR (by omega) (fun y y0 y1 => ?_) (by omega)
        unfold up0
        by_cases e : y = k
        · rw [if_pos e]
        · rw [if_neg e]; exact h0 y y0 (by omega)
  refine z_iconst 1 dX4_markTaken_0 rfl ?_
  refine z_istore_n (lv' := [(2, _), (0, _), (1, _)]) 2 dX4_markTaken_1 rfl rfl rfl ?_
  refine z_sub (lv' := [(2, _), (0, _), (1, _)]) ⟨rfl, rfl, rfl, trivial⟩ ?_
  exact L2 2003 0 _ _ hR (by omega) (fun y y0 y1 => by omega) (by omega)
set_option maxRecDepth 20000 in
theorem r_look {m : Nat → Int → Int} {f : Nat → Int → UInt32} {x : Nat} {g : Nat → Nat} {t : zT} {m1 : Nat → Int → Int} {f1 : Nat → Int → UInt32} (hR : RA m1 f1 x g t) {q : Int} (he : same m m1 f f1) (hW : WF m f) (hq6 : 0 ≤ q ∧ q < 6) (hL : LK m f f1 q) : zM yX4_look cX4_look 3 none 2 0 0 [vR (some x), vI q] t (fun r t1 => r = none ∧ ∃ m2 f2, RA m2 f2 x g t1 ∧ same m m2 f f2 ∧ LK m f f2 (q + 1)) := by
  refine zM.of [(0, vR (some x)), (1, vI q)] (by decide +kernel) rfl (Nat.le_of_ble_eq_true rfl) ?_
  have hrl := hW.rl hq6.1 hq6.2
  have hr2 := fun (h : 0 ≤ m 17 q) => (hrl.2.2 h).2
  have hn1 := hW.n.1
  have hn2 := hW.n.2
  have L2 : ∀ (fuel : Nat) (k : Int) (m1 : Nat → Int → Int) (f1 : Nat → Int → UInt32) (t : zT) (hR : RA m1 f1 x g t) (he : same m m1 f f1) (hL : LK m f f1 q) (hk : 0 ≤ k ∧ (0 ≤ m 17 q → k ≤ m 2 (m 17 q))) (hl : 0 ≤ m 17 q → ∀ w, 0 ≤ w → w < k → f1 34 (2001 * q + w) = B m f (m 17 q) w) (hf : (if 0 ≤ m 17 q then m 2 (m 17 q) - k else 0) < (fuel : Int)), zOK yX4_look cX4_look 3 none 2 0 0 (fun r t1 => r = none ∧ ∃ m2 f2, RA m2 f2 x g t1 ∧ same m m2 f f2 ∧ LK m f f2 (q + 1)) 0 0 2 [(2, vI k), (0, vR (some x)), (1, vI q)] [] t := by
    intro fuel
    induction fuel with
    | zero => intro k m1 f1 t hR he hL hk hl hf; exfalso; omega
    | succ fuel ih2 =>
      intro k m1 f1 t hR he hL hk hl hf
      refine z_aload_n 3 dX4_look_2 rfl rfl ?_
      refine r_getP 6 hR fl_X4_57 (by decide) dX4_look_3 rfl ?_
      refine z_iload_n 7 dX4_look_6 rfl rfl ?_
      refine r_ialde 8 17 6 hR rk17 ⟨by omega, by omega⟩ (show _ = m 17 _ from he.1 17 (by decide) _) dX4_look_7 rfl ?_
      refine z_if_lt 55 11 dX4_look_8 (by decide) rfl ⟨by omega, by omega⟩ (fun h8 => ?_) (fun h8 => ?_)
      · refine z_return rfl dX4_look_55 (by decide) (by decide) ?_
        refine ⟨rfl, m1, f1, hR, he, fun r r0 r1 r2 w w0 w1 => ?_⟩
        by_cases e : r = q
        · rw [e] at r2 w1 ⊢; exact hl r2 w w0 (by omega)
        · exact hL r r0 (by omega) r2 w w0 w1
      · have hlv : ∀ m1 f1, same m m1 f f1 → live m1 (m 17 q) := fun m1 f1 he => by obtain ⟨a1, a2, a3⟩ := (hrl.2.2 (by omega)).1; exact ⟨a1, by rw [he.1 0 (by decide)]; exact a2, by rw [he.1 4 (by decide)]; exact a3⟩
        refine z_iload_n 12 dX4_look_11 rfl rfl ?_
        refine z_aload_n 13 dX4_look_12 rfl rfl ?_
        refine r_getP 16 hR fl_X4_13 (by decide) dX4_look_13 rfl ?_
        refine z_aload_n 17 dX4_look_16 rfl rfl ?_
        refine r_getP 20 hR fl_X4_57 (by decide) dX4_look_17 rfl ?_
        refine z_iload_n 21 dX4_look_20 rfl rfl ?_
        refine r_ialde 22 17 6 hR rk17 ⟨by omega, by omega⟩ (show _ = m 17 _ from he.1 17 (by decide) _) dX4_look_21 rfl ?_
        refine r_ialde 23 2 120 hR rk2 ⟨by omega, by omega⟩ (show _ = m 2 _ from he.1 2 (by decide) _) dX4_look_22 rfl ?_
        refine z_icmp_ge 55 26 dX4_look_23 (by decide) rfl ⟨by omega, by omega⟩ ⟨by omega, by omega⟩ (fun h23 => ?_) (fun h23 => ?_)
        · refine z_return rfl dX4_look_55 (by decide) (by decide) ?_
          refine ⟨rfl, m1, f1, hR, he, fun r r0 r1 r2 w w0 w1 => ?_⟩
          by_cases e : r = q
          · rw [e] at r2 w1 ⊢; exact hl r2 w w0 (by omega)
          · exact hL r r0 (by omega) r2 w w0 w1
        · refine z_aload_n 27 dX4_look_26 rfl rfl ?_
          refine r_getP 30 hR fl_X4_99 (by decide) dX4_look_27 rfl ?_
          refine z_sipush 33 dX4_look_30 rfl ⟨by decide, by decide⟩ ?_
          refine z_iload_n 34 dX4_look_33 rfl rfl ?_
          refine z_imul 35 dX4_look_34 rfl ?_
          refine z_iload_n 36 dX4_look_35 rfl rfl ?_
          refine z_iadd 37 dX4_look_36 rfl ?_
          refine z_aload_n 38 dX4_look_37 rfl rfl ?_
          refine z_aload_n 39 dX4_look_38 rfl rfl ?_
          refine r_getP 42 hR fl_X4_57 (by decide) dX4_look_39 rfl ?_
          refine z_iload_n 43 dX4_look_42 rfl rfl ?_
          refine r_ialde 44 17 6 hR rk17 ⟨by omega, by omega⟩ (show _ = m 17 _ from he.1 17 (by decide) _) dX4_look_43 rfl ?_
          refine z_iload_n 45 dX4_look_44 rfl rfl ?_
          refine z_callV 48 [_, _] la_X4_bearing ml_X4_163 im_X4_bearing se_X4_bearing hR.1.1 hR.1.2.1 (by decide) rfl rfl (r_bearing hR (WF.eqs he.eqs hW) (hlv m1 f1 he) (by rw [he.1 2 (by decide)]; omega)) rfl rfl (by decide) (Nat.le_of_ble_eq_true rfl) (by decide) (by decide) dX4_look_45 rfl (fun r t hq => ?_)
          obtain ⟨rfl, pl, be, hR⟩ := hq
          rw [B_eqs he.eqs]
          have he3 : same m (s30 m1 pl) f (s31 f1 be) := same_3 he
          refine r_fast 49 34 12006 hR rk34 ⟨by omega, by omega⟩ dX4_look_48 rfl (fun t hR => ?_)
          refine z_iinc (lv' := [(2, _), (0, _), (1, _)]) 52 dX4_look_49 rfl rfl rfl rfl ?_
          refine z_goto 2 dX4_look_52 (by decide) ?_
          refine z_sub (lv' := [(2, _), (0, _), (1, _)]) ⟨rfl, rfl, rfl, trivial⟩ ?_
          exact ih2 (k + 1) _ _ _ hR (same_f (by decide) he3) (fun r r0 r1 r2 w w0 w1 => by rw [up2_k _ _ _ _ _ (by have := hW.rl r0 (show r < 6 by omega); omega)]; exact hL r r0 r1 r2 w w0 w1) (by omega) (fun hh w w0 w1 => by by_cases e : w = k; (rw [e]; exact up2_s _ _ _ _); (rw [up2_k _ _ _ _ _ (by omega)]; exact hl hh w w0 (by omega))) (by omega)
  refine z_iconst 1 dX4_look_0 rfl ?_
  refine z_istore_n (lv' := [(2, _), (0, _), (1, _)]) 2 dX4_look_1 rfl rfl rfl ?_
  refine z_sub (lv' := [(2, _), (0, _), (1, _)]) ⟨rfl, rfl, rfl, trivial⟩ ?_
  exact L2 2002 0 _ _ _ hR (he) (hL) (by omega) (fun _ w w0 w1 => by omega) (by omega)
set_option maxRecDepth 20000 in
theorem r_fit {m : Nat → Int → Int} {f : Nat → Int → UInt32} {tk : Int → Int} {x : Nat} {g : Nat → Nat} {t : zT} (hR : RA (s33 m tk) f x g t) {o q : Int} (hW : WF m f) (ho : 0 ≤ o ∧ o < m 18 0) (hq6 : 0 ≤ q ∧ q < 6) (h17 : 0 ≤ m 17 q) (hL : ∀ w, 0 ≤ w → w < m 2 (m 17 q) → f 34 (2001 * q + w) = B m f (m 17 q) w) : zM yX4_fit cX4_fit 5 (some .int) 1 0 0 [vR (some x), vI o, vI q] t (fun r t1 => r = some (vI (fitv m f (m 21) (m 22) o q)) ∧ ∃ tk1, RA (s33 m tk1) f x g t1) := by
  refine zM.of [(0, vR (some x)), (1, vI o), (2, vI q)] (by decide +kernel) rfl (Nat.le_of_ble_eq_true rfl) ?_
  have hor := hW.ord ho.1 ho.2
  have hrl := hW.rl hq6.1 hq6.2
  have hrl2 := (hrl.2.2 h17).2
  obtain ⟨ho1, ho2, -⟩ := hW.2.2.2.2.1
  have hn2 := hW.n.2
  have L10 : ∀ (fuel : Nat) (k v : Int) (tk1 : Int → Int) (t : zT) (hR : RA (s33 m tk1) f x g t) (hm : ∀ y, 0 ≤ y → y < 2001 → 0 ≤ tk1 y ∧ tk1 y ≤ 1 ∧ (tk1 y = 1 ↔ tkn m (m 21) (m 22) q y)) (hk : 0 ≤ k ∧ k ≤ m 2 (m 17 q)) (hv : 0 ≤ v ∧ v ≤ k ∧ v < m 19 o) (hg : ∀ y, k - v ≤ y → y < k → ¬ bad m f (m 21) (m 22) o q y) (hb : v < k → bad m f (m 21) (m 22) o q (k - v - 1)) (hn : ∀ s, s + m 19 o ≤ k → ¬ fits m f (m 21) (m 22) o q s) (hf : m 2 (m 17 q) - k < (fuel : Int)), zOK yX4_fit cX4_fit 5 (some .int) 1 0 0 (fun r t1 => r = some (vI (fitv m f (m 21) (m 22) o q)) ∧ ∃ tk1, RA (s33 m tk1) f x g t1) 0 0 10 [(4, vI k), (3, vI v), (0, vR (some x)), (1, vI o), (2, vI q)] [] t := by
    intro fuel
    induction fuel with
    | zero => intro k v tk1 t hR hm hk hv hg hb hn hf; exfalso; omega
    | succ fuel ih10 =>
      intro k v tk1 t hR hm hk hv hg hb hn hf
      have hmk := fun (h : k < m 2 (m 17 q)) => hm k hk.1 (by omega)
      refine z_iload 12 dX4_fit_10 rfl rfl ?_
      refine z_aload_n 13 dX4_fit_12 rfl rfl ?_
      refine r_getP 16 hR fl_X4_13 (by decide) dX4_fit_13 rfl ?_
      refine z_aload_n 17 dX4_fit_16 rfl rfl ?_
      refine r_getP 20 hR fl_X4_57 (by decide) dX4_fit_17 rfl ?_
      refine z_iload_n 21 dX4_fit_20 rfl rfl ?_
      refine r_ialde 22 17 6 hR rk17 ⟨by omega, by omega⟩ (show _ = m 17 _ from rfl) dX4_fit_21 rfl ?_
      refine r_ialde 23 2 120 hR rk2 ⟨by omega, by omega⟩ (show _ = m 2 _ from rfl) dX4_fit_22 rfl ?_
      refine z_icmp_ge 90 26 dX4_fit_23 (by decide) rfl ⟨by omega, by omega⟩ ⟨by omega, by omega⟩ (fun h23 => ?_) (fun h23 => ?_)
      · refine z_iconst 91 dX4_fit_90 rfl ?_
        refine z_ireturn rfl dX4_fit_91 (by decide) (by decide) ?_
        exact ⟨congrArg (fun z => some (vI z)) (fitv_eq (Or.inl ⟨rfl, fun s hs => hn s (by have := hs.2.1; omega) hs⟩)).symm, _, hR⟩
      · refine z_aload_n 27 dX4_fit_26 rfl rfl ?_
        refine r_getP 30 hR fl_X4_96 (by decide) dX4_fit_27 rfl ?_
        refine z_iload 32 dX4_fit_30 rfl rfl ?_
        refine r_balde 33 33 2001 hR rk33 ⟨by omega, by omega⟩ (show _ = tk1 _ from rfl) dX4_fit_32 rfl ?_
        refine z_if_ne 59 36 dX4_fit_33 (by decide) rfl (by have := hmk (by omega); exact ⟨by omega, by omega⟩) (fun h33 => ?_) (fun h33 => ?_)
        · have hbad : bad m f (m 21) (m 22) o q k := Or.inl ((hmk (by omega)).2.2.mp (by have := hmk (by omega); omega))
          refine z_iconst 60 dX4_fit_59 rfl ?_
          refine z_goto 66 dX4_fit_60 (by decide) ?_
          refine z_istore_n (lv' := [(3, _), (4, _), (0, _), (1, _), (2, _)]) 67 dX4_fit_66 rfl rfl rfl ?_
          refine z_iload_n 68 dX4_fit_67 rfl rfl ?_
          refine z_aload_n 69 dX4_fit_68 rfl rfl ?_
          refine r_getP 72 hR fl_X4_60 (by decide) dX4_fit_69 rfl ?_
          refine z_iload_n 73 dX4_fit_72 rfl rfl ?_
          refine r_ialde 74 19 6 hR rk19 ⟨by omega, by omega⟩ (show _ = m 19 _ from rfl) dX4_fit_73 rfl ?_
          refine z_icmp_ne 84 77 dX4_fit_74 (by decide) rfl ⟨by omega, by omega⟩ ⟨by omega, by omega⟩ (fun h74 => ?_) (fun h74 => ?_)
          · refine z_iinc (lv' := [(4, _), (3, _), (0, _), (1, _), (2, _)]) 87 dX4_fit_84 rfl rfl rfl rfl ?_
            refine z_goto 10 dX4_fit_87 (by decide) ?_
            refine z_sub (lv' := [(4, _), (3, _), (0, _), (1, _), (2, _)]) ⟨rfl, rfl, rfl, rfl, rfl, trivial⟩ ?_
            exact ih10 (k + 1) _ _ _ hR (hm) (by omega) (by omega) (fun y a b => by first | (exfalso; omega) | (by_cases e : y = k; (rw [e]; exact hgood); exact hg y (by omega) (by omega))) (fun a => by first | (rw [show k + 1 - 0 - 1 = k by omega]; exact hbad) | (rw [show k + 1 - (v + 1) - 1 = k - v - 1 by omega]; exact hb (by omega))) (fun s a hf => by by_cases e : s + m 19 o ≤ k; (exact hn s e hf); have h3 := hf.1; first | exact hf.2.2 k (by omega) (by omega) hbad | exact hf.2.2 (k - v - 1) (by omega) (by omega) (hb (by omega))) (by omega)
          · refine z_iload 79 dX4_fit_77 rfl rfl ?_
            refine z_iload_n 80 dX4_fit_79 rfl rfl ?_
            refine z_isub 81 dX4_fit_80 rfl ?_
            refine z_iconst 82 dX4_fit_81 rfl ?_
            refine z_iadd 83 dX4_fit_82 rfl ?_
            refine z_ireturn rfl dX4_fit_83 (by decide) (by decide) ?_
            first
            | (exfalso; omega)
            | (refine ⟨congrArg (fun z => some (vI z)) (fitv_eq (Or.inr ⟨⟨by omega, by omega, fun y a b => ?_⟩, fun s hs => hn s (by omega)⟩)).symm, _, hR⟩
               by_cases e : y = k
               · rw [e]; exact hgood
               · exact hg y (by omega) (by omega))
        · refine z_aload_n 37 dX4_fit_36 rfl rfl ?_
          refine r_getP 40 hR fl_X4_99 (by decide) dX4_fit_37 rfl ?_
          refine z_sipush 43 dX4_fit_40 rfl ⟨by decide, by decide⟩ ?_
          refine z_iload_n 44 dX4_fit_43 rfl rfl ?_
          refine z_imul 45 dX4_fit_44 rfl ?_
          refine z_iload 47 dX4_fit_45 rfl rfl ?_
          refine z_iadd 48 dX4_fit_47 rfl ?_
          refine r_fald 49 34 12006 hR rk34 ⟨by omega, by omega⟩ dX4_fit_48 rfl ?_
          refine z_top (w := vF (B m f (m 17 q) k)) (congrArg vF (hL k (by omega) (by omega))) ?_
          refine z_aload_n 50 dX4_fit_49 rfl rfl ?_
          refine r_getP 53 hR fl_X4_63 (by decide) dX4_fit_50 rfl ?_
          refine z_iload_n 54 dX4_fit_53 rfl rfl ?_
          refine r_fald 55 20 6 hR rk20 ⟨by omega, by omega⟩ dX4_fit_54 rfl ?_
          refine z_fcmp 56 dX4_fit_55 rfl ?_
          refine z_if_ge 63 59 dX4_fit_56 (by decide) rfl zfc_i (fun h56 => ?_) (fun h56 => ?_)
          · have hgood : ¬ bad m f (m 21) (m 22) o q k := by
              rintro (hh | hh)
              · have := (hmk (by omega)).2.2.mpr hh; omega
              · omega
            refine z_iload_n 64 dX4_fit_63 rfl rfl ?_
            refine z_iconst 65 dX4_fit_64 rfl ?_
            refine z_iadd 66 dX4_fit_65 rfl ?_
            refine z_istore_n (lv' := [(3, _), (4, _), (0, _), (1, _), (2, _)]) 67 dX4_fit_66 rfl rfl rfl ?_
            refine z_iload_n 68 dX4_fit_67 rfl rfl ?_
            refine z_aload_n 69 dX4_fit_68 rfl rfl ?_
            refine r_getP 72 hR fl_X4_60 (by decide) dX4_fit_69 rfl ?_
            refine z_iload_n 73 dX4_fit_72 rfl rfl ?_
            refine r_ialde 74 19 6 hR rk19 ⟨by omega, by omega⟩ (show _ = m 19 _ from rfl) dX4_fit_73 rfl ?_
            refine z_icmp_ne 84 77 dX4_fit_74 (by decide) rfl ⟨by omega, by omega⟩ ⟨by omega, by omega⟩ (fun h74 => ?_) (fun h74 => ?_)
            · refine z_iinc (lv' := [(4, _), (3, _), (0, _), (1, _), (2, _)]) 87 dX4_fit_84 rfl rfl rfl rfl ?_
              refine z_goto 10 dX4_fit_87 (by decide) ?_
              refine z_sub (lv' := [(4, _), (3, _), (0, _), (1, _), (2, _)]) ⟨rfl, rfl, rfl, rfl, rfl, trivial⟩ ?_
              exact ih10 (k + 1) _ _ _ hR (hm) (by omega) (by omega) (fun y a b => by first | (exfalso; omega) | (by_cases e : y = k; (rw [e]; exact hgood); exact hg y (by omega) (by omega))) (fun a => by first | (rw [show k + 1 - 0 - 1 = k by omega]; exact hbad) | (rw [show k + 1 - (v + 1) - 1 = k - v - 1 by omega]; exact hb (by omega))) (fun s a hf => by by_cases e : s + m 19 o ≤ k; (exact hn s e hf); have h3 := hf.1; first | exact hf.2.2 k (by omega) (by omega) hbad | exact hf.2.2 (k - v - 1) (by omega) (by omega) (hb (by omega))) (by omega)
            · refine z_iload 79 dX4_fit_77 rfl rfl ?_
              refine z_iload_n 80 dX4_fit_79 rfl rfl ?_
              refine z_isub 81 dX4_fit_80 rfl ?_
              refine z_iconst 82 dX4_fit_81 rfl ?_
              refine z_iadd 83 dX4_fit_82 rfl ?_
              refine z_ireturn rfl dX4_fit_83 (by decide) (by decide) ?_
              first
              | (exfalso; omega)
              | (refine ⟨congrArg (fun z => some (vI z)) (fitv_eq (Or.inr ⟨⟨by omega, by omega, fun y a b => ?_⟩, fun s hs => hn s (by omega)⟩)).symm, _, hR⟩
                 by_cases e : y = k
                 · rw [e]; exact hgood
                 · exact hg y (by omega) (by omega))
          · have hbad : bad m f (m 21) (m 22) o q k := Or.inr (by omega)
            refine z_iconst 60 dX4_fit_59 rfl ?_
            refine z_goto 66 dX4_fit_60 (by decide) ?_
            refine z_istore_n (lv' := [(3, _), (4, _), (0, _), (1, _), (2, _)]) 67 dX4_fit_66 rfl rfl rfl ?_
            refine z_iload_n 68 dX4_fit_67 rfl rfl ?_
            refine z_aload_n 69 dX4_fit_68 rfl rfl ?_
            refine r_getP 72 hR fl_X4_60 (by decide) dX4_fit_69 rfl ?_
            refine z_iload_n 73 dX4_fit_72 rfl rfl ?_
            refine r_ialde 74 19 6 hR rk19 ⟨by omega, by omega⟩ (show _ = m 19 _ from rfl) dX4_fit_73 rfl ?_
            refine z_icmp_ne 84 77 dX4_fit_74 (by decide) rfl ⟨by omega, by omega⟩ ⟨by omega, by omega⟩ (fun h74 => ?_) (fun h74 => ?_)
            · refine z_iinc (lv' := [(4, _), (3, _), (0, _), (1, _), (2, _)]) 87 dX4_fit_84 rfl rfl rfl rfl ?_
              refine z_goto 10 dX4_fit_87 (by decide) ?_
              refine z_sub (lv' := [(4, _), (3, _), (0, _), (1, _), (2, _)]) ⟨rfl, rfl, rfl, rfl, rfl, trivial⟩ ?_
              exact ih10 (k + 1) _ _ _ hR (hm) (by omega) (by omega) (fun y a b => by first | (exfalso; omega) | (by_cases e : y = k; (rw [e]; exact hgood); exact hg y (by omega) (by omega))) (fun a => by first | (rw [show k + 1 - 0 - 1 = k by omega]; exact hbad) | (rw [show k + 1 - (v + 1) - 1 = k - v - 1 by omega]; exact hb (by omega))) (fun s a hf => by by_cases e : s + m 19 o ≤ k; (exact hn s e hf); have h3 := hf.1; first | exact hf.2.2 k (by omega) (by omega) hbad | exact hf.2.2 (k - v - 1) (by omega) (by omega) (hb (by omega))) (by omega)
            · refine z_iload 79 dX4_fit_77 rfl rfl ?_
              refine z_iload_n 80 dX4_fit_79 rfl rfl ?_
              refine z_isub 81 dX4_fit_80 rfl ?_
              refine z_iconst 82 dX4_fit_81 rfl ?_
              refine z_iadd 83 dX4_fit_82 rfl ?_
              refine z_ireturn rfl dX4_fit_83 (by decide) (by decide) ?_
              first
              | (exfalso; omega)
              | (refine ⟨congrArg (fun z => some (vI z)) (fitv_eq (Or.inr ⟨⟨by omega, by omega, fun y a b => ?_⟩, fun s hs => hn s (by omega)⟩)).symm, _, hR⟩
                 by_cases e : y = k
                 · rw [e]; exact hgood
                 · exact hg y (by omega) (by omega))
  refine z_iconst 1 dX4_fit_0 rfl ?_
  refine z_istore_n (lv' := [(3, _), (0, _), (1, _), (2, _)]) 2 dX4_fit_1 rfl rfl rfl ?_
  refine z_aload_n 3 dX4_fit_2 rfl rfl ?_
  refine z_iload_n 4 dX4_fit_3 rfl rfl ?_
  refine z_callV 7 [_] la_X4_markTaken ml_X4_214 im_X4_markTaken se_X4_markTaken hR.1.1 hR.1.2.1 (by decide) rfl rfl (r_markTaken hR hW hq6) rfl rfl (by decide) (Nat.le_of_ble_eq_true rfl) (by decide) (by decide) dX4_fit_4 rfl (fun r t hq => ?_)
  obtain ⟨rfl, tk1, hR, hm⟩ := hq
  refine z_iconst 8 dX4_fit_7 rfl ?_
  refine z_istore (lv' := [(4, _), (3, _), (0, _), (1, _), (2, _)]) 10 dX4_fit_8 rfl rfl rfl ?_
  refine z_sub (lv' := [(4, _), (3, _), (0, _), (1, _), (2, _)]) ⟨rfl, rfl, rfl, rfl, rfl, trivial⟩ ?_
  exact L10 2002 0 0 _ _ hR (hm) (by omega) (by omega) (fun y a b => by omega) (fun a => by omega) (fun s a hf => by have := hf.1; omega) (by omega)
