/-- as m, but for what serves tries out -/
def trial (m m1 : Nat → Int → Int) : Prop := (∀ k, k < 25 → k ≠ 21 → k ≠ 22 → m1 k = m k) ∧ (∀ j, (j < 0 ∨ m 18 0 ≤ j ∨ 0 ≤ m 21 j) → m1 21 j = m 21 j ∧ m1 22 j = m 22 j) ∧ ∀ j, 0 ≤ j → j < m 18 0 → m1 35 j = m 21 j
theorem trial.cut {m m1 : Nat → Int → Int} (h : trial m m1) {o v : Int} (ho : 0 ≤ o ∧ o < m 18 0) (h21 : m 21 o < 0) {tk : Int → Int} : trial m (s33 (cutup m1 o v) tk) := by
  obtain ⟨a, b, c⟩ := h
  refine ⟨fun k hk h1 h2 => ?_, fun j hj => ?_, fun j j0 j1 => ?_⟩
  · funext i
    rw [show s33 (cutup m1 o v) tk k i = cutup m1 o v k i from if_neg (by omega), cutup_e h1 h2, a k hk h1 h2]
  · have hne : j ≠ o := fun e => by rw [e] at hj; omega
    rw [show s33 (cutup m1 o v) tk 21 j = cutup m1 o v 21 j from if_neg (by decide), show s33 (cutup m1 o v) tk 22 j = cutup m1 o v 22 j from if_neg (by decide)]
    by_cases hv : 0 ≤ v
    · rw [cutup_21 hv, cutup_22 hv]
      unfold up0
      rw [if_neg hne, if_neg hne]; exact b j hj
    · unfold cutup; rw [if_pos (by omega)]; exact b j hj
  · rw [show s33 (cutup m1 o v) tk 35 j = cutup m1 o v 35 j from if_neg (by decide), cutup_e (by decide) (by decide)]
    exact c j j0 j1
theorem srv_s {m : Nat → Int → Int} {f : Nat → Int → UInt32} {s : Int} {cr cp : Int → Int} {k : Nat} {c : (Int → Int) × (Int → Int)} (h : srv m f s cr cp k = some c) : srv m f s cr cp (k + 1) = cif (0 ≤ c.1 (k : Int)) (some c) (cif (ff m f c.1 c.2 (k : Int) s 6 < 0) none (some (up0 c.1 (k : Int) (ff m f c.1 c.2 (k : Int) s 6 / 10000), up0 c.2 (k : Int) (ff m f c.1 c.2 (k : Int) s 6 % 10000)))) := by
  show (match srv m f s cr cp k with | none => none | some c => _) = _
  rw [h]
set_option maxRecDepth 20000 in
theorem r_serves {m : Nat → Int → Int} {f : Nat → Int → UInt32} {x : Nat} {g : Nat → Nat} {t : zT} (hR : RA m f x g t) {s : Int} (hW : WF m f) (hs : 0 ≤ s ∧ s < 64) (hsb : ∀ r, 0 ≤ r → r < 6 → bit s r → 0 ≤ m 17 r) (hL : LK m f f 6) : zM yX4_serves cX4_serves 4 (some .boolean) 3 0 0 [vR (some x), vI s] t (fun r t1 => ∃ z m1, r = some (vI z) ∧ 0 ≤ z ∧ z ≤ 1 ∧ (z = 1 ↔ srv m f s (m 21) (m 22) (m 18 0).toNat ≠ none) ∧ RA m1 f x g t1 ∧ eqs m m1 f f) := by
  refine zM.of [(0, vR (some x)), (1, vI s)] (by decide +kernel) rfl (Nat.le_of_ble_eq_true rfl) ?_
  obtain ⟨ho1, ho2, -⟩ := hW.2.2.2.2.1
  have hor := fun (o : Int) (h0 : 0 ≤ o) (h1 : o < m 18 0) => hW.ord h0 h1
  have L76 : ∀ (N : Nat) (k : Int) (z : Int) (m1 : Nat → Int → Int) (t : zT) (hR : RA m1 f x g t) (hk : 0 ≤ k ∧ k ≤ m 18 0) (hz : 0 ≤ z ∧ z ≤ 1) (hz3 : z = 1 ↔ srv m f s (m 21) (m 22) (m 18 0).toNat ≠ none) (ht : trial m m1) (h21 : ∀ j, 0 ≤ j → j < k → m1 21 j = m 21 j) (hf : m 18 0 - k < (N : Int)), zOK yX4_serves cX4_serves 4 (some .boolean) 3 0 0 (fun r t1 => ∃ z m1, r = some (vI z) ∧ 0 ≤ z ∧ z ≤ 1 ∧ (z = 1 ↔ srv m f s (m 21) (m 22) (m 18 0).toNat ≠ none) ∧ RA m1 f x g t1 ∧ eqs m m1 f f) 0 0 76 [(3, vI k), (2, vI z), (0, vR (some x)), (1, vI s)] [] t := by
    intro N
    induction N with
    | zero => intro k z m1 t hR hk hz hz3 ht h21 hf; exfalso; omega
    | succ N ihL76 =>
      intro k z m1 t hR hk hz hz3 ht h21 hf
      refine z_iload_n 77 dX4_serves_76 rfl rfl ?_
      refine z_aload_n 78 dX4_serves_77 rfl rfl ?_
      refine r_getIe 81 hR fl_X4_143 (by decide) (show _ = m 18 _ from congrFun (ht.1 18 (by decide) (by decide) (by decide)) _) dX4_serves_78 rfl ?_
      refine z_icmp_ge 102 84 dX4_serves_81 (by decide) rfl ⟨by omega, by omega⟩ ⟨by omega, by omega⟩ (fun h81 => ?_) (fun h81 => ?_)
      · refine z_iload_n 103 dX4_serves_102 rfl rfl ?_
        refine z_zreturn rfl (by first | exact Or.inl rfl | exact Or.inr rfl | omega) dX4_serves_103 (by decide) (by decide) ?_
        have hkk : k = m 18 0 := by omega
        refine ⟨z, m1, rfl, hz.1, hz.2, hz3, hR, fun i hi h22 j => ?_, fun o o0 o1 o2 => (ht.2.1 o (by omega)).2, fun _ _ _ => rfl⟩
        by_cases hi21 : i = 21
        · subst hi21
          by_cases hj : 0 ≤ j ∧ j < m 18 0
          · exact h21 j hj.1 (by omega)
          · exact (ht.2.1 j (by omega)).1
        · exact congrFun (ht.1 i hi hi21 h22) j
      · refine z_aload_n 85 dX4_serves_84 rfl rfl ?_
        refine r_getP 88 hR fl_X4_66 (by decide) dX4_serves_85 rfl ?_
        refine z_iload_n 89 dX4_serves_88 rfl rfl ?_
        refine z_aload_n 90 dX4_serves_89 rfl rfl ?_
        refine r_getP 93 hR fl_X4_102 (by decide) dX4_serves_90 rfl ?_
        refine z_iload_n 94 dX4_serves_93 rfl rfl ?_
        refine r_ialde 95 35 6 hR rk35 ⟨by omega, by omega⟩ (show _ = m 21 k from (ht.2.2 k (by omega) (by omega))) dX4_serves_94 rfl ?_
        refine r_iast 96 21 6 hR rk21 ⟨by omega, by omega⟩ dX4_serves_95 rfl (fun t hR => ?_)
        refine z_iinc (lv' := [(3, _), (2, _), (0, _), (1, _)]) 99 dX4_serves_96 rfl rfl rfl rfl ?_
        refine z_goto 76 dX4_serves_99 (by decide) ?_
        refine z_sub (lv' := [(3, _), (2, _), (0, _), (1, _)]) ⟨rfl, rfl, rfl, rfl, trivial⟩ ?_
        refine ihL76 (k + 1) z _ _ hR (by omega) hz hz3 ⟨fun i hi h1 h2 => ?_, fun j hj => ?_, fun j j0 j1 => ?_⟩ (fun j j0 j1 => ?_) (by omega)
        · funext i'; rw [up2_a _ _ _ _ h1]; rw [ht.1 i hi h1 h2]
        · rw [up_ite, up2_a _ _ _ _ (by decide)]; refine ⟨?_, (ht.2.1 j hj).2⟩; split; (next e => rw [e]); exact (ht.2.1 j hj).1
        · rw [up2_a _ _ _ _ (by decide)]; exact ht.2.2 j j0 j1
        · rw [up_ite]; split; (next e => rw [e]); exact h21 j j0 (by omega)
  have L32 : ∀ (N : Nat) (k : Nat) (z : Int) (m1 : Nat → Int → Int) (t : zT) (hR : RA m1 f x g t) (hk : (k : Int) ≤ m 18 0) (hW1 : WF m1 f) (hz : (z = 1 ∧ srv m f s (m 21) (m 22) k = some (m1 21, m1 22)) ∨ (z = 0 ∧ srv m f s (m 21) (m 22) k = none)) (ht : trial m m1) (hkp : ∀ j, (k : Int) ≤ j → m1 21 j = m 21 j) (hf : m 18 0 - k < (N : Int)), zOK yX4_serves cX4_serves 4 (some .boolean) 3 0 0 (fun r t1 => ∃ z m1, r = some (vI z) ∧ 0 ≤ z ∧ z ≤ 1 ∧ (z = 1 ↔ srv m f s (m 21) (m 22) (m 18 0).toNat ≠ none) ∧ RA m1 f x g t1 ∧ eqs m m1 f f) 0 0 32 [(3, vI (k : Int)), (2, vI z), (0, vR (some x)), (1, vI s)] [] t := by
    intro N
    induction N with
    | zero => intro k z m1 t hR hk hW1 hz ht hkp hf; exfalso; omega
    | succ N ihL32 =>
      intro k z m1 t hR hk hW1 hz ht hkp hf
      have hff : ff m1 f = ff m f := ff_cong (fun i hi => ht.1 i (by omega) (by omega) (by omega)) (fun _ _ => rfl)
      have hor1 := fun (h : (k : Int) < m 18 0) => hor k (by omega) h
      have hk1 := hkp k (Int.le_refl _)
      have hL1 : LK m1 f f 6 := by unfold LK; rw [ht.1 17 (by decide) (by decide) (by decide), ht.1 2 (by decide) (by decide) (by decide), B_cong (fun i hi => ht.1 i (by omega) (by omega) (by omega)) (fun _ _ => rfl)]; exact hL
      refine z_iload_n 33 dX4_serves_32 rfl rfl ?_
      refine z_aload_n 34 dX4_serves_33 rfl rfl ?_
      refine r_getIe 37 hR fl_X4_143 (by decide) (show _ = m 18 _ from congrFun (ht.1 18 (by decide) (by decide) (by decide)) _) dX4_serves_34 rfl ?_
      refine z_icmp_ge 74 40 dX4_serves_37 (by decide) rfl ⟨by omega, by omega⟩ ⟨by omega, by omega⟩ (fun h37 => ?_) (fun h37 => ?_)
      · refine z_iconst 75 dX4_serves_74 rfl ?_
        refine z_istore_n (lv' := [(3, _), (2, _), (0, _), (1, _)]) 76 dX4_serves_75 rfl rfl rfl ?_
        refine z_sub (lv' := [(3, _), (2, _), (0, _), (1, _)]) ⟨rfl, rfl, rfl, rfl, trivial⟩ ?_
        refine L76 8 0 z m1 _ hR (by omega) (by omega) ?_ ht (fun j j0 j1 => by omega) (by omega)
        rcases hz with ⟨e1, e2⟩ | ⟨e1, e2⟩
        · have hkk : (m 18 0).toNat = k := by omega
          rw [hkk, e2]
          exact ⟨fun _ => Option.some_ne_none _, fun _ => e1⟩
        · rw [srv_0 e2 (m 18 0).toNat (by omega)]
          exact ⟨fun h => by omega, fun h => absurd rfl h⟩
      · refine z_iload_n 41 dX4_serves_40 rfl rfl ?_
        refine z_if_eq 74 44 dX4_serves_41 (by decide) rfl ⟨by omega, by omega⟩ (fun h41 => ?_) (fun h41 => ?_)
        · refine z_iconst 75 dX4_serves_74 rfl ?_
          refine z_istore_n (lv' := [(3, _), (2, _), (0, _), (1, _)]) 76 dX4_serves_75 rfl rfl rfl ?_
          refine z_sub (lv' := [(3, _), (2, _), (0, _), (1, _)]) ⟨rfl, rfl, rfl, rfl, trivial⟩ ?_
          refine L76 8 0 z m1 _ hR (by omega) (by omega) ?_ ht (fun j j0 j1 => by omega) (by omega)
          rcases hz with ⟨e1, e2⟩ | ⟨e1, e2⟩
          · have hkk : (m 18 0).toNat = k := by omega
            rw [hkk, e2]
            exact ⟨fun _ => Option.some_ne_none _, fun _ => e1⟩
          · rw [srv_0 e2 (m 18 0).toNat (by omega)]
            exact ⟨fun h => by omega, fun h => absurd rfl h⟩
        · have hz1 : z = 1 := by omega
          have hs2 := srv_s ((hz.resolve_right (by omega)).2)
          refine z_aload_n 45 dX4_serves_44 rfl rfl ?_
          refine r_getP 48 hR fl_X4_66 (by decide) dX4_serves_45 rfl ?_
          refine z_iload_n 49 dX4_serves_48 rfl rfl ?_
          refine r_iald 50 21 6 hR rk21 ⟨by omega, by omega⟩ dX4_serves_49 rfl ?_
          refine z_if_ge 62 53 dX4_serves_50 (by decide) rfl ⟨by omega, by omega⟩ (fun h50 => ?_) (fun h50 => ?_)
          · have hW2 := hW1
            have ht2 := ht
            have hkp2 : ∀ j, ((k + 1 : Nat) : Int) ≤ j → m1 21 j = m 21 j := fun j hj => hkp j (by omega)
            have hz2 : ((1 : Int) = 1 ∧ srv m f s (m 21) (m 22) (k + 1) = some (m1 21, m1 22)) ∨ ((1 : Int) = 0 ∧ srv m f s (m 21) (m 22) (k + 1) = none) := Or.inl ⟨rfl, by rw [hs2]; exact if_pos (show 0 ≤ m1 21 k by omega)⟩
            refine z_iconst 63 dX4_serves_62 rfl ?_
            refine z_goto 67 dX4_serves_63 (by decide) ?_
            refine z_istore_n (lv' := [(2, _), (3, _), (0, _), (1, _)]) 68 dX4_serves_67 rfl rfl rfl ?_
            refine z_iinc (lv' := [(3, _), (2, _), (0, _), (1, _)]) 71 dX4_serves_68 rfl rfl rfl rfl ?_
            refine z_goto 32 dX4_serves_71 (by decide) ?_
            refine z_sub (lv' := [(3, _), (2, _), (0, _), (1, _)]) ⟨rfl, rfl, rfl, rfl, trivial⟩ ?_
            first | exact ihL32 (k + 1) _ _ _ hR (by omega) hW2 hz2 ht2 hkp2 (by omega)
          · refine z_aload_n 54 dX4_serves_53 rfl rfl ?_
            refine z_iload_n 55 dX4_serves_54 rfl rfl ?_
            refine z_iload_n 56 dX4_serves_55 rfl rfl ?_
            rw [← s33_0 m1] at hR
            have hm33 : s33 m1 (m1 33) = m1 := s33_0 m1
            refine z_callV 59 [_, _] la_X4_cutFrom ml_X4_229 im_X4_cutFrom se_X4_cutFrom hR.1.1 hR.1.2.1 (by decide) rfl rfl (r_cutFrom hR hW1 (by rw [ht.1 18 (by decide) (by decide) (by decide)]; exact ⟨by omega, by omega⟩) hs (by rw [ht.1 17 (by decide) (by decide) (by decide)]; exact hsb) hL1) rfl rfl (by decide) (Nat.le_of_ble_eq_true rfl) (by decide) (by decide) dX4_serves_56 rfl (fun r t hq => ?_)
            obtain ⟨zc, tk1, rfl, hc1, hc2, hc3, hR⟩ := hq
            rw [hff] at hc3 hR
            have hb := ff_b hW (cr := m1 21) (cp := m1 22) (o := k) (s := s) (by omega) hsb (Nat.le_refl 6)
            have ht2 : trial m (s33 (cutup m1 k (ff m f (m1 21) (m1 22) k s 6)) tk1) := ht.cut ⟨by omega, by omega⟩ (by omega)
            have hW2 : WF (s33 (cutup m1 k (ff m f (m1 21) (m1 22) k s 6)) tk1) f := WF.eqs eqs_33 (hW1.cutu (by rw [ht.1 18 (by decide) (by decide) (by decide)]; exact ⟨by omega, by omega⟩) (fun h0 => by
              obtain ⟨b1, b2, b3, b4, b5, b6⟩ := hb.resolve_left (by omega)
              have hfv := (fitv_b (m := m) (f := f) (cr := m1 21) (cp := m1 22) (o := k) (r := ff m f (m1 21) (m1 22) k s 6 / 10000)).2 (by omega)
              rw [ht.1 17 (by decide) (by decide) (by decide), ht.1 19 (by decide) (by decide) (by decide), ht.1 2 (by decide) (by decide) (by decide)]
              exact ⟨b3, hsb _ b2 b3 b5, by omega⟩))
            have hkp2 : ∀ j, ((k + 1 : Nat) : Int) ≤ j → s33 (cutup m1 k (ff m f (m1 21) (m1 22) k s 6)) tk1 21 j = m 21 j := fun j hj => by
              rw [show s33 (cutup m1 k (ff m f (m1 21) (m1 22) k s 6)) tk1 21 j = cutup m1 k (ff m f (m1 21) (m1 22) k s 6) 21 j from if_neg (by decide)]
              by_cases h0 : 0 ≤ ff m f (m1 21) (m1 22) k s 6
              · rw [cutup_21 h0]; unfold up0; rw [if_neg (by omega)]; exact hkp j (by omega)
              · unfold cutup; rw [if_pos (by omega)]; exact hkp j (by omega)
            refine z_if_eq 66 62 dX4_serves_59 (by decide) rfl ⟨by omega, by omega⟩ (fun h59 => ?_) (fun h59 => ?_)
            · have hz2 : ((0 : Int) = 1 ∧ srv m f s (m 21) (m 22) (k + 1) = some (s33 (cutup m1 k (ff m f (m1 21) (m1 22) k s 6)) tk1 21, s33 (cutup m1 k (ff m f (m1 21) (m1 22) k s 6)) tk1 22)) ∨ ((0 : Int) = 0 ∧ srv m f s (m 21) (m 22) (k + 1) = none) := by
                refine Or.inr ⟨rfl, ?_⟩
                rw [hs2]
                refine (if_neg (show ¬ 0 ≤ m1 21 k by omega)).trans ?_
                exact if_pos (show ff m f (m1 21) (m1 22) k s 6 < 0 by omega)
              refine z_iconst 67 dX4_serves_66 rfl ?_
              refine z_istore_n (lv' := [(2, _), (3, _), (0, _), (1, _)]) 68 dX4_serves_67 rfl rfl rfl ?_
              refine z_iinc (lv' := [(3, _), (2, _), (0, _), (1, _)]) 71 dX4_serves_68 rfl rfl rfl rfl ?_
              refine z_goto 32 dX4_serves_71 (by decide) ?_
              refine z_sub (lv' := [(3, _), (2, _), (0, _), (1, _)]) ⟨rfl, rfl, rfl, rfl, trivial⟩ ?_
              first | exact ihL32 (k + 1) _ _ _ hR (by omega) hW2 hz2 ht2 hkp2 (by omega)
            · have hz2 : ((1 : Int) = 1 ∧ srv m f s (m 21) (m 22) (k + 1) = some (s33 (cutup m1 k (ff m f (m1 21) (m1 22) k s 6)) tk1 21, s33 (cutup m1 k (ff m f (m1 21) (m1 22) k s 6)) tk1 22)) ∨ ((1 : Int) = 0 ∧ srv m f s (m 21) (m 22) (k + 1) = none) := by
                have h0 : 0 ≤ ff m f (m1 21) (m1 22) k s 6 := by omega
                refine Or.inl ⟨rfl, ?_⟩
                rw [hs2]
                rw [show s33 (cutup m1 k (ff m f (m1 21) (m1 22) k s 6)) tk1 21 = cutup m1 k (ff m f (m1 21) (m1 22) k s 6) 21 from rfl, show s33 (cutup m1 k (ff m f (m1 21) (m1 22) k s 6)) tk1 22 = cutup m1 k (ff m f (m1 21) (m1 22) k s 6) 22 from rfl, cutup_21 h0, cutup_22 h0]
                refine (if_neg (show ¬ 0 ≤ m1 21 k by omega)).trans ?_
                exact if_neg (show ¬ ff m f (m1 21) (m1 22) k s 6 < 0 by omega)
              refine z_iconst 63 dX4_serves_62 rfl ?_
              refine z_goto 67 dX4_serves_63 (by decide) ?_
              refine z_istore_n (lv' := [(2, _), (3, _), (0, _), (1, _)]) 68 dX4_serves_67 rfl rfl rfl ?_
              refine z_iinc (lv' := [(3, _), (2, _), (0, _), (1, _)]) 71 dX4_serves_68 rfl rfl rfl rfl ?_
              refine z_goto 32 dX4_serves_71 (by decide) ?_
              refine z_sub (lv' := [(3, _), (2, _), (0, _), (1, _)]) ⟨rfl, rfl, rfl, rfl, trivial⟩ ?_
              first | exact ihL32 (k + 1) _ _ _ hR (by omega) hW2 hz2 ht2 hkp2 (by omega)
  have L2 : ∀ (N : Nat) (k : Int) (m1 : Nat → Int → Int) (t : zT) (hR : RA m1 f x g t) (hk : 0 ≤ k ∧ k ≤ m 18 0) (ha : ∀ i, i < 25 → m1 i = m i) (h35 : ∀ j, 0 ≤ j → j < k → m1 35 j = m 21 j) (hf : m 18 0 - k < (N : Int)), zOK yX4_serves cX4_serves 4 (some .boolean) 3 0 0 (fun r t1 => ∃ z m1, r = some (vI z) ∧ 0 ≤ z ∧ z ≤ 1 ∧ (z = 1 ↔ srv m f s (m 21) (m 22) (m 18 0).toNat ≠ none) ∧ RA m1 f x g t1 ∧ eqs m m1 f f) 0 0 2 [(2, vI k), (0, vR (some x)), (1, vI s)] [] t := by
    intro N
    induction N with
    | zero => intro k m1 t hR hk ha h35 hf; exfalso; omega
    | succ N ihL2 =>
      intro k m1 t hR hk ha h35 hf
      have hor1 := fun (h : k < m 18 0) => hor k hk.1 h
      refine z_iload_n 3 dX4_serves_2 rfl rfl ?_
      refine z_aload_n 4 dX4_serves_3 rfl rfl ?_
      refine r_getIe 7 hR fl_X4_143 (by decide) (show _ = m 18 _ from congrFun (ha 18 (by decide)) _) dX4_serves_4 rfl ?_
      refine z_icmp_ge 28 10 dX4_serves_7 (by decide) rfl ⟨by omega, by omega⟩ ⟨by omega, by omega⟩ (fun h7 => ?_) (fun h7 => ?_)
      · refine z_iconst 29 dX4_serves_28 rfl ?_
        refine z_istore_n (lv' := [(2, _), (0, _), (1, _)]) 30 dX4_serves_29 rfl rfl rfl ?_
        refine z_iconst 31 dX4_serves_30 rfl ?_
        refine z_istore_n (lv' := [(3, _), (2, _), (0, _), (1, _)]) 32 dX4_serves_31 rfl rfl rfl ?_
        refine z_sub (lv' := [(3, _), (2, _), (0, _), (1, _)]) ⟨rfl, rfl, rfl, rfl, trivial⟩ ?_
        have hkk : k = m 18 0 := by omega
        refine L32 8 0 1 m1 _ hR (by omega) (WF.eqs ⟨fun i hi _ j => congrFun (ha i hi) j, fun o _ _ _ => congrFun (ha 22 (by decide)) o, fun _ _ _ => rfl⟩ hW) (Or.inl ⟨rfl, ?_⟩) ⟨fun i hi _ _ => ha i hi, fun j _ => ⟨congrFun (ha 21 (by decide)) j, congrFun (ha 22 (by decide)) j⟩, fun j j0 j1 => h35 j j0 (by omega)⟩ (fun j _ => congrFun (ha 21 (by decide)) j) (by omega)
        rw [ha 21 (by decide), ha 22 (by decide)]; rfl
      · refine z_aload_n 11 dX4_serves_10 rfl rfl ?_
        refine r_getP 14 hR fl_X4_102 (by decide) dX4_serves_11 rfl ?_
        refine z_iload_n 15 dX4_serves_14 rfl rfl ?_
        refine z_aload_n 16 dX4_serves_15 rfl rfl ?_
        refine r_getP 19 hR fl_X4_66 (by decide) dX4_serves_16 rfl ?_
        refine z_iload_n 20 dX4_serves_19 rfl rfl ?_
        refine r_ialde 21 21 6 hR rk21 ⟨by omega, by omega⟩ (show _ = m 21 _ from congrFun (ha 21 (by decide)) _) dX4_serves_20 rfl ?_
        refine r_iast 22 35 6 hR rk35 ⟨by omega, by omega⟩ dX4_serves_21 rfl (fun t hR => ?_)
        refine z_iinc (lv' := [(2, _), (0, _), (1, _)]) 25 dX4_serves_22 rfl rfl rfl rfl ?_
        refine z_goto 2 dX4_serves_25 (by decide) ?_
        refine z_sub (lv' := [(2, _), (0, _), (1, _)]) ⟨rfl, rfl, rfl, trivial⟩ ?_
        refine ihL2 (k + 1) _ _ hR (by omega) (fun i hi => ?_) (fun j j0 j1 => ?_) (by omega)
        · funext j; rw [up2_a _ _ _ _ (by omega)]; exact congrFun (ha i hi) j
        · rw [up_ite]; split; (next e => rw [e]); exact h35 j j0 (by omega)
  refine z_iconst 1 dX4_serves_0 rfl ?_
  refine z_istore_n (lv' := [(2, _), (0, _), (1, _)]) 2 dX4_serves_1 rfl rfl rfl ?_
  refine z_sub (lv' := [(2, _), (0, _), (1, _)]) ⟨rfl, rfl, rfl, trivial⟩ ?_
  exact L2 8 0 m _ hR (by omega) (fun _ _ => rfl) (fun j j0 j1 => by omega) (by omega)
theorem srv_f {m m1 : Nat → Int → Int} {f f1 : Nat → Int → UInt32} (h : eqs m m1 f f1) {s : Int} {cr cp : Int → Int} {n : Nat} : srv m1 f1 s cr cp n = srv m f s cr cp n := by
  have hf : ff m1 f1 = ff m f := ff_cong (fun k hk => funext (h.1 k (by omega) (by omega))) (fun k hk => funext (h.2.2 k (by omega)))
  induction n with
  | zero => rfl
  | succ n ih => unfold srv; rw [ih, hf]
/-- the lengths of what hangs, or of what doesn't: within an int all the same -/
theorem lens_b {m : Nat → Int → Int} {f : Nat → Int → UInt32} (hW : WF m f) {s : Int} {k : Nat} (hk : k ≤ 6) (hs : ∀ r, 0 ≤ r → r < 6 → bit s r → 0 ≤ m 17 r) : 0 ≤ lens m s k ∧ lens m s k ≤ 2000 * k := by
  induction k with
  | zero => exact ⟨Int.le_refl 0, by show (0 : Int) ≤ 2000 * ((0 : Nat) : Int); omega⟩
  | succ k ih =>
    have h1 := ih (by omega)
    unfold lens cif
    split
    · next h =>
      have h2 := ((hW.rl (r := (k : Int)) (by omega) (by omega)).2.2 (hs k (by omega) (by omega) h)).2
      omega
    · omega
theorem fw_b {m : Nat → Int → Int} {f : Nat → Int → UInt32} (hW : WF m f) {k : Nat} : -1 ≤ fw m f k ∧ fw m f k ≤ 12000 := by
  induction k with
  | zero => exact ⟨Int.le_refl (-1), show (-1 : Int) ≤ 12000 by decide⟩
  | succ k ih =>
    unfold fw cif
    split
    · next h =>
      have h2 := lens_b hW (s := (k : Int) + 1) (k := 6) (Nat.le_refl 6) (fun r a b c => (h.1 r a b c).1)
      omega
    · exact ih
set_option maxRecDepth 20000 in
theorem r_fewest {m : Nat → Int → Int} {f : Nat → Int → UInt32} {x : Nat} {g : Nat → Nat} {t : zT} (hR : RA m f x g t) (hW : WF m f) : zM yX4_fewest cX4_fewest 7 (some .int) 4 0 0 [vR (some x)] t (fun r t1 => r = some (vI (a_few m f)) ∧ ∃ m1 f1, RA m1 f1 x g t1 ∧ eqs m m1 f f1) := by
  refine zM.of [(0, vR (some x))] (by decide +kernel) rfl (Nat.le_of_ble_eq_true rfl) ?_
  obtain ⟨ho1, ho2, -⟩ := hW.2.2.2.2.1
  have hor := fun (o : Int) (h0 : 0 ≤ o) (h1 : o < m 18 0) => hW.ord h0 h1
  have hrl := fun (r : Int) (h0 : 0 ≤ r) (h1 : r < 6) => hW.rl h0 h1
  have hcn := cntc_b (m := m) (n := (m 18 0).toNat)
  have hn2 := hW.n.2
  have L85 : ∀ (N : Nat) (k : Nat) (v : Int) (m1 : Nat → Int → Int) (f1 : Nat → Int → UInt32) (t : zT) (hR : RA m1 f1 x g t) (he : eqs m m1 f f1) (hLK : LK m f f1 6) (hk : k ≤ 63) (hv : 0 ≤ v ∧ v < 64) (hbv : ∀ r, 0 ≤ r → r < 6 → (bit v r ↔ ubg m r)) (hcn2 : ¬ cntc m (m 18 0).toNat = m 18 0) (hf : 64 - (k : Int) < (N : Int)), zOK yX4_fewest cX4_fewest 7 (some .int) 4 0 0 (fun r t1 => r = some (vI (a_few m f)) ∧ ∃ m1 f1, RA m1 f1 x g t1 ∧ eqs m m1 f f1) 0 0 85 [(4, vI ((k : Int) + 1)), (3, vI (fw m f k)), (0, vR (some x)), (2, vI v)] [] t := by
    intro N
    induction N with
    | zero => intro k v m1 f1 t hR he hLK hk hv hbv hcn2 hf; exfalso; omega
    | succ N ihL85 =>
      intro k v m1 f1 t hR he hLK hk hv hbv hcn2 hf
      have hl6 := fun (h : k < 63) => land6_b (s := (k : Int) + 1) (v := v) (by omega) (by omega) hv.1 hv.2
      have hls := fun (h : k < 63) => land6_s (m := m) (s := (k : Int) + 1) (v := v) (by omega) (by omega) hv.1 hv.2 hbv
      have hW1 := WF.eqs he hW
      have hfwb := fw_b (f := f) hW (k := k)
      have hlb := fun (hs : subs m ((k : Int) + 1)) (j : Nat) (hj : j ≤ 6) => lens_b hW (s := (k : Int) + 1) (k := j) hj (fun r a b c => (hs r a b c).1)
      have L98 : ∀ (N : Nat) (j : Nat) (t : zT) (hR : RA m1 f1 x g t) (hj : j ≤ 6) (hk2 : k < 63) (hf : 6 - (j : Int) < (N : Int)), zOK yX4_fewest cX4_fewest 7 (some .int) 4 0 0 (fun r t1 => r = some (vI (a_few m f)) ∧ ∃ m1 f1, RA m1 f1 x g t1 ∧ eqs m m1 f f1) 0 0 98 [(6, vI (j : Int)), (5, vI (cif (subs m ((k : Int) + 1)) (lens m ((k : Int) + 1) j) 0)), (4, vI ((k : Int) + 1)), (3, vI (fw m f k)), (0, vR (some x)), (2, vI v)] [] t := by
        intro N
        induction N with
        | zero => intro j t hR hj hk2 hf; exfalso; omega
        | succ N ihL98 =>
          intro j t hR hj hk2 hf
          have hl62 := hl6 hk2
          have hls2 := hls hk2
          have hlj := fun hs => hlb hs j hj
          have hrj := fun (h : j < 6) => hrl j (by omega) (by omega)
          have hc1 : zi (cif (subs m ((k : Int) + 1)) (lens m ((k : Int) + 1) j) 0) := by unfold cif; split; (next hs => have := hlj hs; exact ⟨by omega, by omega⟩); exact ⟨by omega, by omega⟩
          refine z_iload 100 dX4_fewest_98 rfl rfl ?_
          refine z_bipush 102 dX4_fewest_100 rfl ⟨by decide, by decide⟩ ?_
          refine z_icmp_ge 152 105 dX4_fewest_102 (by decide) rfl ⟨by omega, by omega⟩ ⟨by omega, by omega⟩ (fun h102 => ?_) (fun h102 => ?_)
          · have hj6 : j = 6 := by omega
            subst hj6
            have hfs : fw m f (k + 1) = cif (subs m ((k : Int) + 1) ∧ (fw m f k < 0 ∨ lens m ((k : Int) + 1) 6 < fw m f k) ∧ srv m f ((k : Int) + 1) (m 21) (m 22) (m 18 0).toNat ≠ none) (lens m ((k : Int) + 1) 6) (fw m f k) := rfl
            simp only [cif] at hfs
            refine z_iload 154 dX4_fewest_152 rfl rfl ?_
            refine z_iload_n 155 dX4_fewest_154 rfl rfl ?_
            refine z_iand 156 dX4_fewest_155 rfl (hl62.1) ?_
            refine z_iload 158 dX4_fewest_156 rfl rfl ?_
            refine z_icmp_ne 183 161 dX4_fewest_158 (by decide) rfl ⟨by omega, by omega⟩ ⟨by omega, by omega⟩ (fun h158 => ?_) (fun h158 => ?_)
            · have hno : ¬ (subs m ((k : Int) + 1) ∧ (fw m f k < 0 ∨ lens m ((k : Int) + 1) 6 < fw m f k) ∧ srv m f ((k : Int) + 1) (m 21) (m 22) (m 18 0).toNat ≠ none) := fun hh => by obtain ⟨g1, g2, g3⟩ := hh; exact h158 (hls2.mpr g1)
              refine z_iinc (lv' := [(4, _), (6, _), (5, _), (3, _), (0, _), (2, _)]) 186 dX4_fewest_183 rfl rfl rfl rfl ?_
              refine z_goto 85 dX4_fewest_186 (by decide) ?_
              refine z_sub (lv' := [(4, vI ((((k + 1 : Nat)) : Int) + 1)), (3, vI (fw m f (k + 1))), (0, _), (2, _)]) ⟨rfl, ?_, rfl, rfl, trivial⟩ ?_
              · refine congrArg (fun z => some (vI z)) ?_
                rw [hfs]
                first | exact (if_neg hno).symm | exact (if_pos hyes).symm
              exact ihL85 (k + 1) v _ f1 _ hR he hLK (by omega) hv hbv hcn2 (by omega)
            · have hsu : subs m ((k : Int) + 1) := hls2.mp (by omega)
              have hce : cif (subs m ((k : Int) + 1)) (lens m ((k : Int) + 1) 6) 0 = lens m ((k : Int) + 1) 6 := if_pos hsu
              refine z_iload_n 162 dX4_fewest_161 rfl rfl ?_
              refine z_if_lt 171 165 dX4_fewest_162 (by decide) rfl ⟨by omega, by omega⟩ (fun h162 => ?_) (fun h162 => ?_)
              · refine z_aload_n 172 dX4_fewest_171 rfl rfl ?_
                refine z_iload 174 dX4_fewest_172 rfl rfl ?_
                refine z_callV 177 [_] la_X4_serves ml_X4_233 im_X4_serves se_X4_serves hR.1.1 hR.1.2.1 (by decide) rfl rfl (r_serves hR hW1 ⟨by omega, by omega⟩ (fun r a b c => by rw [he.1 17 (by decide) (by decide)]; exact (hsu r a b c).1) (by unfold LK; rw [show m1 17 = m 17 from funext (he.1 17 (by decide) (by decide)), show m1 2 = m 2 from funext (he.1 2 (by decide) (by decide)), B_eqs he]; exact hLK)) rfl rfl (by decide) (Nat.le_of_ble_eq_true rfl) (by decide) (by decide) dX4_fewest_174 rfl (fun r t hq => ?_)
                obtain ⟨zs, m2, rfl, hs1, hs2, hs3, hR, he2⟩ := hq
                have he0 := he
                replace he := he.tr he2
                have hsv : zs = 1 ↔ srv m f ((k : Int) + 1) (m 21) (m 22) (m 18 0).toNat ≠ none := by
                  rw [hs3, show m1 18 = m 18 from funext (he0.1 18 (by decide) (by decide)), show m1 21 = m 21 from funext (he0.1 21 (by decide) (by decide)), srv_f he0]
                  have hcc := srv_cut (m := m) (f := f) (s := (k : Int) + 1) (cr := m 21) (cp := m 22) (cp' := m1 22) (fun o a b c => he0.2.1 o a b c) (m 18 0).toNat
                  rcases hcc with ⟨c1, c2⟩ | ⟨c, c', c1, c2, -⟩
                  · rw [c1, c2]
                  · rw [c1, c2]; exact ⟨fun _ => Option.some_ne_none _, fun _ => Option.some_ne_none _⟩
                refine z_if_eq 183 180 dX4_fewest_177 (by decide) rfl ⟨by omega, by omega⟩ (fun h177 => ?_) (fun h177 => ?_)
                · have hno : ¬ (subs m ((k : Int) + 1) ∧ (fw m f k < 0 ∨ lens m ((k : Int) + 1) 6 < fw m f k) ∧ srv m f ((k : Int) + 1) (m 21) (m 22) (m 18 0).toNat ≠ none) := fun hh => by obtain ⟨g1, g2, g3⟩ := hh; have := hsv.mpr g3; omega
                  refine z_iinc (lv' := [(4, _), (6, _), (5, _), (3, _), (0, _), (2, _)]) 186 dX4_fewest_183 rfl rfl rfl rfl ?_
                  refine z_goto 85 dX4_fewest_186 (by decide) ?_
                  refine z_sub (lv' := [(4, vI ((((k + 1 : Nat)) : Int) + 1)), (3, vI (fw m f (k + 1))), (0, _), (2, _)]) ⟨rfl, ?_, rfl, rfl, trivial⟩ ?_
                  · refine congrArg (fun z => some (vI z)) ?_
                    rw [hfs]
                    first | exact (if_neg hno).symm | exact (if_pos hyes).symm
                  exact ihL85 (k + 1) v _ f1 _ hR he hLK (by omega) hv hbv hcn2 (by omega)
                · have hyes : subs m ((k : Int) + 1) ∧ (fw m f k < 0 ∨ lens m ((k : Int) + 1) 6 < fw m f k) ∧ srv m f ((k : Int) + 1) (m 21) (m 22) (m 18 0).toNat ≠ none := ⟨hsu, by first | (left; omega) | (rw [hce] at h168; omega), hsv.mp (by omega)⟩
                  rw [hce]
                  refine z_iload 182 dX4_fewest_180 rfl rfl ?_
                  refine z_istore_n (lv' := [(3, _), (6, _), (5, _), (4, _), (0, _), (2, _)]) 183 dX4_fewest_182 rfl rfl rfl ?_
                  refine z_iinc (lv' := [(4, _), (3, _), (6, _), (5, _), (0, _), (2, _)]) 186 dX4_fewest_183 rfl rfl rfl rfl ?_
                  refine z_goto 85 dX4_fewest_186 (by decide) ?_
                  refine z_sub (lv' := [(4, vI ((((k + 1 : Nat)) : Int) + 1)), (3, vI (fw m f (k + 1))), (0, _), (2, _)]) ⟨rfl, ?_, rfl, rfl, trivial⟩ ?_
                  · refine congrArg (fun z => some (vI z)) ?_
                    rw [hfs]
                    first | exact (if_neg hno).symm | exact (if_pos hyes).symm
                  exact ihL85 (k + 1) v _ f1 _ hR he hLK (by omega) hv hbv hcn2 (by omega)
              · refine z_iload 167 dX4_fewest_165 rfl rfl ?_
                refine z_iload_n 168 dX4_fewest_167 rfl rfl ?_
                refine z_icmp_ge 183 171 dX4_fewest_168 (by decide) rfl hc1 ⟨by omega, by omega⟩ (fun h168 => ?_) (fun h168 => ?_)
                · have hno : ¬ (subs m ((k : Int) + 1) ∧ (fw m f k < 0 ∨ lens m ((k : Int) + 1) 6 < fw m f k) ∧ srv m f ((k : Int) + 1) (m 21) (m 22) (m 18 0).toNat ≠ none) := fun hh => by obtain ⟨g1, g2, g3⟩ := hh; rw [hce] at h168; omega
                  refine z_iinc (lv' := [(4, _), (6, _), (5, _), (3, _), (0, _), (2, _)]) 186 dX4_fewest_183 rfl rfl rfl rfl ?_
                  refine z_goto 85 dX4_fewest_186 (by decide) ?_
                  refine z_sub (lv' := [(4, vI ((((k + 1 : Nat)) : Int) + 1)), (3, vI (fw m f (k + 1))), (0, _), (2, _)]) ⟨rfl, ?_, rfl, rfl, trivial⟩ ?_
                  · refine congrArg (fun z => some (vI z)) ?_
                    rw [hfs]
                    first | exact (if_neg hno).symm | exact (if_pos hyes).symm
                  exact ihL85 (k + 1) v _ f1 _ hR he hLK (by omega) hv hbv hcn2 (by omega)
                · refine z_aload_n 172 dX4_fewest_171 rfl rfl ?_
                  refine z_iload 174 dX4_fewest_172 rfl rfl ?_
                  refine z_callV 177 [_] la_X4_serves ml_X4_233 im_X4_serves se_X4_serves hR.1.1 hR.1.2.1 (by decide) rfl rfl (r_serves hR hW1 ⟨by omega, by omega⟩ (fun r a b c => by rw [he.1 17 (by decide) (by decide)]; exact (hsu r a b c).1) (by unfold LK; rw [show m1 17 = m 17 from funext (he.1 17 (by decide) (by decide)), show m1 2 = m 2 from funext (he.1 2 (by decide) (by decide)), B_eqs he]; exact hLK)) rfl rfl (by decide) (Nat.le_of_ble_eq_true rfl) (by decide) (by decide) dX4_fewest_174 rfl (fun r t hq => ?_)
                  obtain ⟨zs, m2, rfl, hs1, hs2, hs3, hR, he2⟩ := hq
                  have he0 := he
                  replace he := he.tr he2
                  have hsv : zs = 1 ↔ srv m f ((k : Int) + 1) (m 21) (m 22) (m 18 0).toNat ≠ none := by
                    rw [hs3, show m1 18 = m 18 from funext (he0.1 18 (by decide) (by decide)), show m1 21 = m 21 from funext (he0.1 21 (by decide) (by decide)), srv_f he0]
                    have hcc := srv_cut (m := m) (f := f) (s := (k : Int) + 1) (cr := m 21) (cp := m 22) (cp' := m1 22) (fun o a b c => he0.2.1 o a b c) (m 18 0).toNat
                    rcases hcc with ⟨c1, c2⟩ | ⟨c, c', c1, c2, -⟩
                    · rw [c1, c2]
                    · rw [c1, c2]; exact ⟨fun _ => Option.some_ne_none _, fun _ => Option.some_ne_none _⟩
                  refine z_if_eq 183 180 dX4_fewest_177 (by decide) rfl ⟨by omega, by omega⟩ (fun h177 => ?_) (fun h177 => ?_)
                  · have hno : ¬ (subs m ((k : Int) + 1) ∧ (fw m f k < 0 ∨ lens m ((k : Int) + 1) 6 < fw m f k) ∧ srv m f ((k : Int) + 1) (m 21) (m 22) (m 18 0).toNat ≠ none) := fun hh => by obtain ⟨g1, g2, g3⟩ := hh; have := hsv.mpr g3; omega
                    refine z_iinc (lv' := [(4, _), (6, _), (5, _), (3, _), (0, _), (2, _)]) 186 dX4_fewest_183 rfl rfl rfl rfl ?_
                    refine z_goto 85 dX4_fewest_186 (by decide) ?_
                    refine z_sub (lv' := [(4, vI ((((k + 1 : Nat)) : Int) + 1)), (3, vI (fw m f (k + 1))), (0, _), (2, _)]) ⟨rfl, ?_, rfl, rfl, trivial⟩ ?_
                    · refine congrArg (fun z => some (vI z)) ?_
                      rw [hfs]
                      first | exact (if_neg hno).symm | exact (if_pos hyes).symm
                    exact ihL85 (k + 1) v _ f1 _ hR he hLK (by omega) hv hbv hcn2 (by omega)
                  · have hyes : subs m ((k : Int) + 1) ∧ (fw m f k < 0 ∨ lens m ((k : Int) + 1) 6 < fw m f k) ∧ srv m f ((k : Int) + 1) (m 21) (m 22) (m 18 0).toNat ≠ none := ⟨hsu, by first | (left; omega) | (rw [hce] at h168; omega), hsv.mp (by omega)⟩
                    rw [hce]
                    refine z_iload 182 dX4_fewest_180 rfl rfl ?_
                    refine z_istore_n (lv' := [(3, _), (6, _), (5, _), (4, _), (0, _), (2, _)]) 183 dX4_fewest_182 rfl rfl rfl ?_
                    refine z_iinc (lv' := [(4, _), (3, _), (6, _), (5, _), (0, _), (2, _)]) 186 dX4_fewest_183 rfl rfl rfl rfl ?_
                    refine z_goto 85 dX4_fewest_186 (by decide) ?_
                    refine z_sub (lv' := [(4, vI ((((k + 1 : Nat)) : Int) + 1)), (3, vI (fw m f (k + 1))), (0, _), (2, _)]) ⟨rfl, ?_, rfl, rfl, trivial⟩ ?_
                    · refine congrArg (fun z => some (vI z)) ?_
                      rw [hfs]
                      first | exact (if_neg hno).symm | exact (if_pos hyes).symm
                    exact ihL85 (k + 1) v _ f1 _ hR he hLK (by omega) hv hbv hcn2 (by omega)
          · refine z_iload 107 dX4_fewest_105 rfl rfl ?_
            have hbt : bit ((k : Int) + 1) j ↔ ((k : Int) + 1) / 2 ^ ((j : Nat) : Int).toNat % 2 = 1 := Iff.rfl
            refine z_iload 109 dX4_fewest_107 rfl rfl ?_
            refine z_iload_n 110 dX4_fewest_109 rfl rfl ?_
            refine z_iand 111 dX4_fewest_110 rfl (hl62.1) ?_
            refine z_iload 113 dX4_fewest_111 rfl rfl ?_
            refine z_icmp_ne 142 116 dX4_fewest_113 (by decide) rfl ⟨by omega, by omega⟩ ⟨by omega, by omega⟩ (fun h113 => ?_) (fun h113 => ?_)
            · refine z_iconst 143 dX4_fewest_142 rfl ?_
              refine z_iadd 144 dX4_fewest_143 rfl ?_
              refine z_top (w := vI (cif (subs m ((k : Int) + 1)) (lens m ((k : Int) + 1) (j + 1)) 0)) (congrArg vI ?_) ?_
              · by_cases hsb : subs m ((k : Int) + 1)
                · have hl := hls2.mpr hsb
                  simp only [cif, lens]
                  rw [if_pos hsb, if_pos hsb]
                  by_cases hbb : bit ((k : Int) + 1) j
                  · (rw [if_pos hbb]) <;> (have := hbt.mp hbb; first | rfl | (exfalso; omega))
                  · (rw [if_neg hbb]) <;> (have hbn : ¬ (((k : Int) + 1) / 2 ^ ((j : Nat) : Int).toNat % 2 = 1) := fun h => hbb (hbt.mpr h); first | (exfalso; omega) | omega)
                · have hl : ¬ land6 ((k : Int) + 1) v = (k : Int) + 1 := fun h => hsb (hls2.mp h)
                  simp only [cif]
                  (rw [if_neg hsb, if_neg hsb]) <;> first | rfl | (exfalso; omega)
              refine z_istore (lv' := [(5, _), (6, _), (4, _), (3, _), (0, _), (2, _)]) 146 dX4_fewest_144 rfl rfl rfl ?_
              refine z_iinc (lv' := [(6, _), (5, _), (4, _), (3, _), (0, _), (2, _)]) 149 dX4_fewest_146 rfl rfl rfl rfl ?_
              refine z_goto 98 dX4_fewest_149 (by decide) ?_
              refine z_sub (lv' := [(6, _), (5, _), (4, _), (3, _), (0, _), (2, _)]) ⟨rfl, rfl, rfl, rfl, rfl, rfl, trivial⟩ ?_
              exact ihL98 (j + 1) _ hR (by omega) hk2 (by omega)
            · refine z_iload 118 dX4_fewest_116 rfl rfl ?_
              refine z_iload 120 dX4_fewest_118 rfl rfl ?_
              refine z_ishr 121 dX4_fewest_120 rfl (shr_b (by omega) (by omega) (by omega) (by omega)) ?_
              refine z_iconst 122 dX4_fewest_121 rfl ?_
              refine z_iand 123 dX4_fewest_122 rfl (and1_b (by omega) (by omega) (by omega) (by omega)) ?_
              refine z_iconst 124 dX4_fewest_123 rfl ?_
              refine z_icmp_ne 142 127 dX4_fewest_124 (by decide) rfl ⟨by omega, by omega⟩ ⟨by omega, by omega⟩ (fun h124 => ?_) (fun h124 => ?_)
              · refine z_iconst 143 dX4_fewest_142 rfl ?_
                refine z_iadd 144 dX4_fewest_143 rfl ?_
                refine z_top (w := vI (cif (subs m ((k : Int) + 1)) (lens m ((k : Int) + 1) (j + 1)) 0)) (congrArg vI ?_) ?_
                · by_cases hsb : subs m ((k : Int) + 1)
                  · have hl := hls2.mpr hsb
                    simp only [cif, lens]
                    rw [if_pos hsb, if_pos hsb]
                    by_cases hbb : bit ((k : Int) + 1) j
                    · (rw [if_pos hbb]) <;> (have := hbt.mp hbb; first | rfl | (exfalso; omega))
                    · (rw [if_neg hbb]) <;> (have hbn : ¬ (((k : Int) + 1) / 2 ^ ((j : Nat) : Int).toNat % 2 = 1) := fun h => hbb (hbt.mpr h); first | (exfalso; omega) | omega)
                  · have hl : ¬ land6 ((k : Int) + 1) v = (k : Int) + 1 := fun h => hsb (hls2.mp h)
                    simp only [cif]
                    (rw [if_neg hsb, if_neg hsb]) <;> first | rfl | (exfalso; omega)
                refine z_istore (lv' := [(5, _), (6, _), (4, _), (3, _), (0, _), (2, _)]) 146 dX4_fewest_144 rfl rfl rfl ?_
                refine z_iinc (lv' := [(6, _), (5, _), (4, _), (3, _), (0, _), (2, _)]) 149 dX4_fewest_146 rfl rfl rfl rfl ?_
                refine z_goto 98 dX4_fewest_149 (by decide) ?_
                refine z_sub (lv' := [(6, _), (5, _), (4, _), (3, _), (0, _), (2, _)]) ⟨rfl, rfl, rfl, rfl, rfl, rfl, trivial⟩ ?_
                exact ihL98 (j + 1) _ hR (by omega) hk2 (by omega)
              · refine z_aload_n 128 dX4_fewest_127 rfl rfl ?_
                refine r_getP 131 hR fl_X4_13 (by decide) dX4_fewest_128 rfl ?_
                refine z_aload_n 132 dX4_fewest_131 rfl rfl ?_
                refine r_getP 135 hR fl_X4_57 (by decide) dX4_fewest_132 rfl ?_
                have hub := (hls2.mp (by omega)) j (by omega) (by omega) (hbt.mpr (by omega))
                have hub1 := hub.1
                refine z_iload 137 dX4_fewest_135 rfl rfl ?_
                refine r_ialde 138 17 6 hR rk17 ⟨by omega, by omega⟩ (show _ = m 17 _ from he.1 17 (by decide) (by decide) _) dX4_fewest_137 rfl ?_
                refine r_ialde 139 2 120 hR rk2 ⟨by omega, by omega⟩ (show _ = m 2 _ from he.1 2 (by decide) (by decide) _) dX4_fewest_138 rfl ?_
                refine z_goto 143 dX4_fewest_139 (by decide) ?_
                refine z_iadd 144 dX4_fewest_143 rfl ?_
                refine z_top (w := vI (cif (subs m ((k : Int) + 1)) (lens m ((k : Int) + 1) (j + 1)) 0)) (congrArg vI ?_) ?_
                · by_cases hsb : subs m ((k : Int) + 1)
                  · have hl := hls2.mpr hsb
                    simp only [cif, lens]
                    rw [if_pos hsb, if_pos hsb]
                    by_cases hbb : bit ((k : Int) + 1) j
                    · (rw [if_pos hbb]) <;> (have := hbt.mp hbb; first | rfl | (exfalso; omega))
                    · (rw [if_neg hbb]) <;> (have hbn : ¬ (((k : Int) + 1) / 2 ^ ((j : Nat) : Int).toNat % 2 = 1) := fun h => hbb (hbt.mpr h); first | (exfalso; omega) | omega)
                  · have hl : ¬ land6 ((k : Int) + 1) v = (k : Int) + 1 := fun h => hsb (hls2.mp h)
                    simp only [cif]
                    (rw [if_neg hsb, if_neg hsb]) <;> first | rfl | (exfalso; omega)
                refine z_istore (lv' := [(5, _), (6, _), (4, _), (3, _), (0, _), (2, _)]) 146 dX4_fewest_144 rfl rfl rfl ?_
                refine z_iinc (lv' := [(6, _), (5, _), (4, _), (3, _), (0, _), (2, _)]) 149 dX4_fewest_146 rfl rfl rfl rfl ?_
                refine z_goto 98 dX4_fewest_149 (by decide) ?_
                refine z_sub (lv' := [(6, _), (5, _), (4, _), (3, _), (0, _), (2, _)]) ⟨rfl, rfl, rfl, rfl, rfl, rfl, trivial⟩ ?_
                exact ihL98 (j + 1) _ hR (by omega) hk2 (by omega)
      refine z_iload 87 dX4_fewest_85 rfl rfl ?_
      refine z_bipush 89 dX4_fewest_87 rfl ⟨by decide, by decide⟩ ?_
      refine z_icmp_ge 189 92 dX4_fewest_89 (by decide) rfl ⟨by omega, by omega⟩ ⟨by omega, by omega⟩ (fun h89 => ?_) (fun h89 => ?_)
      · refine z_iload_n 190 dX4_fewest_189 rfl rfl ?_
        refine z_ireturn rfl dX4_fewest_190 (by decide) (by decide) ?_
        have hk6 : k = 63 := by omega
        subst hk6
        refine ⟨congrArg (fun z => some (vI z)) ?_, m1, f1, hR, he⟩
        unfold a_few
        rw [if_neg hcn2]
      · refine z_iconst 93 dX4_fewest_92 rfl ?_
        refine z_istore (lv' := [(5, _), (4, _), (3, _), (0, _), (2, _)]) 95 dX4_fewest_93 rfl rfl rfl ?_
        refine z_iconst 96 dX4_fewest_95 rfl ?_
        refine z_istore (lv' := [(6, _), (5, _), (4, _), (3, _), (0, _), (2, _)]) 98 dX4_fewest_96 rfl rfl rfl ?_
        refine z_sub (lv' := [(6, _), (5, vI (cif (subs m ((k : Int) + 1)) (lens m ((k : Int) + 1) 0) 0)), (4, _), (3, _), (0, _), (2, _)]) ⟨rfl, congrArg (fun z => some (vI z)) (show (0 : Int) = cif (subs m ((k : Int) + 1)) (lens m ((k : Int) + 1) 0) 0 by simp only [cif, lens]; split <;> rfl), rfl, rfl, rfl, rfl, trivial⟩ ?_
        exact L98 8 0 _ hR (by omega) (by omega) (by omega)
  have L48 : ∀ (N : Nat) (k : Nat) (v : Int) (m1 : Nat → Int → Int) (f1 : Nat → Int → UInt32) (t : zT) (hR : RA m1 f1 x g t) (he : same m m1 f f1) (hLK : LK m f f1 6) (hk : (k : Int) ≤ 6) (hv : 0 ≤ v ∧ v < 64) (hbv : ∀ r, 0 ≤ r → r < 6 → (bit v r ↔ 0 ≤ m 17 r ∧ ¬ (r < (k : Int) ∧ cutfr m r))) (hcn2 : ¬ cntc m (m 18 0).toNat = m 18 0) (hf : 6 - (k : Int) < (N : Int)), zOK yX4_fewest cX4_fewest 7 (some .int) 4 0 0 (fun r t1 => r = some (vI (a_few m f)) ∧ ∃ m1 f1, RA m1 f1 x g t1 ∧ eqs m m1 f f1) 0 0 48 [(3, vI (k : Int)), (2, vI v), (0, vR (some x))] [] t := by
    intro N
    induction N with
    | zero => intro k v m1 f1 t hR he hLK hk hv hbv hcn2 hf; exfalso; omega
    | succ N ihL48 =>
      intro k v m1 f1 t hR he hLK hk hv hbv hcn2 hf
      have hW1 := WF.eqs he.eqs hW
      refine z_iload_n 49 dX4_fewest_48 rfl rfl ?_
      refine z_bipush 51 dX4_fewest_49 rfl ⟨by decide, by decide⟩ ?_
      refine z_icmp_ge 80 54 dX4_fewest_51 (by decide) rfl ⟨by omega, by omega⟩ ⟨by omega, by omega⟩ (fun h51 => ?_) (fun h51 => ?_)
      · refine z_iconst 81 dX4_fewest_80 rfl ?_
        refine z_istore_n (lv' := [(3, _), (2, _), (0, _)]) 82 dX4_fewest_81 rfl rfl rfl ?_
        refine z_iconst 83 dX4_fewest_82 rfl ?_
        refine z_istore (lv' := [(4, _), (3, _), (2, _), (0, _)]) 85 dX4_fewest_83 rfl rfl rfl ?_
        have hk6 : (k : Int) = 6 := by omega
        refine z_sub (lv' := [(4, _), (3, _), (0, _), (2, _)]) ⟨rfl, rfl, rfl, rfl, trivial⟩ ?_
        refine L85 65 0 v m1 f1 _ hR he.eqs hLK (by omega) hv (fun r r0 r1 => ?_) hcn2 (by omega)
        have hbr := hbv r r0 r1
        rw [hbr]
        exact ⟨fun h => ⟨h.1, fun q => h.2 ⟨by omega, q⟩⟩, fun h => ⟨h.1, fun q => h.2 q.2⟩⟩
      · refine z_iload_n 55 dX4_fewest_54 rfl rfl ?_
        refine z_aload_n 56 dX4_fewest_55 rfl rfl ?_
        refine z_iload_n 57 dX4_fewest_56 rfl rfl ?_
        refine z_callV 60 [_] la_X4_isCutFrom ml_X4_207 im_X4_isCutFrom se_X4_isCutFrom hR.1.1 hR.1.2.1 (by decide) rfl rfl (r_isCutFrom hR ⟨by omega, by omega⟩ ⟨hW1.2.2.2.2.1.1, hW1.2.2.2.2.1.2.1⟩ (fun o a1 a2 => ⟨(hW1.2.2.2.2.1.2.2 o a1 a2).2.2.1, (hW1.2.2.2.2.1.2.2 o a1 a2).2.2.2.1⟩)) rfl rfl (by decide) (Nat.le_of_ble_eq_true rfl) (by decide) (by decide) dX4_fewest_57 rfl (fun r t hq => ?_)
        obtain ⟨z, rfl, hy1, hy2, hy3, hR⟩ := hq
        have hcf : cutfr m1 k ↔ cutfr m k := by unfold cutfr; rw [he.e (by decide), he.e (by decide)]
        refine z_if_eq 71 63 dX4_fewest_60 (by decide) rfl ⟨by omega, by omega⟩ (fun h60 => ?_) (fun h60 => ?_)
        · have hcno : ¬ cutfr m k := fun h => by have := hy3.mpr (hcf.mpr h); omega
          refine z_iconst 72 dX4_fewest_71 rfl ?_
          refine z_iand 73 dX4_fewest_72 rfl ((by first | exact clr_b hv.1 hv.2 (by omega) (by omega) | exact and_m1)) ?_
          refine z_istore_n (lv' := [(2, _), (3, _), (0, _)]) 74 dX4_fewest_73 rfl rfl rfl ?_
          refine z_iinc (lv' := [(3, _), (2, _), (0, _)]) 77 dX4_fewest_74 rfl rfl rfl rfl ?_
          refine z_goto 48 dX4_fewest_77 (by decide) ?_
          refine z_sub (lv' := [(3, _), (2, _), (0, _)]) ⟨rfl, rfl, rfl, trivial⟩ ?_
          refine ihL48 (k + 1) _ m1 f1 _ hR he hLK (by omega) (by first | exact hv | exact hcl1) (fun r r0 r1 => ?_) hcn2 (by omega)
          have hbr := hbv r r0 r1
          by_cases hrk : r = k
          · subst hrk
            first
            | (have h2 := (clr_s hv.1 hv.2 (r := (k : Int)) (j := (k : Int)) (by omega) (by omega) (by omega) (by omega)).2
               rw [h2]; exact ⟨fun h => absurd rfl h.2, fun h => absurd ⟨by omega, hcy⟩ h.2⟩)
            | (rw [hbr]; exact ⟨fun h => ⟨h.1, fun q => hcno q.2⟩, fun h => ⟨h.1, fun q => by omega⟩⟩)
          · have hlt : r < ((k + 1 : Nat) : Int) ↔ r < (k : Int) := ⟨fun _ => by omega, fun _ => by omega⟩
            rw [hlt]
            first
            | (have h2 := (clr_s hv.1 hv.2 (r := (k : Int)) (j := r) (by omega) (by omega) r0 r1).2
               rw [h2, hbr]; exact ⟨fun h => h.1, fun h => ⟨h, hrk⟩⟩)
            | exact hbr
        · have hcy : cutfr m k := hcf.mp (hy3.mp (by omega))
          have hcl1 := (clr_s hv.1 hv.2 (r := (k : Int)) (j := 0) (by omega) (by omega) (by omega) (by omega)).1
          refine z_iconst 64 dX4_fewest_63 rfl ?_
          refine z_iload_n 65 dX4_fewest_64 rfl rfl ?_
          refine z_ishl 66 dX4_fewest_65 rfl (shl_b (by omega) (by omega)) ?_
          refine z_iconst 67 dX4_fewest_66 rfl ?_
          refine z_ixor 68 dX4_fewest_67 rfl (not_b (by omega) (by omega)) ?_
          refine z_goto 72 dX4_fewest_68 (by decide) ?_
          refine z_iand 73 dX4_fewest_72 rfl ((by first | exact clr_b hv.1 hv.2 (by omega) (by omega) | exact and_m1)) ?_
          refine z_istore_n (lv' := [(2, _), (3, _), (0, _)]) 74 dX4_fewest_73 rfl rfl rfl ?_
          refine z_iinc (lv' := [(3, _), (2, _), (0, _)]) 77 dX4_fewest_74 rfl rfl rfl rfl ?_
          refine z_goto 48 dX4_fewest_77 (by decide) ?_
          refine z_sub (lv' := [(3, _), (2, _), (0, _)]) ⟨rfl, rfl, rfl, trivial⟩ ?_
          refine ihL48 (k + 1) _ m1 f1 _ hR he hLK (by omega) (by first | exact hv | exact hcl1) (fun r r0 r1 => ?_) hcn2 (by omega)
          have hbr := hbv r r0 r1
          by_cases hrk : r = k
          · subst hrk
            first
            | (have h2 := (clr_s hv.1 hv.2 (r := (k : Int)) (j := (k : Int)) (by omega) (by omega) (by omega) (by omega)).2
               rw [h2]; exact ⟨fun h => absurd rfl h.2, fun h => absurd ⟨by omega, hcy⟩ h.2⟩)
            | (rw [hbr]; exact ⟨fun h => ⟨h.1, fun q => hcno q.2⟩, fun h => ⟨h.1, fun q => by omega⟩⟩)
          · have hlt : r < ((k + 1 : Nat) : Int) ↔ r < (k : Int) := ⟨fun _ => by omega, fun _ => by omega⟩
            rw [hlt]
            first
            | (have h2 := (clr_s hv.1 hv.2 (r := (k : Int)) (j := r) (by omega) (by omega) r0 r1).2
               rw [h2, hbr]; exact ⟨fun h => h.1, fun h => ⟨h, hrk⟩⟩)
            | exact hbr
  have L4 : ∀ (N : Nat) (k : Nat) (t : zT) (hR : RA m f x g t) (hk : (k : Int) ≤ m 18 0) (hf : m 18 0 - k < (N : Int)), zOK yX4_fewest cX4_fewest 7 (some .int) 4 0 0 (fun r t1 => r = some (vI (a_few m f)) ∧ ∃ m1 f1, RA m1 f1 x g t1 ∧ eqs m m1 f f1) 0 0 4 [(2, vI (k : Int)), (1, vI ((k : Int) - cntc m k)), (0, vR (some x))] [] t := by
    intro N
    induction N with
    | zero => intro k t hR hk hf; exfalso; omega
    | succ N ihL4 =>
      intro k t hR hk hf
      have hor1 := fun (h : (k : Int) < m 18 0) => hor k (by omega) h
      have hcb := cntc_b (m := m) (n := k)
      refine z_iload_n 5 dX4_fewest_4 rfl rfl ?_
      refine z_aload_n 6 dX4_fewest_5 rfl rfl ?_
      refine r_getI 9 hR fl_X4_143 (by decide) dX4_fewest_6 rfl ?_
      refine z_icmp_ge 35 12 dX4_fewest_9 (by decide) rfl ⟨by omega, by omega⟩ ⟨by omega, by omega⟩ (fun h9 => ?_) (fun h9 => ?_)
      · refine z_iload_n 36 dX4_fewest_35 rfl rfl ?_
        refine z_if_ne 41 39 dX4_fewest_36 (by decide) rfl ⟨by omega, by omega⟩ (fun h36 => ?_) (fun h36 => ?_)
        · have hkk : (m 18 0).toNat = k := by omega
          have hcn2 : ¬ cntc m (m 18 0).toNat = m 18 0 := by rw [hkk]; omega
          refine z_aload_n 42 dX4_fewest_41 rfl rfl ?_
          refine z_callV 45 [] la_X4_hungReels ml_X4_225 im_X4_hungReels se_X4_hungReels hR.1.1 hR.1.2.1 (by decide) rfl rfl (r_hungReels hR hW) rfl rfl (by decide) (Nat.le_of_ble_eq_true rfl) (by decide) (by decide) dX4_fewest_42 rfl (fun r t hq => ?_)
          obtain ⟨rfl, m1, f1, hR, he, hLK⟩ := hq
          have hh6 := hbv_b (m := m) (k := 6)
          refine z_istore_n (lv' := [(2, _), (1, _), (0, _)]) 46 dX4_fewest_45 rfl rfl rfl ?_
          refine z_iconst 47 dX4_fewest_46 rfl ?_
          refine z_istore_n (lv' := [(3, _), (2, _), (1, _), (0, _)]) 48 dX4_fewest_47 rfl rfl rfl ?_
          refine z_sub (lv' := [(3, _), (2, _), (0, _)]) ⟨rfl, rfl, rfl, trivial⟩ ?_
          refine L48 7 0 _ m1 f1 _ hR he hLK (by omega) hh6 (fun r r0 r1 => ?_) hcn2 (by omega)
          rw [hbv_6 r0 r1]
          exact ⟨fun h => ⟨h, fun q => by omega⟩, fun h => h.1⟩
        · have hkk : (m 18 0).toNat = k := by omega
          refine z_iconst 40 dX4_fewest_39 rfl ?_
          refine z_ireturn rfl dX4_fewest_40 (by decide) (by decide) ?_
          refine ⟨congrArg (fun z => some (vI z)) ?_, m, f, hR, eqs.rf⟩
          unfold a_few
          rw [hkk, if_pos (by omega)]
      · refine z_iload_n 13 dX4_fewest_12 rfl rfl ?_
        refine z_aload_n 14 dX4_fewest_13 rfl rfl ?_
        refine r_getP 17 hR fl_X4_66 (by decide) dX4_fewest_14 rfl ?_
        refine z_iload_n 18 dX4_fewest_17 rfl rfl ?_
        refine r_iald 19 21 6 hR rk21 ⟨by omega, by omega⟩ dX4_fewest_18 rfl ?_
        refine z_if_ge 26 22 dX4_fewest_19 (by decide) rfl ⟨by omega, by omega⟩ (fun h19 => ?_) (fun h19 => ?_)
        · refine z_iconst 27 dX4_fewest_26 rfl ?_
          refine z_iadd 28 dX4_fewest_27 rfl ?_
          refine z_istore_n (lv' := [(1, _), (2, _), (0, _)]) 29 dX4_fewest_28 rfl rfl rfl ?_
          refine z_iinc (lv' := [(2, _), (1, _), (0, _)]) 32 dX4_fewest_29 rfl rfl rfl rfl ?_
          refine z_goto 4 dX4_fewest_32 (by decide) ?_
          refine z_sub (lv' := [(2, _), (1, vI (((k + 1 : Nat) : Int) - cntc m (k + 1))), (0, _)]) ⟨rfl, congrArg (fun z => some (vI z)) (show _ = ((k + 1 : Nat) : Int) - (cntc m k + (if 0 ≤ m 21 k then 1 else 0)) by split <;> omega), rfl, trivial⟩ ?_
          exact ihL4 (k + 1) _ hR (by omega) (by omega)
        · refine z_iconst 23 dX4_fewest_22 rfl ?_
          refine z_goto 27 dX4_fewest_23 (by decide) ?_
          refine z_iadd 28 dX4_fewest_27 rfl ?_
          refine z_istore_n (lv' := [(1, _), (2, _), (0, _)]) 29 dX4_fewest_28 rfl rfl rfl ?_
          refine z_iinc (lv' := [(2, _), (1, _), (0, _)]) 32 dX4_fewest_29 rfl rfl rfl rfl ?_
          refine z_goto 4 dX4_fewest_32 (by decide) ?_
          refine z_sub (lv' := [(2, _), (1, vI (((k + 1 : Nat) : Int) - cntc m (k + 1))), (0, _)]) ⟨rfl, congrArg (fun z => some (vI z)) (show _ = ((k + 1 : Nat) : Int) - (cntc m k + (if 0 ≤ m 21 k then 1 else 0)) by split <;> omega), rfl, trivial⟩ ?_
          exact ihL4 (k + 1) _ hR (by omega) (by omega)
  refine z_iconst 1 dX4_fewest_0 rfl ?_
  refine z_istore_n (lv' := [(1, _), (0, _)]) 2 dX4_fewest_1 rfl rfl rfl ?_
  refine z_iconst 3 dX4_fewest_2 rfl ?_
  refine z_istore_n (lv' := [(2, _), (1, _), (0, _)]) 4 dX4_fewest_3 rfl rfl rfl ?_
  refine z_sub (lv' := [(2, _), (1, _), (0, _)]) ⟨rfl, rfl, rfl, trivial⟩ ?_
  exact L4 8 0 _ hR (by omega) (by omega)
