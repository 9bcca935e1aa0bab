/-! REELS MEASURED, TRIALS -/
/-- alike but for what the class keeps aside -/
def scr (m m1 : Nat → Int → Int) (f f1 : Nat → Int → UInt32) : Prop := (∀ k, k < 66 → m1 k = m k) ∧ ∀ k, k ≠ 69 → f1 k = f k
theorem scr.rf {m : Nat → Int → Int} {f : Nat → Int → UInt32} : scr m m f f := ⟨fun _ _ => rfl, fun _ _ => rfl⟩
section SS
variable {m m1 : Nat → Int → Int} {f f1 : Nat → Int → UInt32}
theorem scr.same (h : scr m m1 f f1) : same m m1 f f1 := ⟨fun k hk j => by rw [h.1 k (by omega)], fun k hk j => by rw [h.2 k (by omega)]⟩
theorem scr.W (h : scr m m1 f f1) (hW : WF m f) : WF m1 f1 := WF.eqs h.same.eqs hW
theorem scr.X (h : scr m m1 f f1) (hX : XI m f) : XI m1 f1 := hX.cong (fun k _ hk => h.1 k (by by_cases q : k < 66; exact q; exfalso; unfold xsl at hk; simp at hk; omega)) (fun k _ hk => h.2 k (fun e => by rw [e] at hk; cases hk))
theorem scr.B (h : scr m m1 f f1) : B m1 f1 = B m f := B_cong (fun k hk => h.1 k (by omega)) (fun k hk => h.2 k (by omega))
theorem scr.ff (h : scr m m1 f f1) : ff m1 f1 = ff m f := ff_cong (fun k hk => h.1 k (by omega)) (fun k hk => h.2 k (by omega))
theorem scr.live (h : scr m m1 f f1) {p : Int} (hp : live m p) : live m1 p := ⟨hp.1, by rw [h.1 0 (by decide)]; exact hp.2.1, by rw [h.1 4 (by decide)]; exact hp.2.2⟩
theorem scr.steady (h : scr m m1 f f1) {p w s : Int} (hs : steady m1 f1 p w s) : steady m f p w s := by
  obtain ⟨a, b, c⟩ := hs
  rw [h.1 2 (by decide)] at b
  rw [h.B] at c
  exact ⟨a, b, c⟩
theorem scr.i (h : scr m m1 f f1) {k : Nat} (hk : 66 ≤ k) (j v : Int) : scr m (up2 m1 k j v) f f1 := ⟨fun i hi => by rw [← h.1 i hi]; funext j'; exact up2_a _ _ _ _ (by omega) _, h.2⟩
theorem scr.fl (h : scr m m1 f f1) (j : Int) (v : UInt32) : scr m m1 f (up2 f1 69 j v) := ⟨h.1, fun i hi => by rw [← h.2 i hi]; funext j'; exact up2_a _ _ _ _ hi _⟩
/-- where stretch i of reel r begins -/
def stb (m : Nat → Int → Int) (r i : Int) : Int := if i = 0 then 0 else m 70 (2000 * r + (i - 1))
/-- its stretches below n, up to w -/
def str (m : Nat → Int → Int) (f : Nat → Int → UInt32) (m1 : Nat → Int → Int) (f1 : Nat → Int → UInt32) (r n : Int) : Prop := ∀ i, 0 ≤ i → i < n → stb m1 r i < m1 70 (2000 * r + i) ∧ m1 70 (2000 * r + i) ≤ m 2 (m 17 r) ∧ ∀ y, stb m1 r i ≤ y → y < m1 70 (2000 * r + i) → B m f (m 17 r) y = f1 69 (2000 * r + i)
def MR (m : Nat → Int → Int) (f : Nat → Int → UInt32) (m1 : Nat → Int → Int) (f1 : Nat → Int → UInt32) (r : Int) : Prop := 0 ≤ m1 68 r ∧ m1 68 r ≤ 2000 ∧ (m 17 r < 0 → m1 68 r = 0) ∧ (0 ≤ m 17 r → stb m1 r (m1 68 r) = m 2 (m 17 r)) ∧ (0 ≤ m 17 r → str m f m1 f1 r (m1 68 r))
def MS (m : Nat → Int → Int) (f : Nat → Int → UInt32) (m1 : Nat → Int → Int) (f1 : Nat → Int → UInt32) (n : Int) : Prop := ∀ r, 0 ≤ r → r < n → MR m f m1 f1 r
theorem MR.cong {m2 : Nat → Int → Int} {f2 : Nat → Int → UInt32} {r : Int} (h : MR m f m1 f1 r) (e68 : m2 68 r = m1 68 r) (e70 : ∀ i, 0 ≤ i → i < 2000 → m2 70 (2000 * r + i) = m1 70 (2000 * r + i)) (e69 : ∀ i, 0 ≤ i → i < 2000 → f2 69 (2000 * r + i) = f1 69 (2000 * r + i)) : MR m f m2 f2 r := by
  obtain ⟨h1, h2, h3, h4, h5⟩ := h
  have es : ∀ i, 0 ≤ i → i ≤ 2000 → stb m2 r i = stb m1 r i := fun i a b => by
    unfold stb
    split
    · rfl
    · exact e70 _ (by omega) (by omega)
  refine ⟨by rw [e68]; exact h1, by rw [e68]; exact h2, by rw [e68]; exact h3, fun q => by rw [e68, es _ h1 h2]; exact h4 q, fun q i a b => ?_⟩
  rw [e68] at b
  rw [es i a (by omega), e70 i a (by omega), e69 i a (by omega)]
  exact h5 q i a b
end SS
set_option maxRecDepth 20000 in
theorem c_measure {m m1 : Nat → Int → Int} {f f1 : Nat → Int → UInt32} {a : Nat → Int → Nat} {t : zT} (hR : CA m1 f1 a t) (hs : scr m m1 f f1) {q : Int} (hW : WF m f) (hX : XI m f) (hq6 : 0 ≤ q ∧ q < 6) (hMS : MS m f m1 f1 q) : zM yX3_measure cX3_measure 4 none 29 0 0 [vR (rf a 11 q)] t (fun r t1 => r = none ∧ ∃ m2 f2, CA m2 f2 a t1 ∧ scr m m2 f f2 ∧ MS m f m2 f2 (q + 1)) := by
  refine zM.of2 [(0, vR (rf a 11 q))] (by decide +kernel) rfl (Nat.le_of_ble_eq_true rfl) ?_
  have hn1 := hW.n.1
  have hn2 := hW.n.2
  have h60 := hX.1.1
  have h62 := hX.1.2.1
  have h64 := hX.1.2.2
  have hrl := hW.rl hq6.1 hq6.2
  have h64b := congrFun (hs.1 64 (by decide)) 0
  have h60b := congrFun (hs.1 60 (by decide)) 0
  have L14 : ∀ (fuel : Nat) (k w : Int) (m1 : Nat → Int → Int) (f1 : Nat → Int → UInt32) (t : zT) (hR : CA m1 f1 a t) (hs : scr m m1 f f1) (hMS : MS m f m1 f1 q) (hk : 0 ≤ k ∧ k ≤ w ∧ (0 ≤ m 17 q → w ≤ m 2 (m 17 q)) ∧ (m 17 q < 0 → w = 0)) (h68 : m1 68 q = k) (hw : w = stb m1 q k) (hstr : 0 ≤ m 17 q → str m f m1 f1 q k) (hf : 2001 - k < (fuel : Int)), zOK yX3_measure cX3_measure 4 none 29 0 0 (fun r t1 => r = none ∧ ∃ m2 f2, CA m2 f2 a t1 ∧ scr m m2 f f2 ∧ MS m f m2 f2 (q + 1)) 0 0 14 [(3, vI k), (2, vI w), (1, vR (rf a 6 (m 17 q))), (0, vR (rf a 11 q))] [] t := by
    intro fuel
    induction fuel with
    | zero => intro k w m1 f1 t hR hs hMS hk h68 hw hstr hf; exfalso; omega
    | succ fuel ih14 =>
      intro k w m1 f1 t hR hs hMS hk h68 hw hstr hf
      have h64c := congrFun (hs.1 64 (by decide)) 0
      have h60c := congrFun (hs.1 60 (by decide)) 0
      refine z_aload_n 15 dX3_measure_14 rfl rfl ?_
      refine c_ifnull 78 18 dX3_measure_15 (by decide) rfl  (fun h15 => ?_) (fun h15 => ?_)
      · refine z_return rfl dX3_measure_78 (by decide) (by decide) ?_
        refine ⟨rfl, m1, f1, hR, hs, fun r r0 r1 => ?_⟩
        by_cases e : r = q
        · subst e
          refine ⟨by omega, by omega, fun h => by omega, fun h => ?_, fun h => by rw [h68]; exact hstr h⟩
          rw [h68, ← hw]; omega
        · exact hMS r r0 (by omega)
      · obtain ⟨hl, hl2⟩ := hrl.2.2 (by omega)
        refine z_iload_n 19 dX3_measure_18 rfl rfl ?_
        refine z_aload_n 20 dX3_measure_19 rfl rfl ?_
        refine c_getI 23 2 hR fl_X3_113 (by decide) (cLive_c (fun K hK => congrFun (hs.1 K (by omega)) 0) (show cLive m 6 (m 17 q) from lp ⟨by omega, by omega⟩)) (show _ = m 2 (m 17 q) from congrFun (hs.1 2 (by decide)) _) dX3_measure_20 rfl ?_
        refine z_icmp_ge 78 26 dX3_measure_23 (by decide) rfl ⟨by omega, by omega⟩ ⟨by omega, by omega⟩ (fun h23 => ?_) (fun h23 => ?_)
        · refine z_return rfl dX3_measure_78 (by decide) (by decide) ?_
          refine ⟨rfl, m1, f1, hR, hs, fun r r0 r1 => ?_⟩
          by_cases e : r = q
          · subst e
            refine ⟨by omega, by omega, fun h => by omega, fun h => ?_, fun h => by rw [h68]; exact hstr h⟩
            rw [h68, ← hw]; omega
          · exact hMS r r0 (by omega)
        · refine z_iload_n 27 dX3_measure_26 rfl rfl ?_
          refine z_sipush 30 dX3_measure_27 rfl ⟨by decide, by decide⟩ ?_
          refine z_icmp_ge 78 33 dX3_measure_30 (by decide) rfl ⟨by omega, by omega⟩ ⟨by omega, by omega⟩ (fun h30 => ?_) (fun h30 => ?_)
          · refine z_return rfl dX3_measure_78 (by decide) (by decide) ?_
            refine ⟨rfl, m1, f1, hR, hs, fun r r0 r1 => ?_⟩
            by_cases e : r = q
            · subst e
              refine ⟨by omega, by omega, fun h => by omega, fun h => ?_, fun h => by rw [h68]; exact hstr h⟩
              rw [h68, ← hw]; omega
            · exact hMS r r0 (by omega)
          · refine z_aload_n 34 dX3_measure_33 rfl rfl ?_
            refine c_getL 37 12 hR fl_X3_333 (by decide) (cLive_c (fun K hK => congrFun (hs.1 K (by omega)) 0) (show cLive m 11 q from lr ⟨by omega, by omega⟩)) dX3_measure_34 rfl ?_
            refine z_iload_n 38 dX3_measure_37 rfl rfl ?_
            refine z_aload_n 39 dX3_measure_38 rfl rfl ?_
            refine z_iload_n 40 dX3_measure_39 rfl rfl ?_
            refine z_iconst 41 dX3_measure_40 rfl ?_
            refine z_callS 44 [_, _, _] la_X3_bearing ml_X3_192 sm_X3_bearing (c_bearing hR (hs.W hW) (hs.X hX) (hs.live hl) (by omega) (by rw [hs.1 2 (by decide)]; omega)) rfl rfl (by decide) (Nat.le_of_ble_eq_true rfl) (by decide) (by decide) dX3_measure_41 rfl (fun r t hq => ?_)
            obtain ⟨rfl, hR⟩ := hq
            rw [hs.B]
            refine c_fast 45 69 hR (c := 2000) 2000 (by decide) (show _ = 2000 * q + k from rfl) (cLive_c (fun K hK => congrFun (hs.1 K (by omega)) 0) (show cLive m 12 q from lr ⟨by omega, by omega⟩)) rfl rfl ⟨by omega, by omega⟩ dX3_measure_44 rfl (fun t hR => ?_)
            refine z_iload_n 46 dX3_measure_45 rfl rfl ?_
            refine z_iconst 47 dX3_measure_46 rfl ?_
            refine z_iadd 48 dX3_measure_47 rfl ?_
            refine z_aload_n 49 dX3_measure_48 rfl rfl ?_
            refine z_iload_n 50 dX3_measure_49 rfl rfl ?_
            refine z_iconst 51 dX3_measure_50 rfl ?_
            refine z_callS 54 [_, _, _] la_X3_steadyTo ml_X3_213 sm_X3_steadyTo (c_steadyTo hR ((hs.fl _ _).W hW) ((hs.fl _ _).X hX) ((hs.fl (2000 * q + k) (B m f (m 17 q) w)).live hl) (by omega) (by rw [hs.1 2 (by decide)]; omega)) rfl rfl (by decide) (Nat.le_of_ble_eq_true rfl) (by decide) (by decide) dX3_measure_51 rfl (fun r t hq => ?_)
            obtain ⟨s, rfl, hst, hR⟩ := hq
            replace hst := (hs.fl _ _).steady hst
            have hst1 := hst.1
            have hst2 := hst.2.1
            refine z_max 57 ⟨by omega, by omega⟩ ⟨by omega, by omega⟩ ml_X3_122 la_max1 la_math la_max2 (by omega) (by decide) (by decide) (by decide) dX3_measure_54 rfl ?_
            refine z_top (w := vI s) (congrArg vI (by omega)) ?_
            refine z_istore_n (lv' := [(2, _), (3, _), (1, _), (0, _)]) 58 dX3_measure_57 rfl rfl rfl ?_
            refine z_aload_n 59 dX3_measure_58 rfl rfl ?_
            refine c_getL 62 13 hR fl_X3_340 (by decide) (cLive_c (fun K hK => congrFun (hs.1 K (by omega)) 0) (show cLive m 11 q from lr ⟨by omega, by omega⟩)) dX3_measure_59 rfl ?_
            refine z_iload_n 63 dX3_measure_62 rfl rfl ?_
            refine z_iload_n 64 dX3_measure_63 rfl rfl ?_
            refine c_iast 65 70 hR (c := 2000) 2000 (by decide) (show _ = 2000 * q + k from rfl) (cLive_c (fun K hK => congrFun (hs.1 K (by omega)) 0) (show cLive m 13 q from lr ⟨by omega, by omega⟩)) rfl rfl ⟨by omega, by omega⟩ dX3_measure_64 rfl (fun t hR => ?_)
            refine z_aload_n 66 dX3_measure_65 rfl rfl ?_
            refine z_iload_n 67 dX3_measure_66 rfl rfl ?_
            refine z_iconst 68 dX3_measure_67 rfl ?_
            refine z_iadd 69 dX3_measure_68 rfl ?_
            refine c_putI 72 68 hR fl_X3_330 (by decide) (cLive_c (fun K hK => congrFun (hs.1 K (by omega)) 0) (show cLive m 11 q from lr ⟨by omega, by omega⟩)) dX3_measure_69 rfl (fun t hR => ?_)
            refine z_iinc (lv' := [(3, _), (2, _), (1, _), (0, _)]) 75 dX3_measure_72 rfl rfl rfl rfl ?_
            refine z_goto 14 dX3_measure_75 (by decide) ?_
            refine z_sub (lv' := [(3, _), (2, _), (1, _), (0, _)]) ⟨rfl, rfl, rfl, rfl, trivial⟩ ?_
            exact ih14 (k + 1) s _ _ _ hR (((hs.fl _ _).i (by decide) _ _).i (by decide) _ _) (fun r r0 r1 => (hMS r r0 r1).cong ((up2_k _ _ _ _ _ (by omega)).trans rfl) (fun i i0 i1 => by rw [up2_a _ _ _ _ (by decide), up2_k _ _ _ _ _ (by omega)]) (fun i i0 i1 => up2_k _ _ _ _ _ (by omega))) (by omega) (up2_s _ _ _ _) (by unfold stb; rw [if_neg (by omega), up2_a _ _ _ _ (by decide), show k + 1 - 1 = k by omega, up2_s]) (fun _ => fun i i0 i1 => by
            by_cases e : i = k
            · subst e
              rw [show stb (up2 (up2 m1 70 (2000 * q + i) s) 68 q (i + 1)) q i = stb m1 q i from by unfold stb; split; rfl; (show up2 (up2 m1 70 _ _) 68 _ _ 70 _ = _); rw [up2_a _ _ _ _ (by decide), up2_k _ _ _ _ _ (by omega)], up2_a _ _ _ _ (show (70 : Nat) ≠ 68 by decide), up2_s, up2_s, ← hw]
              exact ⟨hst.1, hst.2.1, hst.2.2⟩
            · obtain ⟨g1, g2, g3⟩ := hstr (by omega) i i0 (by omega)
              rw [show stb (up2 (up2 m1 70 (2000 * q + k) s) 68 q (k + 1)) q i = stb m1 q i from by unfold stb; split; rfl; (show up2 (up2 m1 70 _ _) 68 _ _ 70 _ = _); rw [up2_a _ _ _ _ (by decide), up2_k _ _ _ _ _ (by omega)], up2_a _ _ _ _ (show (70 : Nat) ≠ 68 by decide), up2_k _ _ _ _ _ (by omega), up2_k _ _ _ _ _ (by omega)]
              exact ⟨g1, g2, g3⟩) (by omega)
  refine z_aload_n 1 dX3_measure_0 rfl rfl ?_
  refine c_getP 4 17 hR fl_X3_270 (by decide) (cLive_c (fun K hK => congrFun (hs.1 K (by omega)) 0) (show cLive m 11 q from lr ⟨by omega, by omega⟩)) (show _ = m 17 q from congrFun (hs.1 17 (by decide)) _) dX3_measure_1 rfl (fun hl1 => ?_)
  refine z_astore_n (lv' := [(1, _), (0, _)]) 5 dX3_measure_4 rfl rfl rfl ?_
  refine z_iconst 6 dX3_measure_5 rfl ?_
  refine z_istore_n (lv' := [(2, _), (1, _), (0, _)]) 7 dX3_measure_6 rfl rfl rfl ?_
  refine z_aload_n 8 dX3_measure_7 rfl rfl ?_
  refine z_iconst 9 dX3_measure_8 rfl ?_
  refine c_putI 12 68 hR fl_X3_330 (by decide) (cLive_c (fun K hK => congrFun (hs.1 K (by omega)) 0) (show cLive m 11 q from lr ⟨by omega, by omega⟩)) dX3_measure_9 rfl (fun t hR => ?_)
  refine z_iconst 13 dX3_measure_12 rfl ?_
  refine z_istore_n (lv' := [(3, _), (2, _), (1, _), (0, _)]) 14 dX3_measure_13 rfl rfl rfl ?_
  refine z_sub (lv' := [(3, _), (2, _), (1, _), (0, _)]) ⟨rfl, rfl, rfl, rfl, trivial⟩ ?_
  exact L14 2003 0 0 _ _ _ hR (hs.i (by decide) _ _) (fun r r0 r1 => (hMS r r0 r1).cong (up2_k _ _ _ _ _ (by omega)) (fun _ _ _ => rfl) (fun _ _ _ => rfl)) (⟨by decide, by decide, fun h => by have := hrl.2.2 h; omega, fun _ => rfl⟩) (up2_s _ _ _ _) (rfl) (fun _ i i0 i1 => by omega) (by omega)
set_option maxRecDepth 20000 in
theorem c_measureReels {m : Nat → Int → Int} {f : Nat → Int → UInt32} {a : Nat → Int → Nat} {t : zT} (hR : CA m f a t) (hW : WF m f) (hX : XI m f) : zM yX3_measureReels cX3_measureReels 2 none 30 0 0 [vR (rf a 0 0)] t (fun r t1 => r = none ∧ ∃ m2 f2, CA m2 f2 a t1 ∧ scr m m2 f f2 ∧ MS m f m2 f2 6) := by
  refine zM.of2 [(0, vR (rf a 0 0))] (by decide +kernel) rfl (Nat.le_of_ble_eq_true rfl) ?_
  have hn1 := hW.n.1
  have hn2 := hW.n.2
  have h60 := hX.1.1
  have h62 := hX.1.2.1
  have h64 := hX.1.2.2
  have L2 : ∀ (fuel : Nat) (k : Int) (m1 : Nat → Int → Int) (f1 : Nat → Int → UInt32) (t : zT) (hR : CA m1 f1 a t) (hs : scr m m1 f f1) (hMS : MS m f m1 f1 k) (hk : 0 ≤ k ∧ k ≤ 6) (hf : 6 - k < (fuel : Int)), zOK yX3_measureReels cX3_measureReels 2 none 30 0 0 (fun r t1 => r = none ∧ ∃ m2 f2, CA m2 f2 a t1 ∧ scr m m2 f f2 ∧ MS m f m2 f2 6) 0 0 2 [(1, vI k), (0, vR (rf a 0 0))] [] t := by
    intro fuel
    induction fuel with
    | zero => intro k m1 f1 t hR hs hMS hk hf; exfalso; omega
    | succ fuel ih2 =>
      intro k m1 f1 t hR hs hMS hk hf
      have h64c := congrFun (hs.1 64 (by decide)) 0
      refine z_iload_n 3 dX3_measureReels_2 rfl rfl ?_
      refine z_bipush 5 dX3_measureReels_3 rfl ⟨by decide, by decide⟩ ?_
      refine z_icmp_ge 23 8 dX3_measureReels_5 (by decide) rfl ⟨by omega, by omega⟩ ⟨by omega, by omega⟩ (fun h5 => ?_) (fun h5 => ?_)
      · refine z_return rfl dX3_measureReels_23 (by decide) (by decide) ?_
        have hk6 : k = 6 := by omega
        subst hk6
        exact ⟨rfl, m1, f1, hR, hs, hMS⟩
      · refine z_aload_n 9 dX3_measureReels_8 rfl rfl ?_
        refine c_getL 12 3 hR fl_X3_20 (by decide) (cLive_c (fun K hK => congrFun (hs.1 K (by omega)) 0) (show cLive m 0 0 from l0)) dX3_measureReels_9 rfl ?_
        refine z_iload_n 13 dX3_measureReels_12 rfl rfl ?_
        refine c_aald 14 65 hR (c := 1) 6 (by decide) (show _ = k from rfl) (cLive_c (fun K hK => congrFun (hs.1 K (by omega)) 0) (show cLive m 3 0 from l3)) rfl (by decide) ⟨by omega, by omega⟩ (show _ = k from ((congrFun (hs.1 65 (by decide)) _).trans (hX.rl (by omega) (by omega)))) dX3_measureReels_13 rfl (fun hl13 => ?_)
        refine z_callS 17 [_] la_X3_measure ml_X3_347 sm_X3_measure (c_measure hR hs hW hX ⟨by omega, by omega⟩ hMS) rfl rfl (by decide) (Nat.le_of_ble_eq_true rfl) (by decide) (by decide) dX3_measureReels_14 rfl (fun r t hq => ?_)
        obtain ⟨rfl, m1, f1, hR, hs, hMS⟩ := hq
        refine z_iinc (lv' := [(1, _), (0, _)]) 20 dX3_measureReels_17 rfl rfl rfl rfl ?_
        refine z_goto 2 dX3_measureReels_20 (by decide) ?_
        refine z_sub (lv' := [(1, _), (0, _)]) ⟨rfl, rfl, trivial⟩ ?_
        exact ih2 (k + 1) _ _ _ hR (hs) (hMS) (by omega) (by omega)
  refine z_iconst 1 dX3_measureReels_0 rfl ?_
  refine z_istore_n (lv' := [(1, _), (0, _)]) 2 dX3_measureReels_1 rfl rfl rfl ?_
  refine z_sub (lv' := [(1, _), (0, _)]) ⟨rfl, rfl, trivial⟩ ?_
  exact L2 7 0 _ _ _ hR (scr.rf) (fun r r0 r1 => by omega) (by omega) (by omega)
set_option maxRecDepth 20000 in
theorem c_startTrial {m : Nat → Int → Int} {f : Nat → Int → UInt32} {a : Nat → Int → Nat} {t : zT} (hR : CA m f a t) (hW : WF m f) (hX : XI m f) : zM yX3_startTrial cX3_startTrial 2 none 0 0 0 [vR (rf a 0 0)] t (fun r t1 => r = none ∧ ∃ m1, CA m1 f a t1 ∧ (∀ k, k ≠ 66 → k ≠ 67 → m1 k = m k) ∧ ∀ o, 0 ≤ o → o < m 18 0 → m1 66 o = m 21 o ∧ m1 67 o = m 48 o) := by
  refine zM.of2 [(0, vR (rf a 0 0))] (by decide +kernel) rfl (Nat.le_of_ble_eq_true rfl) ?_
  have hn1 := hW.n.1
  have hn2 := hW.n.2
  have h60 := hX.1.1
  have h62 := hX.1.2.1
  have h64 := hX.1.2.2
  obtain ⟨ho1, ho2, ho3⟩ := hW.2.2.2.2.1
  have L2 : ∀ (fuel : Nat) (k : Int) (m1 : Nat → Int → Int) (t : zT) (hR : CA m1 f a t) (hs : ∀ k, k ≠ 66 → k ≠ 67 → m1 k = m k) (ht : ∀ o, 0 ≤ o → o < k → m1 66 o = m 21 o ∧ m1 67 o = m 48 o) (hk : 0 ≤ k ∧ k ≤ m 18 0) (hf : m 18 0 - k < (fuel : Int)), zOK yX3_startTrial cX3_startTrial 2 none 0 0 0 (fun r t1 => r = none ∧ ∃ m1, CA m1 f a t1 ∧ (∀ k, k ≠ 66 → k ≠ 67 → m1 k = m k) ∧ ∀ o, 0 ≤ o → o < m 18 0 → m1 66 o = m 21 o ∧ m1 67 o = m 48 o) 0 0 2 [(1, vI k), (0, vR (rf a 0 0))] [] t := by
    intro fuel
    induction fuel with
    | zero => intro k m1 t hR hs ht hk hf; exfalso; omega
    | succ fuel ih2 =>
      intro k m1 t hR hs ht hk hf
      refine z_iload_n 3 dX3_startTrial_2 rfl rfl ?_
      refine z_aload_n 4 dX3_startTrial_3 rfl rfl ?_
      refine c_getI 7 18 hR fl_X3_143 (by decide) (cLive_c (fun K hK => congrFun (hs K (by omega) (by omega)) 0) (show cLive m 0 0 from l0)) (show _ = m 18 0 from congrFun (hs 18 (by decide) (by decide)) _) dX3_startTrial_4 rfl ?_
      refine z_icmp_ge 67 10 dX3_startTrial_7 (by decide) rfl ⟨by omega, by omega⟩ ⟨by omega, by omega⟩ (fun h7 => ?_) (fun h7 => ?_)
      · refine z_return rfl dX3_startTrial_67 (by decide) (by decide) ?_
        exact ⟨rfl, m1, hR, hs, fun o o0 o1 => ht o o0 (by omega)⟩
      · refine z_iload_n 11 dX3_startTrial_10 rfl rfl ?_
        refine z_bipush 13 dX3_startTrial_11 rfl ⟨by decide, by decide⟩ ?_
        refine z_icmp_ge 67 16 dX3_startTrial_13 (by decide) rfl ⟨by omega, by omega⟩ ⟨by omega, by omega⟩ (fun h13 => ?_) (fun h13 => ?_)
        · refine z_return rfl dX3_startTrial_67 (by decide) (by decide) ?_
          exact ⟨rfl, m1, hR, hs, fun o o0 o1 => ht o o0 (by omega)⟩
        · refine z_aload_n 17 dX3_startTrial_16 rfl rfl ?_
          refine c_getL 20 4 hR fl_X3_26 (by decide) (cLive_c (fun K hK => congrFun (hs K (by omega) (by omega)) 0) (show cLive m 0 0 from l0)) dX3_startTrial_17 rfl ?_
          refine z_iload_n 21 dX3_startTrial_20 rfl rfl ?_
          refine c_aald 22 63 hR (c := 1) 6 (by decide) (show _ = k from rfl) (cLive_c (fun K hK => congrFun (hs K (by omega) (by omega)) 0) (show cLive m 4 0 from l4)) rfl (by decide) ⟨by omega, by omega⟩ (show _ = k from ((congrFun (hs 63 (by decide) (by decide)) _).trans (hX.od (by omega) (by omega) (by omega)))) dX3_startTrial_21 rfl (fun hl21 => ?_)
          refine c_ifnull 61 25 dX3_startTrial_22 (by decide) rfl  (fun h22 => ?_) (fun h22 => ?_)
          · exfalso; omega
          refine z_aload_n 26 dX3_startTrial_25 rfl rfl ?_
          refine c_getL 29 4 hR fl_X3_26 (by decide) (cLive_c (fun K hK => congrFun (hs K (by omega) (by omega)) 0) (show cLive m 0 0 from l0)) dX3_startTrial_26 rfl ?_
          refine z_iload_n 30 dX3_startTrial_29 rfl rfl ?_
          refine c_aald 31 63 hR (c := 1) 6 (by decide) (show _ = k from rfl) (cLive_c (fun K hK => congrFun (hs K (by omega) (by omega)) 0) (show cLive m 4 0 from l4)) rfl (by decide) ⟨by omega, by omega⟩ (show _ = k from ((congrFun (hs 63 (by decide) (by decide)) _).trans (hX.od (by omega) (by omega) (by omega)))) dX3_startTrial_30 rfl (fun hl30 => ?_)
          refine z_aload_n 32 dX3_startTrial_31 rfl rfl ?_
          refine c_getL 35 4 hR fl_X3_26 (by decide) (cLive_c (fun K hK => congrFun (hs K (by omega) (by omega)) 0) (show cLive m 0 0 from l0)) dX3_startTrial_32 rfl ?_
          refine z_iload_n 36 dX3_startTrial_35 rfl rfl ?_
          refine c_aald 37 63 hR (c := 1) 6 (by decide) (show _ = k from rfl) (cLive_c (fun K hK => congrFun (hs K (by omega) (by omega)) 0) (show cLive m 4 0 from l4)) rfl (by decide) ⟨by omega, by omega⟩ (show _ = k from ((congrFun (hs 63 (by decide) (by decide)) _).trans (hX.od (by omega) (by omega) (by omega)))) dX3_startTrial_36 rfl (fun hl36 => ?_)
          refine c_getI 40 21 hR fl_X3_292 (by decide) (cLive_c (fun K hK => congrFun (hs K (by omega) (by omega)) 0) (show cLive m 14 k from lo ⟨by omega, by omega⟩)) (show _ = m 21 k from congrFun (hs 21 (by decide) (by decide)) _) dX3_startTrial_37 rfl ?_
          refine c_putI 43 66 hR fl_X3_320 (by decide) (cLive_c (fun K hK => congrFun (hs K (by omega) (by omega)) 0) (show cLive m 14 k from lo ⟨by omega, by omega⟩)) dX3_startTrial_40 rfl (fun t hR => ?_)
          refine z_aload_n 44 dX3_startTrial_43 rfl rfl ?_
          refine c_getL 47 4 hR fl_X3_26 (by decide) (cLive_c (fun K hK => congrFun (hs K (by omega) (by omega)) 0) (show cLive m 0 0 from l0)) dX3_startTrial_44 rfl ?_
          refine z_iload_n 48 dX3_startTrial_47 rfl rfl ?_
          refine c_aald 49 63 hR (c := 1) 6 (by decide) (show _ = k from rfl) (cLive_c (fun K hK => congrFun (hs K (by omega) (by omega)) 0) (show cLive m 4 0 from l4)) rfl (by decide) ⟨by omega, by omega⟩ (show _ = k from ((congrFun (hs 63 (by decide) (by decide)) _).trans (hX.od (by omega) (by omega) (by omega)))) dX3_startTrial_48 rfl (fun hl48 => ?_)
          refine z_aload_n 50 dX3_startTrial_49 rfl rfl ?_
          refine c_getL 53 4 hR fl_X3_26 (by decide) (cLive_c (fun K hK => congrFun (hs K (by omega) (by omega)) 0) (show cLive m 0 0 from l0)) dX3_startTrial_50 rfl ?_
          refine z_iload_n 54 dX3_startTrial_53 rfl rfl ?_
          refine c_aald 55 63 hR (c := 1) 6 (by decide) (show _ = k from rfl) (cLive_c (fun K hK => congrFun (hs K (by omega) (by omega)) 0) (show cLive m 4 0 from l4)) rfl (by decide) ⟨by omega, by omega⟩ (show _ = k from ((congrFun (hs 63 (by decide) (by decide)) _).trans (hX.od (by omega) (by omega) (by omega)))) dX3_startTrial_54 rfl (fun hl54 => ?_)
          refine c_getI 58 48 hR fl_X3_305 (by decide) (cLive_c (fun K hK => congrFun (hs K (by omega) (by omega)) 0) (show cLive m 14 k from lo ⟨by omega, by omega⟩)) (show _ = m 48 k from congrFun (hs 48 (by decide) (by decide)) _) dX3_startTrial_55 rfl ?_
          refine c_putI 61 67 hR fl_X3_323 (by decide) (cLive_c (fun K hK => congrFun (hs K (by omega) (by omega)) 0) (show cLive m 14 k from lo ⟨by omega, by omega⟩)) dX3_startTrial_58 rfl (fun t hR => ?_)
          refine z_iinc (lv' := [(1, _), (0, _)]) 64 dX3_startTrial_61 rfl rfl rfl rfl ?_
          refine z_goto 2 dX3_startTrial_64 (by decide) ?_
          refine z_sub (lv' := [(1, _), (0, _)]) ⟨rfl, rfl, trivial⟩ ?_
          exact ih2 (k + 1) _ _ hR (fun i h1 h2 => by rw [← hs i h1 h2]; funext j; rw [up2_a _ _ _ _ h2, up2_a _ _ _ _ h1]) (fun o o0 o1 => by rw [up2_a _ _ _ _ (by decide), up_ite, up_ite, up2_a _ _ _ _ (by decide)]; by_cases e : o = k; (rw [if_pos e, if_pos e, e]; exact ⟨rfl, rfl⟩); rw [if_neg e, if_neg e]; exact ht o o0 (by omega)) (by omega) (by omega)
  refine z_iconst 1 dX3_startTrial_0 rfl ?_
  refine z_istore_n (lv' := [(1, _), (0, _)]) 2 dX3_startTrial_1 rfl rfl rfl ?_
  refine z_sub (lv' := [(1, _), (0, _)]) ⟨rfl, rfl, trivial⟩ ?_
  exact L2 7 0 _ _ hR (fun _ _ _ => rfl) (fun o o0 o1 => by omega) (by omega) (by omega)
