theorem cut_at {m : Nat → Int → Int} {o v : Int} (h : 0 ≤ v) : 10000 * cutup m o v 21 o + cutup m o v 22 o = v := by
  unfold cutup
  rw [if_neg (by omega), up2_a _ _ _ _ (show (21 : Nat) ≠ 22 by decide), up2_s, up2_s]
  omega
theorem LK.same {m m1 : Nat → Int → Int} {f f1 f2 : Nat → Int → UInt32} {n : Int} (h : same m m1 f f1) (hL : LK m f f2 n) : LK m1 f1 f2 n := by
  unfold LK
  rw [h.e (by decide), h.e (by decide), B_eqs h.eqs]
  exact hL
theorem cutup_e {m : Nat → Int → Int} {o v : Int} {k : Nat} (h : k ≠ 21) (h2 : k ≠ 22) : cutup m o v k = m k := by
  unfold cutup
  split
  · rfl
  · funext j; rw [up2_a _ _ _ _ h2, up2_a _ _ _ _ h]
theorem cutup_21 {m : Nat → Int → Int} {o v : Int} (h : 0 ≤ v) : cutup m o v 21 = up0 (m 21) o (v / 10000) := by
  unfold cutup
  rw [if_neg (by omega)]
  funext j; rw [up2_a _ _ _ _ (by decide), up_ite]; rfl
theorem cutup_22 {m : Nat → Int → Int} {o v : Int} (h : 0 ≤ v) : cutup m o v 22 = up0 (m 22) o (v % 10000) := by
  unfold cutup
  rw [if_neg (by omega)]
  funext j; rw [up_ite, up2_a _ _ _ _ (by decide)]; rfl
theorem hbv_or {m : Nat → Int → Int} {k : Nat} (hk : k < 6) : Int32.ofInt (hbv m k) ||| Int32.ofInt (if 0 ≤ m 17 k then 2 ^ k else 0) = Int32.ofInt (hbv m (k + 1)) := by
  have hb := hbv_b (m := m) (k := k)
  show _ = Int32.ofInt (hbv m k + (if 0 ≤ m 17 k then 2 ^ k else 0))
  split
  · exact or_b (r := (k : Int)) (by omega) (by omega) hb.1 hb.2
  · rw [Int.add_zero]; exact or_0
theorem pow64 {k : Nat} (hk : k ≤ 6) : (2 : Int) ^ k ≤ 64 := by
  have h : ∀ k : Fin 7, (2 : Int) ^ k.val ≤ 64 := by decide
  exact h ⟨k, by omega⟩
theorem eqs_cut {m m1 : Nat → Int → Int} {f f1 : Nat → Int → UInt32} (h : same m m1 f f1) {o v : Int} {tk : Int → Int} : eqs (cutup m o v) (s33 (cutup m1 o v) tk) f f1 := by
  refine ⟨fun k hk h22 j => ?_, fun u u0 u1 u2 => ?_, h.2⟩
  · rw [show s33 (cutup m1 o v) tk k j = cutup m1 o v k j from if_neg (by omega)]
    by_cases h21 : k = 21
    · subst h21
      by_cases hv : 0 ≤ v
      · rw [cutup_21 hv, cutup_21 hv, h.e (by decide)]
      · unfold cutup; rw [if_pos (by omega), if_pos (by omega)]; exact h.1 21 (by decide) j
    · rw [cutup_e h21 h22, cutup_e h21 h22]; exact h.1 k hk j
  · rw [show s33 (cutup m1 o v) tk 22 u = cutup m1 o v 22 u from if_neg (by decide)]
    by_cases hv : 0 ≤ v
    · rw [cutup_22 hv, cutup_22 hv, h.e (by decide)]
    · unfold cutup; rw [if_pos (by omega), if_pos (by omega)]; exact h.1 22 (by decide) u
set_option maxRecDepth 20000 in
theorem r_cutFrom {m : Nat → Int → Int} {f : Nat → Int → UInt32} {tk : Int → Int} {x : Nat} {g : Nat → Nat} {t : zT} (hR : RA (s33 m tk) f x g t) {o s : Int} (hW : WF m f) (ho : 0 ≤ o ∧ o < m 18 0) (hs : 0 ≤ s ∧ s < 64) (hsb : ∀ r, 0 ≤ r → r < 6 → bit s r → 0 ≤ m 17 r) (hL : LK m f f 6) : zM yX4_cutFrom cX4_cutFrom 5 (some .boolean) 2 0 0 [vR (some x), vI o, vI s] t (fun r t1 => ∃ z tk1, r = some (vI z) ∧ 0 ≤ z ∧ z ≤ 1 ∧ (z = 1 ↔ 0 ≤ ff m f (m 21) (m 22) o s 6) ∧ RA (s33 (cutup m o (ff m f (m 21) (m 22) o s 6)) tk1) f x g t1) := by
  refine zM.of [(0, vR (some x)), (1, vI o), (2, vI s)] (by decide +kernel) rfl (Nat.le_of_ble_eq_true rfl) ?_
  obtain ⟨ho1, ho2, -⟩ := hW.2.2.2.2.1
  have L2 : ∀ (fuel : Nat) (k : Nat) (tk1 : Int → Int) (t : zT) (hR : RA (s33 m tk1) f x g t) (hk : (k : Int) ≤ 6) (hff : ff m f (m 21) (m 22) o s 6 = ff m f (m 21) (m 22) o s (6 - k)) (hf : 6 - (k : Int) < (fuel : Int)), zOK yX4_cutFrom cX4_cutFrom 5 (some .boolean) 2 0 0 (fun r t1 => ∃ z tk1, r = some (vI z) ∧ 0 ≤ z ∧ z ≤ 1 ∧ (z = 1 ↔ 0 ≤ ff m f (m 21) (m 22) o s 6) ∧ RA (s33 (cutup m o (ff m f (m 21) (m 22) o s 6)) tk1) f x g t1) 0 0 2 [(3, vI (k : Int)), (0, vR (some x)), (1, vI o), (2, vI s)] [] t := by
    intro fuel
    induction fuel with
    | zero => intro k tk1 t hR hk hff hf; exfalso; omega
    | succ fuel ih2 =>
      intro k tk1 t hR hk hff hf
      refine z_iload_n 3 dX4_cutFrom_2 rfl rfl ?_
      refine z_bipush 5 dX4_cutFrom_3 rfl ⟨by decide, by decide⟩ ?_
      refine z_icmp_ge 57 8 dX4_cutFrom_5 (by decide) rfl ⟨by omega, by omega⟩ ⟨by omega, by omega⟩ (fun h5 => ?_) (fun h5 => ?_)
      · refine z_iconst 58 dX4_cutFrom_57 rfl ?_
        refine z_zreturn rfl (by first | exact Or.inl rfl | exact Or.inr rfl | omega) dX4_cutFrom_58 (by decide) (by decide) ?_
        have hk6 : k = 6 := by omega
        subst hk6
        have hfe : ff m f (m 21) (m 22) o s 6 = -1 := hff
        rw [hfe]
        exact ⟨0, tk1, rfl, by decide, by decide, ⟨fun h => by omega, fun h => by omega⟩, hR⟩
      · refine z_iload_n 9 dX4_cutFrom_8 rfl rfl ?_
        refine z_iload_n 10 dX4_cutFrom_9 rfl rfl ?_
        refine z_ishr 11 dX4_cutFrom_10 rfl (shr_b (by omega) (by omega) (by omega) (by omega)) ?_
        refine z_iconst 12 dX4_cutFrom_11 rfl ?_
        refine z_iand 13 dX4_cutFrom_12 rfl (and1_b (by omega) (by omega) (by omega) (by omega)) ?_
        refine z_iconst 14 dX4_cutFrom_13 rfl ?_
        refine z_icmp_ne 26 17 dX4_cutFrom_14 (by decide) rfl ⟨by omega, by omega⟩ ⟨by omega, by omega⟩ (fun h14 => ?_) (fun h14 => ?_)
        · refine z_iconst 27 dX4_cutFrom_26 rfl ?_
          refine z_istore (lv' := [(4, _), (3, _), (0, _), (1, _), (2, _)]) 29 dX4_cutFrom_27 rfl rfl rfl ?_
          refine z_iload 31 dX4_cutFrom_29 rfl rfl ?_
          refine z_if_lt 51 34 dX4_cutFrom_31 (by decide) rfl ⟨by omega, by omega⟩ (fun h31 => ?_) (fun h31 => ?_)
          · refine z_iinc (lv' := [(3, _), (4, _), (0, _), (1, _), (2, _)]) 54 dX4_cutFrom_51 rfl rfl rfl rfl ?_
            refine z_goto 2 dX4_cutFrom_54 (by decide) ?_
            refine z_sub (lv' := [(3, _), (0, _), (1, _), (2, _)]) ⟨rfl, rfl, rfl, rfl, trivial⟩ ?_
            exact ih2 (k + 1) _ _ hR (by omega) (by
        rw [hff, show 6 - k = (5 - k) + 1 by omega, show 6 - (k + 1) = 5 - k by omega]
        show cif _ _ _ = _
        rw [show (5 - ((5 - k : Nat) : Int)) = k by omega]
        exact if_neg (fun hh => by have h1 : s / 2 ^ ((k : Nat) : Int).toNat % 2 = 1 := hh.1; have h2 := hh.2; omega)) (by omega)
          · refine z_aload_n 35 dX4_cutFrom_34 rfl rfl ?_
            refine r_getP 38 hR fl_X4_66 (by decide) dX4_cutFrom_35 rfl ?_
            refine z_iload_n 39 dX4_cutFrom_38 rfl rfl ?_
            refine z_iload_n 40 dX4_cutFrom_39 rfl rfl ?_
            refine r_iast 41 21 6 hR rk21 ⟨by omega, by omega⟩ dX4_cutFrom_40 rfl (fun t hR => ?_)
            refine z_aload_n 42 dX4_cutFrom_41 rfl rfl ?_
            refine r_getP 45 hR fl_X4_69 (by decide) dX4_cutFrom_42 rfl ?_
            refine z_iload_n 46 dX4_cutFrom_45 rfl rfl ?_
            refine z_iload 48 dX4_cutFrom_46 rfl rfl ?_
            refine r_iast 49 22 6 hR rk22 ⟨by omega, by omega⟩ dX4_cutFrom_48 rfl (fun t hR => ?_)
            refine z_iconst 50 dX4_cutFrom_49 rfl ?_
            refine z_zreturn rfl (by first | exact Or.inl rfl | exact Or.inr rfl | omega) dX4_cutFrom_50 (by decide) (by decide) ?_
            first
            | (exfalso; omega)
            | (have hfe : ff m f (m 21) (m 22) o s 6 = 10000 * (k : Int) + fitv m f (m 21) (m 22) o k := by
                 rw [hff, show 6 - k = (5 - k) + 1 by omega]
                 show cif _ _ _ = _
                 rw [show (5 - ((5 - k : Nat) : Int)) = k by omega]
                 exact if_pos ⟨by unfold bit; omega, by omega⟩
               refine ⟨1, tk1, rfl, by decide, by decide, ⟨fun _ => by omega, fun _ => rfl⟩, ?_⟩
               rw [hfe]
               unfold cutup
               rw [if_neg (by omega), show (10000 * (k : Int) + fitv m f (m 21) (m 22) o k) / 10000 = k by omega, show (10000 * (k : Int) + fitv m f (m 21) (m 22) o k) % 10000 = fitv m f (m 21) (m 22) o k by omega]
               rw [s33_k _ _ (by decide), s33_k _ _ (by decide)] at hR
               exact hR)
        · refine z_aload_n 18 dX4_cutFrom_17 rfl rfl ?_
          refine z_iload_n 19 dX4_cutFrom_18 rfl rfl ?_
          refine z_iload_n 20 dX4_cutFrom_19 rfl rfl ?_
          refine z_callV 23 [_, _] la_X4_fit ml_X4_218 im_X4_fit se_X4_fit hR.1.1 hR.1.2.1 (by decide) rfl rfl (r_fit hR hW ho ⟨by omega, by omega⟩ (hsb k (by omega) (by omega) (by unfold bit; omega)) (fun w a b => hL k (by omega) (by omega) (hsb k (by omega) (by omega) (by unfold bit; omega)) w a b)) rfl rfl (by decide) (Nat.le_of_ble_eq_true rfl) (by decide) (by decide) dX4_cutFrom_20 rfl (fun r t hq => ?_)
          obtain ⟨rfl, tk1, hR⟩ := hq
          have hfb := fitv_b (m := m) (f := f) (cr := m 21) (cp := m 22) (o := o) (r := k)
          have hor := hW.ord ho.1 ho.2
          have hrl := (hW.rl (r := k) (by omega) (by omega)).2.2 (hsb k (by omega) (by omega) (by unfold bit; omega))
          have hr2 := hrl.2
          refine z_goto 27 dX4_cutFrom_23 (by decide) ?_
          refine z_istore (lv' := [(4, _), (3, _), (0, _), (1, _), (2, _)]) 29 dX4_cutFrom_27 rfl rfl rfl ?_
          refine z_iload 31 dX4_cutFrom_29 rfl rfl ?_
          refine z_if_lt 51 34 dX4_cutFrom_31 (by decide) rfl ⟨by omega, by omega⟩ (fun h31 => ?_) (fun h31 => ?_)
          · refine z_iinc (lv' := [(3, _), (4, _), (0, _), (1, _), (2, _)]) 54 dX4_cutFrom_51 rfl rfl rfl rfl ?_
            refine z_goto 2 dX4_cutFrom_54 (by decide) ?_
            refine z_sub (lv' := [(3, _), (0, _), (1, _), (2, _)]) ⟨rfl, rfl, rfl, rfl, trivial⟩ ?_
            exact ih2 (k + 1) _ _ hR (by omega) (by
        rw [hff, show 6 - k = (5 - k) + 1 by omega, show 6 - (k + 1) = 5 - k by omega]
        show cif _ _ _ = _
        rw [show (5 - ((5 - k : Nat) : Int)) = k by omega]
        exact if_neg (fun hh => by have h1 : s / 2 ^ ((k : Nat) : Int).toNat % 2 = 1 := hh.1; have h2 := hh.2; omega)) (by omega)
          · refine z_aload_n 35 dX4_cutFrom_34 rfl rfl ?_
            refine r_getP 38 hR fl_X4_66 (by decide) dX4_cutFrom_35 rfl ?_
            refine z_iload_n 39 dX4_cutFrom_38 rfl rfl ?_
            refine z_iload_n 40 dX4_cutFrom_39 rfl rfl ?_
            refine r_iast 41 21 6 hR rk21 ⟨by omega, by omega⟩ dX4_cutFrom_40 rfl (fun t hR => ?_)
            refine z_aload_n 42 dX4_cutFrom_41 rfl rfl ?_
            refine r_getP 45 hR fl_X4_69 (by decide) dX4_cutFrom_42 rfl ?_
            refine z_iload_n 46 dX4_cutFrom_45 rfl rfl ?_
            refine z_iload 48 dX4_cutFrom_46 rfl rfl ?_
            refine r_iast 49 22 6 hR rk22 ⟨by omega, by omega⟩ dX4_cutFrom_48 rfl (fun t hR => ?_)
            refine z_iconst 50 dX4_cutFrom_49 rfl ?_
            refine z_zreturn rfl (by first | exact Or.inl rfl | exact Or.inr rfl | omega) dX4_cutFrom_50 (by decide) (by decide) ?_
            first
            | (exfalso; omega)
            | (have hfe : ff m f (m 21) (m 22) o s 6 = 10000 * (k : Int) + fitv m f (m 21) (m 22) o k := by
                 rw [hff, show 6 - k = (5 - k) + 1 by omega]
                 show cif _ _ _ = _
                 rw [show (5 - ((5 - k : Nat) : Int)) = k by omega]
                 exact if_pos ⟨by unfold bit; omega, by omega⟩
               refine ⟨1, tk1, rfl, by decide, by decide, ⟨fun _ => by omega, fun _ => rfl⟩, ?_⟩
               rw [hfe]
               unfold cutup
               rw [if_neg (by omega), show (10000 * (k : Int) + fitv m f (m 21) (m 22) o k) / 10000 = k by omega, show (10000 * (k : Int) + fitv m f (m 21) (m 22) o k) % 10000 = fitv m f (m 21) (m 22) o k by omega]
               rw [s33_k _ _ (by decide), s33_k _ _ (by decide)] at hR
               exact hR)
  refine z_iconst 1 dX4_cutFrom_0 rfl ?_
  refine z_istore_n (lv' := [(3, _), (0, _), (1, _), (2, _)]) 2 dX4_cutFrom_1 rfl rfl rfl ?_
  refine z_sub (lv' := [(3, _), (0, _), (1, _), (2, _)]) ⟨rfl, rfl, rfl, rfl, trivial⟩ ?_
  exact L2 7 0 _ _ hR (by decide) (rfl) (by omega)
set_option maxRecDepth 20000 in
theorem r_hungReels {m : Nat → Int → Int} {f : Nat → Int → UInt32} {x : Nat} {g : Nat → Nat} {t : zT} (hR : RA m f x g t) (hW : WF m f) : zM yX4_hungReels cX4_hungReels 3 (some .int) 3 0 0 [vR (some x)] t (fun r t1 => r = some (vI (hbv m 6)) ∧ ∃ m1 f1, RA m1 f1 x g t1 ∧ same m m1 f f1 ∧ LK m f f1 6) := by
  refine zM.of [(0, vR (some x))] (by decide +kernel) rfl (Nat.le_of_ble_eq_true rfl) ?_
  have hn2 := hW.n.2
  have L4 : ∀ (fuel : Nat) (k : Nat) (m1 : Nat → Int → Int) (f1 : Nat → Int → UInt32) (t : zT) (hR : RA m1 f1 x g t) (he : same m m1 f f1) (hk : (k : Int) ≤ 6) (hL : LK m f f1 k) (hf : 6 - (k : Int) < (fuel : Int)), zOK yX4_hungReels cX4_hungReels 3 (some .int) 3 0 0 (fun r t1 => r = some (vI (hbv m 6)) ∧ ∃ m1 f1, RA m1 f1 x g t1 ∧ same m m1 f f1 ∧ LK m f f1 6) 0 0 4 [(2, vI (k : Int)), (1, vI (hbv m k)), (0, vR (some x))] [] t := by
    intro fuel
    induction fuel with
    | zero => intro k m1 f1 t hR he hk hL hf; exfalso; omega
    | succ fuel ih4 =>
      intro k m1 f1 t hR he hk hL hf
      have hb := hbv_b (m := m) (k := k)
      have hp := pow64 (k := k) (by omega)
      have hrl := fun (h : k < 6) => hW.2.2.2.1 k (by omega) (by omega)
      refine z_iload_n 5 dX4_hungReels_4 rfl rfl ?_
      refine z_bipush 7 dX4_hungReels_5 rfl ⟨by decide, by decide⟩ ?_
      refine z_icmp_ge 40 10 dX4_hungReels_7 (by decide) rfl ⟨by omega, by omega⟩ ⟨by omega, by omega⟩ (fun h7 => ?_) (fun h7 => ?_)
      · refine z_iload_n 41 dX4_hungReels_40 rfl rfl ?_
        refine z_ireturn rfl dX4_hungReels_41 (by decide) (by decide) ?_
        have hk6 : k = 6 := by omega
        subst hk6
        exact ⟨rfl, m1, f1, hR, he, hL⟩
      · refine z_iload_n 11 dX4_hungReels_10 rfl rfl ?_
        refine z_aload_n 12 dX4_hungReels_11 rfl rfl ?_
        refine r_getP 15 hR fl_X4_57 (by decide) dX4_hungReels_12 rfl ?_
        refine z_iload_n 16 dX4_hungReels_15 rfl rfl ?_
        refine r_ialde 17 17 6 hR rk17 ⟨by omega, by omega⟩ (show _ = m 17 _ from he.1 17 (by decide) _) dX4_hungReels_16 rfl ?_
        refine z_if_lt 26 20 dX4_hungReels_17 (by decide) rfl ⟨by omega, by omega⟩ (fun h17 => ?_) (fun h17 => ?_)
        · refine z_iconst 27 dX4_hungReels_26 rfl ?_
          refine z_top (w := vI (if 0 ≤ m 17 k then 2 ^ k else 0)) (congrArg vI (by first | (rw [if_pos (by omega)]; rfl) | rw [if_neg (by omega)])) ?_
          refine z_ior 28 dX4_hungReels_27 rfl (hbv_or (by omega)) ?_
          refine z_istore_n (lv' := [(1, _), (2, _), (0, _)]) 29 dX4_hungReels_28 rfl rfl rfl ?_
          refine z_aload_n 30 dX4_hungReels_29 rfl rfl ?_
          refine z_iload_n 31 dX4_hungReels_30 rfl rfl ?_
          refine z_callV 34 [_] la_X4_look ml_X4_222 im_X4_look se_X4_look hR.1.1 hR.1.2.1 (by decide) rfl rfl (r_look hR he hW ⟨by omega, by omega⟩ hL) rfl rfl (by decide) (Nat.le_of_ble_eq_true rfl) (by decide) (by decide) dX4_hungReels_31 rfl (fun r t hq => ?_)
          obtain ⟨rfl, m1, f1, hR, he, hL⟩ := hq
          refine z_iinc (lv' := [(2, _), (1, _), (0, _)]) 37 dX4_hungReels_34 rfl rfl rfl rfl ?_
          refine z_goto 4 dX4_hungReels_37 (by decide) ?_
          refine z_sub (lv' := [(2, _), (1, _), (0, _)]) ⟨rfl, rfl, rfl, trivial⟩ ?_
          exact ih4 (k + 1) _ _ _ hR (he) (by omega) (hL) (by omega)
        · refine z_iconst 21 dX4_hungReels_20 rfl ?_
          refine z_iload_n 22 dX4_hungReels_21 rfl rfl ?_
          refine z_ishl 23 dX4_hungReels_22 rfl (shl_b (by omega) (by omega)) ?_
          refine z_goto 27 dX4_hungReels_23 (by decide) ?_
          refine z_top (w := vI (if 0 ≤ m 17 k then 2 ^ k else 0)) (congrArg vI (by first | (rw [if_pos (by omega)]; rfl) | rw [if_neg (by omega)])) ?_
          refine z_ior 28 dX4_hungReels_27 rfl (hbv_or (by omega)) ?_
          refine z_istore_n (lv' := [(1, _), (2, _), (0, _)]) 29 dX4_hungReels_28 rfl rfl rfl ?_
          refine z_aload_n 30 dX4_hungReels_29 rfl rfl ?_
          refine z_iload_n 31 dX4_hungReels_30 rfl rfl ?_
          refine z_callV 34 [_] la_X4_look ml_X4_222 im_X4_look se_X4_look hR.1.1 hR.1.2.1 (by decide) rfl rfl (r_look hR he hW ⟨by omega, by omega⟩ hL) rfl rfl (by decide) (Nat.le_of_ble_eq_true rfl) (by decide) (by decide) dX4_hungReels_31 rfl (fun r t hq => ?_)
          obtain ⟨rfl, m1, f1, hR, he, hL⟩ := hq
          refine z_iinc (lv' := [(2, _), (1, _), (0, _)]) 37 dX4_hungReels_34 rfl rfl rfl rfl ?_
          refine z_goto 4 dX4_hungReels_37 (by decide) ?_
          refine z_sub (lv' := [(2, _), (1, _), (0, _)]) ⟨rfl, rfl, rfl, trivial⟩ ?_
          exact ih4 (k + 1) _ _ _ hR (he) (by omega) (hL) (by omega)
  refine z_iconst 1 dX4_hungReels_0 rfl ?_
  refine z_istore_n (lv' := [(1, _), (0, _)]) 2 dX4_hungReels_1 rfl rfl rfl ?_
  refine z_iconst 3 dX4_hungReels_2 rfl ?_
  refine z_istore_n (lv' := [(2, _), (1, _), (0, _)]) 4 dX4_hungReels_3 rfl rfl rfl ?_
  refine z_sub (lv' := [(2, _), (1, _), (0, _)]) ⟨rfl, rfl, rfl, trivial⟩ ?_
  exact L4 7 0 _ _ _ hR (⟨fun _ _ _ => rfl, fun _ _ _ => rfl⟩) (by decide) (fun r r0 r1 => by omega) (by omega)
set_option maxRecDepth 20000 in
theorem r_cut {m : Nat → Int → Int} {f : Nat → Int → UInt32} {x : Nat} {g : Nat → Nat} {t : zT} (hR : RA m f x g t) {o : Int} (ho : zi o) (hW : WF m f) : zM yX4_cut cX4_cut 2 (some .int) 4 0 0 [vR (some x), vI o] t (fun r t1 => r = some (vI (a_cut m f o (hbv m 6))) ∧ ∃ m1 f1, RA m1 f1 x g t1 ∧ eqs (s_cut m f o (hbv m 6)) m1 f f1) := by
  refine zM.of [(0, vR (some x)), (1, vI o)] (by decide +kernel) rfl (Nat.le_of_ble_eq_true rfl) ?_
  obtain ⟨ho1, ho2⟩ := ho
  obtain ⟨ho3, ho4, -⟩ := hW.2.2.2.2.1
  have hor := fun (h : 0 ≤ o ∧ o < m 18 0) => hW.ord h.1 h.2
  refine z_iload_n 1 dX4_cut_0 rfl rfl ?_
  refine z_if_lt 21 4 dX4_cut_1 (by decide) rfl ⟨by omega, by omega⟩ (fun h1 => ?_) (fun h1 => ?_)
  · refine z_bipush 23 dX4_cut_21 rfl ⟨by decide, by decide⟩ ?_
    refine z_ireturn rfl dX4_cut_23 (by decide) (by decide) ?_
    refine ⟨congrArg (fun z => some (vI z)) ?_, m, f, hR, ?_⟩
    · unfold a_cut cif; rw [if_pos (by omega)]
    · unfold s_cut cif; rw [if_pos (by omega)]; exact eqs.rf
  · refine z_iload_n 5 dX4_cut_4 rfl rfl ?_
    refine z_aload_n 6 dX4_cut_5 rfl rfl ?_
    refine r_getI 9 hR fl_X4_143 (by decide) dX4_cut_6 rfl ?_
    refine z_icmp_ge 21 12 dX4_cut_9 (by decide) rfl ⟨by omega, by omega⟩ ⟨by omega, by omega⟩ (fun h9 => ?_) (fun h9 => ?_)
    · refine z_bipush 23 dX4_cut_21 rfl ⟨by decide, by decide⟩ ?_
      refine z_ireturn rfl dX4_cut_23 (by decide) (by decide) ?_
      refine ⟨congrArg (fun z => some (vI z)) ?_, m, f, hR, ?_⟩
      · unfold a_cut cif; rw [if_pos (by omega)]
      · unfold s_cut cif; rw [if_pos (by omega)]; exact eqs.rf
    · refine z_aload_n 13 dX4_cut_12 rfl rfl ?_
      refine r_getP 16 hR fl_X4_66 (by decide) dX4_cut_13 rfl ?_
      refine z_iload_n 17 dX4_cut_16 rfl rfl ?_
      refine r_iald 18 21 6 hR rk21 ⟨by omega, by omega⟩ dX4_cut_17 rfl ?_
      refine z_if_lt 24 21 dX4_cut_18 (by decide) rfl ⟨by omega, by omega⟩ (fun h18 => ?_) (fun h18 => ?_)
      · refine z_aload_n 25 dX4_cut_24 rfl rfl ?_
        refine z_iload_n 26 dX4_cut_25 rfl rfl ?_
        refine z_aload_n 27 dX4_cut_26 rfl rfl ?_
        refine z_callV 30 [] la_X4_hungReels ml_X4_225 im_X4_hungReels se_X4_hungReels hR.1.1 hR.1.2.1 (by decide) rfl rfl (r_hungReels hR hW) rfl rfl (by decide) (Nat.le_of_ble_eq_true rfl) (by decide) (by decide) dX4_cut_27 rfl (fun r t hq => ?_)
        obtain ⟨rfl, m1, f1, hR, he, hL⟩ := hq
        rw [← s33_0 m1] at hR
        have hW1 := WF.eqs he.eqs hW
        have hf1 : ff m1 f1 = ff m f := ff_cong (fun k hk => he.e (by omega)) (fun k hk => he.f (by omega))
        have hh6 := hbv_b (m := m) (k := 6)
        refine z_callV 33 [_, _] la_X4_cutFrom ml_X4_229 im_X4_cutFrom se_X4_cutFrom hR.1.1 hR.1.2.1 (by decide) rfl rfl (r_cutFrom hR hW1 (by rw [he.1 18 (by decide)]; exact ⟨by omega, by omega⟩) ⟨hh6.1, hh6.2⟩ (fun r a b c => by rw [he.1 17 (by decide)]; exact (hbv_6 a b).mp c) (hL.same he)) rfl rfl (by decide) (Nat.le_of_ble_eq_true rfl) (by decide) (by decide) dX4_cut_30 rfl (fun r t hq => ?_)
        obtain ⟨z, tk1, rfl, hz1, hz2, hz3, hR⟩ := hq
        rw [hf1, he.e (show 21 < 25 by decide), he.e (show 22 < 25 by decide)] at hR hz3
        have hcm : ∀ k, s33 (cutup m1 o (ff m f (m 21) (m 22) o (hbv m 6) 6)) tk1 21 k = cutup m1 o (ff m f (m 21) (m 22) o (hbv m 6) 6) 21 k := fun _ => rfl
        refine z_if_eq 56 36 dX4_cut_33 (by decide) rfl ⟨by omega, by omega⟩ (fun h33 => ?_) (fun h33 => ?_)
        · refine z_iconst 57 dX4_cut_56 rfl ?_
          refine z_ireturn rfl dX4_cut_57 (by decide) (by decide) ?_
          refine ⟨congrArg (fun z => some (vI z)) ?_, _, _, hR, ?_⟩
          · unfold a_cut cif; rw [if_neg (by omega)]; first | (exact cut_at (by omega)) | (have hb := ff_b hW (cr := m 21) (cp := m 22) (o := o) (s := hbv m 6) (by have := hor (by omega); omega) (fun r a b c => (hbv_6 a b).mp c) (Nat.le_refl 6); omega)
          · unfold s_cut cif; rw [if_neg (by omega)]; exact eqs_cut he
        · refine z_sipush 39 dX4_cut_36 rfl ⟨by decide, by decide⟩ ?_
          refine z_aload_n 40 dX4_cut_39 rfl rfl ?_
          refine r_getP 43 hR fl_X4_66 (by decide) dX4_cut_40 rfl ?_
          refine z_iload_n 44 dX4_cut_43 rfl rfl ?_
          refine r_iald 45 21 6 hR rk21 ⟨by omega, by omega⟩ dX4_cut_44 rfl ?_
          refine z_imul 46 dX4_cut_45 rfl ?_
          refine z_aload_n 47 dX4_cut_46 rfl rfl ?_
          refine r_getP 50 hR fl_X4_69 (by decide) dX4_cut_47 rfl ?_
          refine z_iload_n 51 dX4_cut_50 rfl rfl ?_
          refine r_iald 52 22 6 hR rk22 ⟨by omega, by omega⟩ dX4_cut_51 rfl ?_
          refine z_iadd 53 dX4_cut_52 rfl ?_
          refine z_goto 57 dX4_cut_53 (by decide) ?_
          refine z_ireturn rfl dX4_cut_57 (by decide) (by decide) ?_
          refine ⟨congrArg (fun z => some (vI z)) ?_, _, _, hR, ?_⟩
          · unfold a_cut cif; rw [if_neg (by omega)]; first | (exact cut_at (by omega)) | (have hb := ff_b hW (cr := m 21) (cp := m 22) (o := o) (s := hbv m 6) (by have := hor (by omega); omega) (fun r a b c => (hbv_6 a b).mp c) (Nat.le_refl 6); omega)
          · unfold s_cut cif; rw [if_neg (by omega)]; exact eqs_cut he
      · refine z_bipush 23 dX4_cut_21 rfl ⟨by decide, by decide⟩ ?_
        refine z_ireturn rfl dX4_cut_23 (by decide) (by decide) ?_
        refine ⟨congrArg (fun z => some (vI z)) ?_, m, f, hR, ?_⟩
        · unfold a_cut cif; rw [if_pos (by omega)]
        · unfold s_cut cif; rw [if_pos (by omega)]; exact eqs.rf
