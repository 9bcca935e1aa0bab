theorem cLive_c {m m1 : Nat → Int → Int} (h : ∀ k, k = 60 ∨ k = 62 ∨ k = 64 → m1 k 0 = m k 0) {s : Nat} {j : Int} (hl : cLive m s j) : cLive m1 s j := by
  unfold cLive cN at hl ⊢
  rw [h 60 (by decide), h 62 (by decide), h 64 (by decide)]
  exact hl
theorem XI.lose {m : Nat → Int → Int} {f : Nat → Int → UInt32} (hX : XI m f) (p : Int) : XI (up2 m 10 p (-1)) f := by
  obtain ⟨x1, x2, x3, x4, x5, x6, x7⟩ := hX
  refine ⟨x1, x2, x3, x4, x5, fun q q0 q1 => ?_, x7⟩
  have hw : wt (up2 m 10 p (-1)) = wt m := wt_cong rfl rfl rfl rfl
  obtain ⟨y1, y2, y3, y4, y5, y6⟩ := x6 q q0 q1
  refine ⟨y1, by rw [hw]; exact y2, y3, y4, y5, fun i i0 i1 => ?_⟩
  rw [up_ite] at i1
  split at i1
  · exfalso; omega
  · exact y6 i i0 i1
/-- the class's new row of piece p -/
def crow (m : Nat → Int → Int) (p n i : Int) : Nat → Int → Int := fun K j => if K = 54 ∧ 8 * p ≤ j ∧ j < 8 * p + i then -1 else up2 m 10 p n K j
theorem crow_0 (m : Nat → Int → Int) (p n : Int) : crow m p n 0 = up2 m 10 p n := by
  funext k j; unfold crow; rw [if_neg]; omega
theorem crow_s (m : Nat → Int → Int) (p n i : Int) (hi : 0 ≤ i) : up2 (crow m p n i) 54 (8 * p + i) (-1) = crow m p n (i + 1) := by
  funext k j
  by_cases h : k = 54 ∧ j = 8 * p + i
  · obtain ⟨rfl, rfl⟩ := h
    rw [up2_s]; unfold crow; rw [if_pos]; omega
  · show (if k = 54 ∧ j = 8 * p + i then -1 else crow m p n i k j) = _
    rw [if_neg h]; unfold crow
    by_cases h2 : k = 54 ∧ 8 * p ≤ j ∧ j < 8 * p + i
    · rw [if_pos h2, if_pos (by omega)]
    · rw [if_neg h2, if_neg (by omega)]
theorem cp_row {m : Nat → Int → Int} {f : Nat → Int → UInt32} {a : Nat → Int → Nat} {t : zT} {p n : Int} (hR : CA (crow m p n n) f a t) (hW : WF m f) (hX : XI m f) (hp : there m p) (hn : 0 ≤ n ∧ n ≤ 8) : CP (a 0 0) (s_row m p n, f) t := by
  have e : s_row m p n = rowi m p n 8 := if_neg (fun h => by rcases h with h | h | h; exact h hp; omega; omega)
  rw [e]
  have h2 : CA (fun K j => if K = 54 ∧ 8 * p ≤ j ∧ j < 8 * p + n then -1 else rowi m p n 8 K j) f a t := hR.congr (fun K _ hK i => by
    have h11 : K ≠ 11 := fun q => by rw [q] at hK; revert hK; decide
    show (if K = 54 ∧ 8 * p ≤ i ∧ i < 8 * p + n then -1 else rowi m p n 8 K i) = crow m p n n K i
    unfold crow rowi
    rw [if_neg (show ¬ (K = 11 ∧ 8 * p ≤ i ∧ i < 8 * p + 8) by omega)]) (fun _ _ _ _ => rfl)
  refine CP.of h2 ?_ (eqs_p (fun k hk j => if_neg (by omega)) (fun _ _ _ => rfl))
  obtain ⟨x1, x2, x3, x4, x5, x6, x7⟩ := hX
  refine ⟨x1, x2, x3, x4, x5, fun q q0 q1 => ?_, x7⟩
  have hw : wt (fun K j => if K = 54 ∧ 8 * p ≤ j ∧ j < 8 * p + n then -1 else rowi m p n 8 K j) = wt m := wt_cong rfl rfl rfl rfl
  obtain ⟨y1, y2, y3, y4, y5, y6⟩ := x6 q q0 q1
  refine ⟨y1, by rw [hw]; exact y2, y3, y4, y5, fun i i0 i1 => ?_⟩
  have hb := hW.b q0 q1
  have i2 : i < (if q = p then n else m 10 q) := by have h9 : i < up2 m 10 p n 10 q := i1; rw [up_ite] at h9; exact h9
  have g54 : (if (54 : Nat) = 54 ∧ 8 * p ≤ 8 * q + i ∧ 8 * q + i < 8 * p + n then -1 else rowi m p n 8 54 (8 * q + i)) = if q = p then -1 else m 54 (8 * q + i) := by
    by_cases hq : q = p
    · rw [if_pos hq] at i2; rw [if_pos hq, if_pos (by omega)]
    · rw [if_neg hq] at i2; rw [if_neg hq, if_neg (by omega)]; rfl
  have g11 : rowi m p n 8 11 (8 * q + i) = if q = p then 0 else m 11 (8 * q + i) := by
    unfold rowi
    by_cases hq : q = p
    · rw [if_pos hq] at i2; rw [if_pos hq, if_pos (by omega)]
    · rw [if_neg hq] at i2; rw [if_neg hq, if_neg (by omega)]; rfl
  show -1 ≤ (if (54 : Nat) = 54 ∧ 8 * p ≤ 8 * q + i ∧ 8 * q + i < 8 * p + n then -1 else rowi m p n 8 54 (8 * q + i)) ∧ (if (54 : Nat) = 54 ∧ 8 * p ≤ 8 * q + i ∧ 8 * q + i < 8 * p + n then -1 else rowi m p n 8 54 (8 * q + i)) ≤ 8 ∧ (rowi m p n 8 11 (8 * q + i) = 1 ↔ 0 ≤ (if (54 : Nat) = 54 ∧ 8 * p ≤ 8 * q + i ∧ 8 * q + i < 8 * p + n then -1 else rowi m p n 8 54 (8 * q + i))) ∧ (rowi m p n 8 11 (8 * q + i) = 1 → m 52 (8 * q + i) = m 12 (8 * q + i) ∧ m 53 (8 * q + i) = m 13 (8 * q + i) ∧ f 14 (8 * q + i) = E8 (if (54 : Nat) = 54 ∧ 8 * p ≤ 8 * q + i ∧ 8 * q + i < 8 * p + n then -1 else rowi m p n 8 54 (8 * q + i)))
  rw [g54, g11]
  by_cases hq : q = p
  · rw [if_pos hq, if_pos hq]
    exact ⟨by decide, by decide, by decide, fun h => absurd h (by decide)⟩
  · rw [if_neg hq] at i2
    rw [if_neg hq, if_neg hq]
    exact y6 i i0 i2
theorem cp_spot {m : Nat → Int → Int} {f : Nat → Int → UInt32} {a : Nat → Int → Nat} {t : zT} {p i fr to e : Int} (hR : CA (up2 (up2 (up2 m 52 (8 * p + i) fr) 53 (8 * p + i) to) 54 (8 * p + i) e) f a t) (hW : WF m f) (hX : XI m f) (hno : ¬ (spot_no m p fr to e ∨ m 10 p < 0 ∨ i < 0 ∨ i ≥ m 10 p)) (he : -1 ≤ e ∧ e ≤ 8) : CP (a 0 0) (s_spot m f p i fr to e) t := by
  have es : s_spot m f p i fr to e = (up2 (up2 (up2 m 11 (8 * p + i) (cif (0 ≤ e) 1 0)) 12 (8 * p + i) fr) 13 (8 * p + i) to, up2 f 14 (8 * p + i) (E8 e)) := if_neg hno
  rw [es]
  have h2 := (((hR.up (k := 11) (by decide) (8 * p + i) (cif (0 ≤ e) 1 0)).up (k := 12) (by decide) (8 * p + i) fr).up (k := 13) (by decide) (8 * p + i) to).upf (k := 14) (by decide) (8 * p + i) (E8 e)
  refine CP.of h2 ?_ (eqs_p (fun k hk j => ?_) (fun _ _ _ => rfl))
  · obtain ⟨x1, x2, x3, x4, x5, x6, x7⟩ := hX
    refine ⟨x1, x2, x3, x4, x5, fun q q0 q1 => ?_, x7⟩
    have hw : wt (up2 (up2 (up2 (up2 (up2 (up2 m 52 (8 * p + i) fr) 53 (8 * p + i) to) 54 (8 * p + i) e) 11 (8 * p + i) (cif (0 ≤ e) 1 0)) 12 (8 * p + i) fr) 13 (8 * p + i) to) = wt m := wt_cong rfl rfl rfl rfl
    obtain ⟨y1, y2, y3, y4, y5, y6⟩ := x6 q q0 q1
    refine ⟨y1, by rw [hw]; exact y2, y3, y4, y5, fun j j0 j1 => ?_⟩
    have y7 := y6 j j0 j1
    simp only [up2, Nat.reduceEqDiff, true_and, false_and, reduceIte, cif]
    by_cases hj : 8 * q + j = 8 * p + i
    · simp only [if_pos hj]
      by_cases h0 : 0 ≤ e
      · simp only [if_pos h0]; exact ⟨he.1, he.2, ⟨fun _ => h0, fun _ => trivial⟩, fun _ => ⟨trivial, trivial, trivial⟩⟩
      · simp only [if_neg h0]; exact ⟨he.1, he.2, ⟨fun h => absurd h (by decide), fun h => absurd h h0⟩, fun h => absurd h (by decide)⟩
    · simp only [if_neg hj]; exact y7
  · simp only [up2]; (repeat' split) <;> first | rfl | omega
set_option maxRecDepth 20000 in
theorem c_isReel {t : zT} {q : Int} (hq : zi q) : zM yX3_isReel cX3_isReel 1 (some .boolean) 0 0 0 [vI q] t (fun r t1 => ∃ z, r = some (vI z) ∧ 0 ≤ z ∧ z ≤ 1 ∧ (z = 1 ↔ (0 ≤ q ∧ q < 6)) ∧ t1 = t) := by
  refine zM.of2 [(0, vI q)] (by decide +kernel) rfl (Nat.le_of_ble_eq_true rfl) ?_
  obtain ⟨hq1, hq2⟩ := hq
  refine z_iload_n 1 dX3_isReel_0 rfl rfl ?_
  refine z_if_lt 14 4 dX3_isReel_1 (by decide) rfl ⟨by omega, by omega⟩ (fun h1 => ?_) (fun h1 => ?_)
  · refine z_iconst 15 dX3_isReel_14 rfl ?_
    refine z_zreturn rfl (by first | exact Or.inl rfl | exact Or.inr rfl | omega) dX3_isReel_15 (by decide) (by decide) ?_
    exact ⟨_, rfl, by omega, by omega, by omega, rfl⟩
  · refine z_iload_n 5 dX3_isReel_4 rfl rfl ?_
    refine z_bipush 7 dX3_isReel_5 rfl ⟨by decide, by decide⟩ ?_
    refine z_icmp_ge 14 10 dX3_isReel_7 (by decide) rfl ⟨by omega, by omega⟩ ⟨by omega, by omega⟩ (fun h7 => ?_) (fun h7 => ?_)
    · refine z_iconst 15 dX3_isReel_14 rfl ?_
      refine z_zreturn rfl (by first | exact Or.inl rfl | exact Or.inr rfl | omega) dX3_isReel_15 (by decide) (by decide) ?_
      exact ⟨_, rfl, by omega, by omega, by omega, rfl⟩
    · refine z_iconst 11 dX3_isReel_10 rfl ?_
      refine z_goto 15 dX3_isReel_11 (by decide) ?_
      refine z_zreturn rfl (by first | exact Or.inl rfl | exact Or.inr rfl | omega) dX3_isReel_15 (by decide) (by decide) ?_
      exact ⟨_, rfl, by omega, by omega, by omega, rfl⟩
set_option maxRecDepth 20000 in
theorem c_canAskLoad {t : zT} {l : Int} (hl : zi l) {w : Int} (hw : zi w) : zM yX3_canAskLoad cX3_canAskLoad 2 (some .boolean) 0 0 0 [vI l, vI w] t (fun r t1 => ∃ z, r = some (vI z) ∧ 0 ≤ z ∧ z ≤ 1 ∧ (z = 1 ↔ (0 ≤ l ∧ l ≤ 1000000 ∧ 0 ≤ w ∧ w ≤ 1)) ∧ t1 = t) := by
  refine zM.of2 [(0, vI l), (1, vI w)] (by decide +kernel) rfl (Nat.le_of_ble_eq_true rfl) ?_
  obtain ⟨hl1, hl2⟩ := hl
  obtain ⟨hw1, hw2⟩ := hw
  refine z_iload_n 1 dX3_canAskLoad_0 rfl rfl ?_
  refine z_if_lt 23 4 dX3_canAskLoad_1 (by decide) rfl ⟨by omega, by omega⟩ (fun h1 => ?_) (fun h1 => ?_)
  · refine z_iconst 24 dX3_canAskLoad_23 rfl ?_
    refine z_zreturn rfl (by first | exact Or.inl rfl | exact Or.inr rfl | omega) dX3_canAskLoad_24 (by decide) (by decide) ?_
    exact ⟨_, rfl, by omega, by omega, by omega, rfl⟩
  · refine z_iload_n 5 dX3_canAskLoad_4 rfl rfl ?_
    refine z_ldc 7 co_X3_232 dX3_canAskLoad_5 rfl ?_
    refine z_icmp_gt 23 10 dX3_canAskLoad_7 (by decide) rfl ⟨by omega, by omega⟩ ⟨by omega, by omega⟩ (fun h7 => ?_) (fun h7 => ?_)
    · refine z_iconst 24 dX3_canAskLoad_23 rfl ?_
      refine z_zreturn rfl (by first | exact Or.inl rfl | exact Or.inr rfl | omega) dX3_canAskLoad_24 (by decide) (by decide) ?_
      exact ⟨_, rfl, by omega, by omega, by omega, rfl⟩
    · refine z_iload_n 11 dX3_canAskLoad_10 rfl rfl ?_
      refine z_if_eq 19 14 dX3_canAskLoad_11 (by decide) rfl ⟨by omega, by omega⟩ (fun h11 => ?_) (fun h11 => ?_)
      · refine z_iconst 20 dX3_canAskLoad_19 rfl ?_
        refine z_goto 24 dX3_canAskLoad_20 (by decide) ?_
        refine z_zreturn rfl (by first | exact Or.inl rfl | exact Or.inr rfl | omega) dX3_canAskLoad_24 (by decide) (by decide) ?_
        exact ⟨_, rfl, by omega, by omega, by omega, rfl⟩
      · refine z_iload_n 15 dX3_canAskLoad_14 rfl rfl ?_
        refine z_iconst 16 dX3_canAskLoad_15 rfl ?_
        refine z_icmp_ne 23 19 dX3_canAskLoad_16 (by decide) rfl ⟨by omega, by omega⟩ ⟨by omega, by omega⟩ (fun h16 => ?_) (fun h16 => ?_)
        · refine z_iconst 24 dX3_canAskLoad_23 rfl ?_
          refine z_zreturn rfl (by first | exact Or.inl rfl | exact Or.inr rfl | omega) dX3_canAskLoad_24 (by decide) (by decide) ?_
          exact ⟨_, rfl, by omega, by omega, by omega, rfl⟩
        · refine z_iconst 20 dX3_canAskLoad_19 rfl ?_
          refine z_goto 24 dX3_canAskLoad_20 (by decide) ?_
          refine z_zreturn rfl (by first | exact Or.inl rfl | exact Or.inr rfl | omega) dX3_canAskLoad_24 (by decide) (by decide) ?_
          exact ⟨_, rfl, by omega, by omega, by omega, rfl⟩
set_option maxRecDepth 20000 in
theorem c_piecesThatAre {m : Nat → Int → Int} {f : Nat → Int → UInt32} {a : Nat → Int → Nat} {t : zT} (hR : CA m f a t) {w : Int} (hw : zi w) (hW : WF m f) (hX : XI m f) : zM yX3_piecesThatAre cX3_piecesThatAre 4 (some .int) 0 0 0 [vR (rf a 0 0), vI w] t (fun r t1 => r = some (vI (cntp m w (m 0 0).toNat)) ∧ CA m f a t1) := by
  refine zM.of2 [(0, vR (rf a 0 0)), (1, vI w)] (by decide +kernel) rfl (Nat.le_of_ble_eq_true rfl) ?_
  obtain ⟨hw1, hw2⟩ := hw
  have hn1 := hW.n.1
  have hn2 := hW.n.2
  have h60 := hX.1.1
  have h62 := hX.1.2.1
  have h64 := hX.1.2.2
  have L4 : ∀ (fuel : Nat) (k : Nat) (t : zT) (hR : CA m f a t) (hk : (k : Int) ≤ m 0 0) (hf : m 0 0 - k < (fuel : Int)), zOK yX3_piecesThatAre cX3_piecesThatAre 4 (some .int) 0 0 0 (fun r t1 => r = some (vI (cntp m w (m 0 0).toNat)) ∧ CA m f a t1) 0 0 4 [(3, vI (k : Int)), (2, vI (cntp m w k)), (0, vR (rf a 0 0)), (1, vI w)] [] t := by
    intro fuel
    induction fuel with
    | zero => intro k t hR hk hf; exfalso; omega
    | succ fuel ih4 =>
      intro k t hR hk hf
      have hb := fun (h : (k : Int) < m 0 0) => hW.b (p := k) (by omega) h
      have hcb := cntp_b (m := m) (s := w) (n := k)
      refine z_iload_n 5 dX3_piecesThatAre_4 rfl rfl ?_
      refine z_aload_n 6 dX3_piecesThatAre_5 rfl rfl ?_
      refine c_getI 9 0 hR fl_X3_40 (by decide) (show cLive m 0 0 from l0) (show _ = m 0 0 from rfl) dX3_piecesThatAre_6 rfl ?_
      refine z_icmp_ge 49 12 dX3_piecesThatAre_9 (by decide) rfl ⟨by omega, by omega⟩ ⟨by omega, by omega⟩ (fun h9 => ?_) (fun h9 => ?_)
      · refine z_iload_n 50 dX3_piecesThatAre_49 rfl rfl ?_
        refine z_ireturn rfl dX3_piecesThatAre_50 (by decide) (by decide) ?_
        have hkk : k = (m 0 0).toNat := by omega
        subst hkk
        exact ⟨rfl, hR⟩
      · refine z_iload_n 13 dX3_piecesThatAre_12 rfl rfl ?_
        refine z_bipush 15 dX3_piecesThatAre_13 rfl ⟨by decide, by decide⟩ ?_
        refine z_icmp_ge 49 18 dX3_piecesThatAre_15 (by decide) rfl ⟨by omega, by omega⟩ ⟨by omega, by omega⟩ (fun h15 => ?_) (fun h15 => ?_)
        · refine z_iload_n 50 dX3_piecesThatAre_49 rfl rfl ?_
          refine z_ireturn rfl dX3_piecesThatAre_50 (by decide) (by decide) ?_
          have hkk : k = (m 0 0).toNat := by omega
          subst hkk
          exact ⟨rfl, hR⟩
        · refine z_aload_n 19 dX3_piecesThatAre_18 rfl rfl ?_
          refine c_getL 22 1 hR fl_X3_11 (by decide) (show cLive m 0 0 from l0) dX3_piecesThatAre_19 rfl ?_
          refine z_iload_n 23 dX3_piecesThatAre_22 rfl rfl ?_
          refine c_aald 24 61 hR (c := 1) 120 (by decide) (show _ = (k : Int) from rfl) (show cLive m 1 0 from l1) rfl (by decide) ⟨by omega, by omega⟩ (show _ = (k : Int) from (hX.pc (by omega) (by omega) (by omega))) dX3_piecesThatAre_23 rfl (fun hl23 => ?_)
          refine c_ifnull 43 27 dX3_piecesThatAre_24 (by decide) rfl  (fun h24 => ?_) (fun h24 => ?_)
          · exfalso; omega
          refine z_aload_n 28 dX3_piecesThatAre_27 rfl rfl ?_
          refine c_getL 31 1 hR fl_X3_11 (by decide) (show cLive m 0 0 from l0) dX3_piecesThatAre_28 rfl ?_
          refine z_iload_n 32 dX3_piecesThatAre_31 rfl rfl ?_
          refine c_aald 33 61 hR (c := 1) 120 (by decide) (show _ = (k : Int) from rfl) (show cLive m 1 0 from l1) rfl (by decide) ⟨by omega, by omega⟩ (show _ = (k : Int) from (hX.pc (by omega) (by omega) (by omega))) dX3_piecesThatAre_32 rfl (fun hl32 => ?_)
          refine c_getI 36 4 hR fl_X3_67 (by decide) (show cLive m 6 ((k : Int)) from lp ⟨by omega, by omega⟩) (show _ = m 4 ((k : Int)) from rfl) dX3_piecesThatAre_33 rfl ?_
          refine z_iload_n 37 dX3_piecesThatAre_36 rfl rfl ?_
          refine z_icmp_ne 43 40 dX3_piecesThatAre_37 (by decide) rfl ⟨by omega, by omega⟩ ⟨by omega, by omega⟩ (fun h37 => ?_) (fun h37 => ?_)
          · refine z_sub (lv' := [(2, vI (cntp m w (k + 1))), (3, _), (0, _), (1, _)]) ⟨congrArg (fun z => some (vI z)) (show _ = cntp m w k + (if m 4 k = w then 1 else 0) by split <;> omega), rfl, rfl, rfl, trivial⟩ ?_
            refine z_iinc (lv' := [(3, _), (2, _), (0, _), (1, _)]) 46 dX3_piecesThatAre_43 rfl rfl rfl rfl ?_
            refine z_goto 4 dX3_piecesThatAre_46 (by decide) ?_
            refine z_sub (lv' := [(3, _), (2, _), (0, _), (1, _)]) ⟨rfl, rfl, rfl, rfl, trivial⟩ ?_
            exact ih4 (k + 1) _ hR (by omega) (by omega)
          · refine z_iinc (lv' := [(2, _), (3, _), (0, _), (1, _)]) 43 dX3_piecesThatAre_40 rfl rfl rfl rfl ?_
            refine z_sub (lv' := [(2, vI (cntp m w (k + 1))), (3, _), (0, _), (1, _)]) ⟨congrArg (fun z => some (vI z)) (show _ = cntp m w k + (if m 4 k = w then 1 else 0) by split <;> omega), rfl, rfl, rfl, trivial⟩ ?_
            refine z_iinc (lv' := [(3, _), (2, _), (0, _), (1, _)]) 46 dX3_piecesThatAre_43 rfl rfl rfl rfl ?_
            refine z_goto 4 dX3_piecesThatAre_46 (by decide) ?_
            refine z_sub (lv' := [(3, _), (2, _), (0, _), (1, _)]) ⟨rfl, rfl, rfl, rfl, trivial⟩ ?_
            exact ih4 (k + 1) _ hR (by omega) (by omega)
  refine z_iconst 1 dX3_piecesThatAre_0 rfl ?_
  refine z_istore_n (lv' := [(2, _), (0, _), (1, _)]) 2 dX3_piecesThatAre_1 rfl rfl rfl ?_
  refine z_iconst 3 dX3_piecesThatAre_2 rfl ?_
  refine z_istore_n (lv' := [(3, _), (2, _), (0, _), (1, _)]) 4 dX3_piecesThatAre_3 rfl rfl rfl ?_
  refine z_sub (lv' := [(3, _), (2, _), (0, _), (1, _)]) ⟨rfl, rfl, rfl, rfl, trivial⟩ ?_
  exact L4 121 0 _ hR (by omega) (by omega)
set_option maxRecDepth 20000 in
theorem c_cutOrders {m : Nat → Int → Int} {f : Nat → Int → UInt32} {a : Nat → Int → Nat} {t : zT} (hR : CA m f a t) (hW : WF m f) (hX : XI m f) : zM yX3_cutOrders cX3_cutOrders 3 (some .int) 0 0 0 [vR (rf a 0 0)] t (fun r t1 => r = some (vI (cntc m (m 18 0).toNat)) ∧ CA m f a t1) := by
  refine zM.of2 [(0, vR (rf a 0 0))] (by decide +kernel) rfl (Nat.le_of_ble_eq_true rfl) ?_
  have hn1 := hW.n.1
  have hn2 := hW.n.2
  have h60 := hX.1.1
  have h62 := hX.1.2.1
  have h64 := hX.1.2.2
  obtain ⟨ho1, ho2, ho3⟩ := hW.2.2.2.2.1
  have L4 : ∀ (fuel : Nat) (k : Nat) (t : zT) (hR : CA m f a t) (hk : (k : Int) ≤ m 18 0) (hf : m 18 0 - k < (fuel : Int)), zOK yX3_cutOrders cX3_cutOrders 3 (some .int) 0 0 0 (fun r t1 => r = some (vI (cntc m (m 18 0).toNat)) ∧ CA m f a t1) 0 0 4 [(2, vI (k : Int)), (1, vI (cntc m k)), (0, vR (rf a 0 0))] [] t := by
    intro fuel
    induction fuel with
    | zero => intro k t hR hk hf; exfalso; omega
    | succ fuel ih4 =>
      intro k t hR hk hf
      have hb := fun (h : (k : Int) < m 18 0) => ho3 k (by omega) h
      have hcb := cntc_b (m := m) (n := k)
      refine z_iload_n 5 dX3_cutOrders_4 rfl rfl ?_
      refine z_aload_n 6 dX3_cutOrders_5 rfl rfl ?_
      refine c_getI 9 18 hR fl_X3_143 (by decide) (show cLive m 0 0 from l0) (show _ = m 18 0 from rfl) dX3_cutOrders_6 rfl ?_
      refine z_icmp_ge 48 12 dX3_cutOrders_9 (by decide) rfl ⟨by omega, by omega⟩ ⟨by omega, by omega⟩ (fun h9 => ?_) (fun h9 => ?_)
      · refine z_iload_n 49 dX3_cutOrders_48 rfl rfl ?_
        refine z_ireturn rfl dX3_cutOrders_49 (by decide) (by decide) ?_
        have hkk : k = (m 18 0).toNat := by omega
        subst hkk
        exact ⟨rfl, hR⟩
      · refine z_iload_n 13 dX3_cutOrders_12 rfl rfl ?_
        refine z_bipush 15 dX3_cutOrders_13 rfl ⟨by decide, by decide⟩ ?_
        refine z_icmp_ge 48 18 dX3_cutOrders_15 (by decide) rfl ⟨by omega, by omega⟩ ⟨by omega, by omega⟩ (fun h15 => ?_) (fun h15 => ?_)
        · refine z_iload_n 49 dX3_cutOrders_48 rfl rfl ?_
          refine z_ireturn rfl dX3_cutOrders_49 (by decide) (by decide) ?_
          have hkk : k = (m 18 0).toNat := by omega
          subst hkk
          exact ⟨rfl, hR⟩
        · refine z_aload_n 19 dX3_cutOrders_18 rfl rfl ?_
          refine c_getL 22 4 hR fl_X3_26 (by decide) (show cLive m 0 0 from l0) dX3_cutOrders_19 rfl ?_
          refine z_iload_n 23 dX3_cutOrders_22 rfl rfl ?_
          refine c_aald 24 63 hR (c := 1) 6 (by decide) (show _ = (k : Int) from rfl) (show cLive m 4 0 from l4) rfl (by decide) ⟨by omega, by omega⟩ (show _ = (k : Int) from (hX.od (by omega) (by omega) (by omega))) dX3_cutOrders_23 rfl (fun hl23 => ?_)
          refine c_ifnull 42 27 dX3_cutOrders_24 (by decide) rfl  (fun h24 => ?_) (fun h24 => ?_)
          · exfalso; omega
          refine z_aload_n 28 dX3_cutOrders_27 rfl rfl ?_
          refine c_getL 31 4 hR fl_X3_26 (by decide) (show cLive m 0 0 from l0) dX3_cutOrders_28 rfl ?_
          refine z_iload_n 32 dX3_cutOrders_31 rfl rfl ?_
          refine c_aald 33 63 hR (c := 1) 6 (by decide) (show _ = (k : Int) from rfl) (show cLive m 4 0 from l4) rfl (by decide) ⟨by omega, by omega⟩ (show _ = (k : Int) from (hX.od (by omega) (by omega) (by omega))) dX3_cutOrders_32 rfl (fun hl32 => ?_)
          refine c_getI 36 21 hR fl_X3_292 (by decide) (show cLive m 14 ((k : Int)) from lo ⟨by omega, by omega⟩) (show _ = m 21 ((k : Int)) from rfl) dX3_cutOrders_33 rfl ?_
          refine z_if_lt 42 39 dX3_cutOrders_36 (by decide) rfl ⟨by omega, by omega⟩ (fun h36 => ?_) (fun h36 => ?_)
          · refine z_sub (lv' := [(1, vI (cntc m (k + 1))), (2, _), (0, _)]) ⟨congrArg (fun z => some (vI z)) (show _ = cntc m k + (if 0 ≤ m 21 k then 1 else 0) by split <;> omega), rfl, rfl, trivial⟩ ?_
            refine z_iinc (lv' := [(2, _), (1, _), (0, _)]) 45 dX3_cutOrders_42 rfl rfl rfl rfl ?_
            refine z_goto 4 dX3_cutOrders_45 (by decide) ?_
            refine z_sub (lv' := [(2, _), (1, _), (0, _)]) ⟨rfl, rfl, rfl, trivial⟩ ?_
            exact ih4 (k + 1) _ hR (by omega) (by omega)
          · refine z_iinc (lv' := [(1, _), (2, _), (0, _)]) 42 dX3_cutOrders_39 rfl rfl rfl rfl ?_
            refine z_sub (lv' := [(1, vI (cntc m (k + 1))), (2, _), (0, _)]) ⟨congrArg (fun z => some (vI z)) (show _ = cntc m k + (if 0 ≤ m 21 k then 1 else 0) by split <;> omega), rfl, rfl, trivial⟩ ?_
            refine z_iinc (lv' := [(2, _), (1, _), (0, _)]) 45 dX3_cutOrders_42 rfl rfl rfl rfl ?_
            refine z_goto 4 dX3_cutOrders_45 (by decide) ?_
            refine z_sub (lv' := [(2, _), (1, _), (0, _)]) ⟨rfl, rfl, rfl, trivial⟩ ?_
            exact ih4 (k + 1) _ hR (by omega) (by omega)
  refine z_iconst 1 dX3_cutOrders_0 rfl ?_
  refine z_istore_n (lv' := [(1, _), (0, _)]) 2 dX3_cutOrders_1 rfl rfl rfl ?_
  refine z_iconst 3 dX3_cutOrders_2 rfl ?_
  refine z_istore_n (lv' := [(2, _), (1, _), (0, _)]) 4 dX3_cutOrders_3 rfl rfl rfl ?_
  refine z_sub (lv' := [(2, _), (1, _), (0, _)]) ⟨rfl, rfl, rfl, trivial⟩ ?_
  exact L4 7 0 _ hR (by omega) (by omega)
set_option maxRecDepth 20000 in
theorem c_isCutFrom {m : Nat → Int → Int} {f : Nat → Int → UInt32} {a : Nat → Int → Nat} {t : zT} (hR : CA m f a t) {q : Int} (hq : zi q) (hW : WF m f) (hX : XI m f) : zM yX3_isCutFrom cX3_isCutFrom 3 (some .boolean) 0 0 0 [vR (rf a 0 0), vI q] t (fun r t1 => ∃ z, r = some (vI z) ∧ 0 ≤ z ∧ z ≤ 1 ∧ (z = 1 ↔ cutfr m q) ∧ CA m f a t1) := by
  refine zM.of2 [(0, vR (rf a 0 0)), (1, vI q)] (by decide +kernel) rfl (Nat.le_of_ble_eq_true rfl) ?_
  obtain ⟨hq1, hq2⟩ := hq
  have hn1 := hW.n.1
  have hn2 := hW.n.2
  have h60 := hX.1.1
  have h62 := hX.1.2.1
  have h64 := hX.1.2.2
  obtain ⟨ho1, ho2, ho3⟩ := hW.2.2.2.2.1
  have L2 : ∀ (fuel : Nat) (k : Int) (t : zT) (hR : CA m f a t) (hk : 0 ≤ k ∧ k ≤ m 18 0) (hno : ∀ o, 0 ≤ o → o < k → m 21 o ≠ q) (hf : m 18 0 - k < (fuel : Int)), zOK yX3_isCutFrom cX3_isCutFrom 3 (some .boolean) 0 0 0 (fun r t1 => ∃ z, r = some (vI z) ∧ 0 ≤ z ∧ z ≤ 1 ∧ (z = 1 ↔ cutfr m q) ∧ CA m f a t1) 0 0 2 [(2, vI k), (0, vR (rf a 0 0)), (1, vI q)] [] t := by
    intro fuel
    induction fuel with
    | zero => intro k t hR hk hno hf; exfalso; omega
    | succ fuel ih2 =>
      intro k t hR hk hno hf
      have hb := fun (h : k < m 18 0) => ho3 k hk.1 h
      refine z_iload_n 3 dX3_isCutFrom_2 rfl rfl ?_
      refine z_aload_n 4 dX3_isCutFrom_3 rfl rfl ?_
      refine c_getI 7 18 hR fl_X3_143 (by decide) (show cLive m 0 0 from l0) (show _ = m 18 0 from rfl) dX3_isCutFrom_4 rfl ?_
      refine z_icmp_ge 46 10 dX3_isCutFrom_7 (by decide) rfl ⟨by omega, by omega⟩ ⟨by omega, by omega⟩ (fun h7 => ?_) (fun h7 => ?_)
      · refine z_iconst 47 dX3_isCutFrom_46 rfl ?_
        refine z_zreturn rfl (by first | exact Or.inl rfl | exact Or.inr rfl | omega) dX3_isCutFrom_47 (by decide) (by decide) ?_
        refine ⟨0, rfl, by decide, by decide, ⟨fun h => by omega, fun h => ?_⟩, hR⟩
        obtain ⟨i, i0, i1, i2⟩ := h
        exact absurd i2 (hno i i0 (by omega))
      · refine z_iload_n 11 dX3_isCutFrom_10 rfl rfl ?_
        refine z_bipush 13 dX3_isCutFrom_11 rfl ⟨by decide, by decide⟩ ?_
        refine z_icmp_ge 46 16 dX3_isCutFrom_13 (by decide) rfl ⟨by omega, by omega⟩ ⟨by omega, by omega⟩ (fun h13 => ?_) (fun h13 => ?_)
        · refine z_iconst 47 dX3_isCutFrom_46 rfl ?_
          refine z_zreturn rfl (by first | exact Or.inl rfl | exact Or.inr rfl | omega) dX3_isCutFrom_47 (by decide) (by decide) ?_
          refine ⟨0, rfl, by decide, by decide, ⟨fun h => by omega, fun h => ?_⟩, hR⟩
          obtain ⟨i, i0, i1, i2⟩ := h
          exact absurd i2 (hno i i0 (by omega))
        · refine z_aload_n 17 dX3_isCutFrom_16 rfl rfl ?_
          refine c_getL 20 4 hR fl_X3_26 (by decide) (show cLive m 0 0 from l0) dX3_isCutFrom_17 rfl ?_
          refine z_iload_n 21 dX3_isCutFrom_20 rfl rfl ?_
          refine c_aald 22 63 hR (c := 1) 6 (by decide) (show _ = k from rfl) (show cLive m 4 0 from l4) rfl (by decide) ⟨by omega, by omega⟩ (show _ = k from (hX.od (by omega) (by omega) (by omega))) dX3_isCutFrom_21 rfl (fun hl21 => ?_)
          refine c_ifnull 40 25 dX3_isCutFrom_22 (by decide) rfl  (fun h22 => ?_) (fun h22 => ?_)
          · exfalso; omega
          refine z_aload_n 26 dX3_isCutFrom_25 rfl rfl ?_
          refine c_getL 29 4 hR fl_X3_26 (by decide) (show cLive m 0 0 from l0) dX3_isCutFrom_26 rfl ?_
          refine z_iload_n 30 dX3_isCutFrom_29 rfl rfl ?_
          refine c_aald 31 63 hR (c := 1) 6 (by decide) (show _ = k from rfl) (show cLive m 4 0 from l4) rfl (by decide) ⟨by omega, by omega⟩ (show _ = k from (hX.od (by omega) (by omega) (by omega))) dX3_isCutFrom_30 rfl (fun hl30 => ?_)
          refine c_getI 34 21 hR fl_X3_292 (by decide) (show cLive m 14 k from lo ⟨by omega, by omega⟩) (show _ = m 21 k from rfl) dX3_isCutFrom_31 rfl ?_
          refine z_iload_n 35 dX3_isCutFrom_34 rfl rfl ?_
          refine z_icmp_ne 40 38 dX3_isCutFrom_35 (by decide) rfl ⟨by omega, by omega⟩ ⟨by omega, by omega⟩ (fun h35 => ?_) (fun h35 => ?_)
          · refine z_iinc (lv' := [(2, _), (0, _), (1, _)]) 43 dX3_isCutFrom_40 rfl rfl rfl rfl ?_
            refine z_goto 2 dX3_isCutFrom_43 (by decide) ?_
            refine z_sub (lv' := [(2, _), (0, _), (1, _)]) ⟨rfl, rfl, rfl, trivial⟩ ?_
            exact ih2 _ _ hR (by omega) (fun i a b => by by_cases e : i = k; (rw [e]; omega); exact hno i a (by omega)) (by omega)
          · refine z_iconst 39 dX3_isCutFrom_38 rfl ?_
            refine z_zreturn rfl (by first | exact Or.inl rfl | exact Or.inr rfl | omega) dX3_isCutFrom_39 (by decide) (by decide) ?_
            exact ⟨1, rfl, by decide, by decide, ⟨fun _ => ⟨k, by omega, by omega, by omega⟩, fun _ => rfl⟩, hR⟩
  refine z_iconst 1 dX3_isCutFrom_0 rfl ?_
  refine z_istore_n (lv' := [(2, _), (0, _), (1, _)]) 2 dX3_isCutFrom_1 rfl rfl rfl ?_
  refine z_sub (lv' := [(2, _), (0, _), (1, _)]) ⟨rfl, rfl, rfl, trivial⟩ ?_
  exact L2 7 _ _ hR (by omega) (fun i a b => by omega) (by omega)
set_option maxRecDepth 20000 in
theorem c_count {m : Nat → Int → Int} {f : Nat → Int → UInt32} {a : Nat → Int → Nat} {t : zT} (hR : CA m f a t) {w : Int} (hw : zi w) (hW : WF m f) (hX : XI m f) : zM yX3_count cX3_count 2 (some .int) 1 0 0 [vR (rf a 0 0), vI w] t (fun r t1 => r = some (vI (a_count m w)) ∧ CP (a 0 0) (m, f) t1) := by
  refine zM.of2 [(0, vR (rf a 0 0)), (1, vI w)] (by decide +kernel) rfl (Nat.le_of_ble_eq_true rfl) ?_
  obtain ⟨hw1, hw2⟩ := hw
  have hn1 := hW.n.1
  have hn2 := hW.n.2
  have h60 := hX.1.1
  have h62 := hX.1.2.1
  have h64 := hX.1.2.2
  obtain ⟨ho1, ho2, ho3⟩ := hW.2.2.2.2.1
  refine z_iload_n 1 dX3_count_0 rfl rfl ?_
  by_cases hs1 : w < 0 ∨ 8 < w
  · refine z_swOut 101 dX3_count_1 ⟨by omega, by omega⟩ hs1 (by decide) ?_
    refine z_bipush 103 dX3_count_101 rfl ⟨by decide, by decide⟩ ?_
    refine z_ireturn rfl dX3_count_103 (by decide) (by decide) ?_
    refine ⟨congrArg (fun z => some (vI z)) ?_, CP.rf hR hX⟩
    unfold a_count
    (repeat' split) <;> first | rfl | omega
  · obtain hs1 | hs1 | hs1 | hs1 | hs1 | hs1 | hs1 | hs1 | hs1 : w = 0 ∨ w = 1 ∨ w = 2 ∨ w = 3 ∨ w = 4 ∨ w = 5 ∨ w = 6 ∨ w = 7 ∨ w = 8 := by omega
    · refine z_swIn 52 dX3_count_1 ⟨by omega, by omega⟩ (by omega) (by omega) (by rw [hs1]; rfl) (by decide) ?_
      refine z_aload_n 53 dX3_count_52 rfl rfl ?_
      refine c_getI 56 0 hR fl_X3_40 (by decide) (show cLive m 0 0 from l0) (show _ = m 0 0 from rfl) dX3_count_53 rfl ?_
      refine z_ireturn rfl dX3_count_56 (by decide) (by decide) ?_
      refine ⟨congrArg (fun z => some (vI z)) ?_, CP.rf hR hX⟩
      rw [hs1]; unfold a_count; first | done | rfl
    · refine z_swIn 57 dX3_count_1 ⟨by omega, by omega⟩ (by omega) (by omega) (by rw [hs1]; rfl) (by decide) ?_
      refine z_aload_n 58 dX3_count_57 rfl rfl ?_
      refine z_iconst 59 dX3_count_58 rfl ?_
      refine z_callV 62 [_] la_X3_piecesThatAre ml_X3_140 im_X3_piecesThatAre se_X3_piecesThatAre (hR.lv 0 0 (by decide) l0).1 (hR.lv 0 0 (by decide) l0).2.1 (by decide) rfl rfl (c_piecesThatAre hR ⟨by decide, by decide⟩ hW hX) rfl rfl (by decide) (Nat.le_of_ble_eq_true rfl) (by decide) (by decide) dX3_count_59 rfl (fun r t hq => ?_)
      obtain ⟨rfl, hR⟩ := hq
      refine z_ireturn rfl dX3_count_62 (by decide) (by decide) ?_
      refine ⟨congrArg (fun z => some (vI z)) ?_, CP.rf hR hX⟩
      rw [hs1]; unfold a_count; first | done | rfl
    · refine z_swIn 63 dX3_count_1 ⟨by omega, by omega⟩ (by omega) (by omega) (by rw [hs1]; rfl) (by decide) ?_
      refine z_aload_n 64 dX3_count_63 rfl rfl ?_
      refine z_iconst 65 dX3_count_64 rfl ?_
      refine z_callV 68 [_] la_X3_piecesThatAre ml_X3_140 im_X3_piecesThatAre se_X3_piecesThatAre (hR.lv 0 0 (by decide) l0).1 (hR.lv 0 0 (by decide) l0).2.1 (by decide) rfl rfl (c_piecesThatAre hR ⟨by decide, by decide⟩ hW hX) rfl rfl (by decide) (Nat.le_of_ble_eq_true rfl) (by decide) (by decide) dX3_count_65 rfl (fun r t hq => ?_)
      obtain ⟨rfl, hR⟩ := hq
      refine z_ireturn rfl dX3_count_68 (by decide) (by decide) ?_
      refine ⟨congrArg (fun z => some (vI z)) ?_, CP.rf hR hX⟩
      rw [hs1]; unfold a_count; first | done | rfl
    · refine z_swIn 69 dX3_count_1 ⟨by omega, by omega⟩ (by omega) (by omega) (by rw [hs1]; rfl) (by decide) ?_
      refine z_aload_n 70 dX3_count_69 rfl rfl ?_
      refine z_iconst 71 dX3_count_70 rfl ?_
      refine z_callV 74 [_] la_X3_piecesThatAre ml_X3_140 im_X3_piecesThatAre se_X3_piecesThatAre (hR.lv 0 0 (by decide) l0).1 (hR.lv 0 0 (by decide) l0).2.1 (by decide) rfl rfl (c_piecesThatAre hR ⟨by decide, by decide⟩ hW hX) rfl rfl (by decide) (Nat.le_of_ble_eq_true rfl) (by decide) (by decide) dX3_count_71 rfl (fun r t hq => ?_)
      obtain ⟨rfl, hR⟩ := hq
      refine z_ireturn rfl dX3_count_74 (by decide) (by decide) ?_
      refine ⟨congrArg (fun z => some (vI z)) ?_, CP.rf hR hX⟩
      rw [hs1]; unfold a_count; first | done | rfl
    · refine z_swIn 75 dX3_count_1 ⟨by omega, by omega⟩ (by omega) (by omega) (by rw [hs1]; rfl) (by decide) ?_
      refine z_aload_n 76 dX3_count_75 rfl rfl ?_
      refine z_iconst 77 dX3_count_76 rfl ?_
      refine z_callV 80 [_] la_X3_piecesThatAre ml_X3_140 im_X3_piecesThatAre se_X3_piecesThatAre (hR.lv 0 0 (by decide) l0).1 (hR.lv 0 0 (by decide) l0).2.1 (by decide) rfl rfl (c_piecesThatAre hR ⟨by decide, by decide⟩ hW hX) rfl rfl (by decide) (Nat.le_of_ble_eq_true rfl) (by decide) (by decide) dX3_count_77 rfl (fun r t hq => ?_)
      obtain ⟨rfl, hR⟩ := hq
      refine z_ireturn rfl dX3_count_80 (by decide) (by decide) ?_
      refine ⟨congrArg (fun z => some (vI z)) ?_, CP.rf hR hX⟩
      rw [hs1]; unfold a_count; first | done | rfl
    · refine z_swIn 81 dX3_count_1 ⟨by omega, by omega⟩ (by omega) (by omega) (by rw [hs1]; rfl) (by decide) ?_
      refine z_aload_n 82 dX3_count_81 rfl rfl ?_
      refine c_getI 85 15 hR fl_X3_77 (by decide) (show cLive m 0 0 from l0) (show _ = m 15 0 from rfl) dX3_count_82 rfl ?_
      refine z_ireturn rfl dX3_count_85 (by decide) (by decide) ?_
      refine ⟨congrArg (fun z => some (vI z)) ?_, CP.rf hR hX⟩
      rw [hs1]; unfold a_count; first | done | rfl
    · refine z_swIn 86 dX3_count_1 ⟨by omega, by omega⟩ (by omega) (by omega) (by rw [hs1]; rfl) (by decide) ?_
      refine z_aload_n 87 dX3_count_86 rfl rfl ?_
      refine c_getI 90 18 hR fl_X3_143 (by decide) (show cLive m 0 0 from l0) (show _ = m 18 0 from rfl) dX3_count_87 rfl ?_
      refine z_ireturn rfl dX3_count_90 (by decide) (by decide) ?_
      refine ⟨congrArg (fun z => some (vI z)) ?_, CP.rf hR hX⟩
      rw [hs1]; unfold a_count; first | done | rfl
    · refine z_swIn 91 dX3_count_1 ⟨by omega, by omega⟩ (by omega) (by omega) (by rw [hs1]; rfl) (by decide) ?_
      refine z_aload_n 92 dX3_count_91 rfl rfl ?_
      refine z_callV 95 [] la_X3_cutOrders ml_X3_146 im_X3_cutOrders se_X3_cutOrders (hR.lv 0 0 (by decide) l0).1 (hR.lv 0 0 (by decide) l0).2.1 (by decide) rfl rfl (c_cutOrders hR hW hX) rfl rfl (by decide) (Nat.le_of_ble_eq_true rfl) (by decide) (by decide) dX3_count_92 rfl (fun r t hq => ?_)
      obtain ⟨rfl, hR⟩ := hq
      refine z_ireturn rfl dX3_count_95 (by decide) (by decide) ?_
      refine ⟨congrArg (fun z => some (vI z)) ?_, CP.rf hR hX⟩
      rw [hs1]; unfold a_count; first | done | rfl
    · refine z_swIn 96 dX3_count_1 ⟨by omega, by omega⟩ (by omega) (by omega) (by rw [hs1]; rfl) (by decide) ?_
      refine z_aload_n 97 dX3_count_96 rfl rfl ?_
      refine c_getI 100 23 hR fl_X3_149 (by decide) (show cLive m 0 0 from l0) (show _ = m 23 0 from rfl) dX3_count_97 rfl ?_
      refine z_ireturn rfl dX3_count_100 (by decide) (by decide) ?_
      refine ⟨congrArg (fun z => some (vI z)) ?_, CP.rf hR hX⟩
      rw [hs1]; unfold a_count; first | done | rfl
set_option maxRecDepth 20000 in
theorem c_lose {m : Nat → Int → Int} {f : Nat → Int → UInt32} {a : Nat → Int → Nat} {t : zT} (hR : CA m f a t) {p : Int} (hp : zi p) (hW : WF m f) (hX : XI m f) : zM yX3_lose cX3_lose 4 (some .int) 2 0 0 [vR (rf a 0 0), vI p] t (fun r t1 => r = some (vI (a_lose m p)) ∧ CP (a 0 0) (s_lose m p, f) t1) := by
  refine zM.of2 [(0, vR (rf a 0 0)), (1, vI p)] (by decide +kernel) rfl (Nat.le_of_ble_eq_true rfl) ?_
  obtain ⟨hp1, hp2⟩ := hp
  have hn1 := hW.n.1
  have hn2 := hW.n.2
  have h60 := hX.1.1
  have h62 := hX.1.2.1
  have h64 := hX.1.2.2
  refine z_aload_n 1 dX3_lose_0 rfl rfl ?_
  refine z_iload_n 2 dX3_lose_1 rfl rfl ?_
  refine z_callV 5 [_] la_X3_pieceNotGone ml_X3_152 im_X3_pieceNotGone se_X3_pieceNotGone (hR.lv 0 0 (by decide) l0).1 (hR.lv 0 0 (by decide) l0).2.1 (by decide) rfl rfl (c_pieceNotGone hR ⟨by omega, by omega⟩ hW hX) rfl rfl (by decide) (Nat.le_of_ble_eq_true rfl) (by decide) (by decide) dX3_lose_2 rfl (fun r t hq => ?_)
  obtain ⟨v, rfl, hv, hR⟩ := hq
  refine z_astore_n (lv' := [(2, _), (0, _), (1, _)]) 6 dX3_lose_5 rfl rfl rfl ?_
  refine z_aload_n 7 dX3_lose_6 rfl rfl ?_
  refine c_ifnonnull 13 10 dX3_lose_7 (by decide) rfl  (fun h7 => ?_) (fun h7 => ?_)
  · obtain rfl : p = v := by omega
    have hBp := hW.b (p := p) (by omega) (by omega)
    refine z_aload_n 14 dX3_lose_13 rfl rfl ?_
    refine c_getI 17 10 hR fl_X3_137 (by decide) (show cLive m 6 p from lp ⟨by omega, by omega⟩) (show _ = m 10 p from rfl) dX3_lose_14 rfl ?_
    refine z_if_lt 24 20 dX3_lose_17 (by decide) rfl ⟨by omega, by omega⟩ (fun h17 => ?_) (fun h17 => ?_)
    · refine z_iconst 25 dX3_lose_24 rfl ?_
      refine z_istore_n (lv' := [(3, _), (2, _), (0, _), (1, _)]) 26 dX3_lose_25 rfl rfl rfl ?_
      refine z_aload_n 27 dX3_lose_26 rfl rfl ?_
      refine z_iconst 28 dX3_lose_27 rfl ?_
      refine c_putI 31 10 hR fl_X3_137 (by decide) (show cLive m 6 p from lp ⟨by omega, by omega⟩) dX3_lose_28 rfl (fun t hR => ?_)
      refine z_iload_n 32 dX3_lose_31 rfl rfl ?_
      refine z_ireturn rfl dX3_lose_32 (by decide) (by decide) ?_
      have hok : there m p := ⟨by omega, by omega, by omega⟩
      refine ⟨congrArg (fun z => some (vI z)) ?_, ?_⟩
      · unfold a_lose cif; rw [if_pos hok]; first | rw [if_pos (by omega)] | rw [if_neg (by omega)]
      · have e : s_lose m p = up2 m 10 p (-1) := if_pos hok
        rw [e]; exact CP.of hR (hX.lose p) eqs.rf
    · refine z_iconst 21 dX3_lose_20 rfl ?_
      refine z_goto 25 dX3_lose_21 (by decide) ?_
      refine z_istore_n (lv' := [(3, _), (2, _), (0, _), (1, _)]) 26 dX3_lose_25 rfl rfl rfl ?_
      refine z_aload_n 27 dX3_lose_26 rfl rfl ?_
      refine z_iconst 28 dX3_lose_27 rfl ?_
      refine c_putI 31 10 hR fl_X3_137 (by decide) (show cLive m 6 p from lp ⟨by omega, by omega⟩) dX3_lose_28 rfl (fun t hR => ?_)
      refine z_iload_n 32 dX3_lose_31 rfl rfl ?_
      refine z_ireturn rfl dX3_lose_32 (by decide) (by decide) ?_
      have hok : there m p := ⟨by omega, by omega, by omega⟩
      refine ⟨congrArg (fun z => some (vI z)) ?_, ?_⟩
      · unfold a_lose cif; rw [if_pos hok]; first | rw [if_pos (by omega)] | rw [if_neg (by omega)]
      · have e : s_lose m p = up2 m 10 p (-1) := if_pos hok
        rw [e]; exact CP.of hR (hX.lose p) eqs.rf
  · refine z_bipush 12 dX3_lose_10 rfl ⟨by decide, by decide⟩ ?_
    refine z_ireturn rfl dX3_lose_12 (by decide) (by decide) ?_
    have hno : ¬ there m p := by unfold there; omega
    refine ⟨congrArg (fun z => some (vI z)) ?_, ?_⟩
    · unfold a_lose cif; rw [if_neg hno]
    · have e : s_lose m p = m := if_neg hno
      rw [e]; exact CP.rf hR hX
set_option maxRecDepth 20000 in
theorem c_row {m : Nat → Int → Int} {f : Nat → Int → UInt32} {a : Nat → Int → Nat} {t : zT} (hR : CA m f a t) {p : Int} (hp : zi p) {n : Int} (hn : zi n) (hW : WF m f) (hX : XI m f) : zM yX3_row cX3_row 5 (some .int) 2 0 0 [vR (rf a 0 0), vI p, vI n] t (fun r t1 => r = some (vI (a_row m p n)) ∧ CP (a 0 0) (s_row m p n, f) t1) := by
  refine zM.of2 [(0, vR (rf a 0 0)), (1, vI p), (2, vI n)] (by decide +kernel) rfl (Nat.le_of_ble_eq_true rfl) ?_
  obtain ⟨hp1, hp2⟩ := hp
  obtain ⟨hn1, hn2⟩ := hn
  have hn1 := hW.n.1
  have hn2 := hW.n.2
  have h60 := hX.1.1
  have h62 := hX.1.2.1
  have h64 := hX.1.2.2
  have L34 : ∀ (fuel : Nat) (k : Int) (t : zT) (hR : CA (crow m p n k) f a t) (hk : 0 ≤ k ∧ k ≤ n) (hq : 0 ≤ p ∧ p < m 0 0 ∧ m 4 p ≠ 3 ∧ n ≤ 8) (hf : n - k < (fuel : Int)), zOK yX3_row cX3_row 5 (some .int) 2 0 0 (fun r t1 => r = some (vI (a_row m p n)) ∧ CP (a 0 0) (s_row m p n, f) t1) 0 0 34 [(4, vI k), (0, vR (rf a 0 0)), (1, vI p), (2, vI n), (3, vR (rf a 6 p))] [] t := by
    intro fuel
    induction fuel with
    | zero => intro k t hR hk hq hf; exfalso; omega
    | succ fuel ih34 =>
      intro k t hR hk hq hf
      refine z_iload 36 dX3_row_34 rfl rfl ?_
      refine z_iload_n 37 dX3_row_36 rfl rfl ?_
      refine z_icmp_ge 54 40 dX3_row_37 (by decide) rfl ⟨by omega, by omega⟩ ⟨by omega, by omega⟩ (fun h37 => ?_) (fun h37 => ?_)
      · refine z_iload_n 55 dX3_row_54 rfl rfl ?_
        refine z_ireturn rfl dX3_row_55 (by decide) (by decide) ?_
        have hkk : k = n := by omega
        subst hkk
        refine ⟨congrArg (fun z => some (vI z)) ?_, cp_row hR hW hX ⟨by omega, by omega, by omega⟩ (by omega)⟩
        unfold a_row cif there; rw [if_neg (by omega), if_neg (by omega)]
      · refine z_aload_n 41 dX3_row_40 rfl rfl ?_
        refine c_getL 44 10 hR fl_X3_155 (by decide) (show cLive m 6 p from lp ⟨by omega, by omega⟩) dX3_row_41 rfl ?_
        refine z_iload 46 dX3_row_44 rfl rfl ?_
        refine z_iconst 47 dX3_row_46 rfl ?_
        refine c_iast 48 54 hR (c := 8) 8 (by decide) (show _ = 8 * p + k from rfl) (show cLive m 10 p from lp ⟨by omega, by omega⟩) rfl rfl ⟨by omega, by omega⟩ dX3_row_47 rfl (fun t hR => ?_)
        refine z_iinc (lv' := [(4, _), (0, _), (1, _), (2, _), (3, _)]) 51 dX3_row_48 rfl rfl rfl rfl ?_
        refine z_goto 34 dX3_row_51 (by decide) ?_
        rw [crow_s _ _ _ _ hk.1] at hR
        refine z_sub (lv' := [(4, _), (0, _), (1, _), (2, _), (3, _)]) ⟨rfl, rfl, rfl, rfl, rfl, trivial⟩ ?_
        exact ih34 _ _ hR (by omega) (by omega) (by omega)
  refine z_aload_n 1 dX3_row_0 rfl rfl ?_
  refine z_iload_n 2 dX3_row_1 rfl rfl ?_
  refine z_callV 5 [_] la_X3_pieceNotGone ml_X3_152 im_X3_pieceNotGone se_X3_pieceNotGone (hR.lv 0 0 (by decide) l0).1 (hR.lv 0 0 (by decide) l0).2.1 (by decide) rfl rfl (c_pieceNotGone hR ⟨by omega, by omega⟩ hW hX) rfl rfl (by decide) (Nat.le_of_ble_eq_true rfl) (by decide) (by decide) dX3_row_2 rfl (fun r t hq => ?_)
  obtain ⟨v, rfl, hv, hR⟩ := hq
  refine z_astore_n (lv' := [(3, _), (0, _), (1, _), (2, _)]) 6 dX3_row_5 rfl rfl rfl ?_
  refine z_aload_n 7 dX3_row_6 rfl rfl ?_
  refine c_ifnull 16 10 dX3_row_7 (by decide) rfl  (fun h7 => ?_) (fun h7 => ?_)
  · refine z_bipush 18 dX3_row_16 rfl ⟨by decide, by decide⟩ ?_
    refine z_ireturn rfl dX3_row_18 (by decide) (by decide) ?_
    refine ⟨congrArg (fun z => some (vI z)) ?_, ?_⟩
    · unfold a_row cif there; rw [if_pos (by omega)]
    · have e : s_row m p n = m := if_pos (by unfold there; omega)
      rw [e]; exact CP.rf hR hX
  · obtain rfl : p = v := by omega
    have hBp := hW.b (p := p) (by omega) (by omega)
    refine z_iload_n 11 dX3_row_10 rfl rfl ?_
    refine z_bipush 13 dX3_row_11 rfl ⟨by decide, by decide⟩ ?_
    refine z_icmp_le 19 16 dX3_row_13 (by decide) rfl ⟨by omega, by omega⟩ ⟨by omega, by omega⟩ (fun h13 => ?_) (fun h13 => ?_)
    · refine z_iload_n 20 dX3_row_19 rfl rfl ?_
      refine z_if_ge 26 23 dX3_row_20 (by decide) rfl ⟨by omega, by omega⟩ (fun h20 => ?_) (fun h20 => ?_)
      · refine z_aload_n 27 dX3_row_26 rfl rfl ?_
        refine z_iload_n 28 dX3_row_27 rfl rfl ?_
        refine c_putI 31 10 hR fl_X3_137 (by decide) (show cLive m 6 p from lp ⟨by omega, by omega⟩) dX3_row_28 rfl (fun t hR => ?_)
        refine z_iconst 32 dX3_row_31 rfl ?_
        refine z_istore (lv' := [(4, _), (3, _), (0, _), (1, _), (2, _)]) 34 dX3_row_32 rfl rfl rfl ?_
        rw [← crow_0] at hR
        refine z_sub (lv' := [(4, _), (0, _), (1, _), (2, _), (3, _)]) ⟨rfl, rfl, rfl, rfl, rfl, trivial⟩ ?_
        exact L34 9 0 _ hR (by omega) (by omega) (by omega)
      · refine z_bipush 25 dX3_row_23 rfl ⟨by decide, by decide⟩ ?_
        refine z_ireturn rfl dX3_row_25 (by decide) (by decide) ?_
        refine ⟨congrArg (fun z => some (vI z)) ?_, ?_⟩
        · unfold a_row cif there; rw [if_neg (by omega), if_pos (by omega)]
        · have e : s_row m p n = m := if_pos (by unfold there; omega)
          rw [e]; exact CP.rf hR hX
    · refine z_bipush 18 dX3_row_16 rfl ⟨by decide, by decide⟩ ?_
      refine z_ireturn rfl dX3_row_18 (by decide) (by decide) ?_
      refine ⟨congrArg (fun z => some (vI z)) ?_, ?_⟩
      · unfold a_row cif there; rw [if_pos (by omega)]
      · have e : s_row m p n = m := if_pos (by unfold there; omega)
        rw [e]; exact CP.rf hR hX
set_option maxRecDepth 20000 in
theorem c_spot {m : Nat → Int → Int} {f : Nat → Int → UInt32} {a : Nat → Int → Nat} {t : zT} (hR : CA m f a t) {p : Int} (hp : zi p) {i : Int} (hi : zi i) {fr : Int} (hfr : zi fr) {to : Int} (hto : zi to) {e : Int} (he : zi e) (hW : WF m f) (hX : XI m f) : zM yX3_spot cX3_spot 8 (some .int) 2 0 0 [vR (rf a 0 0), vI p, vI i, vI fr, vI to, vI e] t (fun r t1 => r = some (vI (a_spot m p i fr to e)) ∧ CP (a 0 0) (s_spot m f p i fr to e) t1) := by
  refine zM.of2 [(0, vR (rf a 0 0)), (1, vI p), (2, vI i), (3, vI fr), (4, vI to), (5, vI e)] (by decide +kernel) rfl (Nat.le_of_ble_eq_true rfl) ?_
  obtain ⟨hp1, hp2⟩ := hp
  obtain ⟨hi1, hi2⟩ := hi
  obtain ⟨hfr1, hfr2⟩ := hfr
  obtain ⟨hto1, hto2⟩ := hto
  obtain ⟨he1, he2⟩ := he
  have hn1 := hW.n.1
  have hn2 := hW.n.2
  have h60 := hX.1.1
  have h62 := hX.1.2.1
  have h64 := hX.1.2.2
  refine z_aload_n 1 dX3_spot_0 rfl rfl ?_
  refine z_iload_n 2 dX3_spot_1 rfl rfl ?_
  refine z_callV 5 [_] la_X3_pieceNotGone ml_X3_152 im_X3_pieceNotGone se_X3_pieceNotGone (hR.lv 0 0 (by decide) l0).1 (hR.lv 0 0 (by decide) l0).2.1 (by decide) rfl rfl (c_pieceNotGone hR ⟨by omega, by omega⟩ hW hX) rfl rfl (by decide) (Nat.le_of_ble_eq_true rfl) (by decide) (by decide) dX3_spot_2 rfl (fun r t hq => ?_)
  obtain ⟨v, rfl, hv, hR⟩ := hq
  refine z_astore (lv' := [(6, _), (0, _), (1, _), (2, _), (3, _), (4, _), (5, _)]) 7 dX3_spot_5 rfl rfl rfl ?_
  refine z_aload 9 dX3_spot_7 rfl rfl ?_
  refine c_ifnull 36 12 dX3_spot_9 (by decide) rfl  (fun h9 => ?_) (fun h9 => ?_)
  · refine z_bipush 38 dX3_spot_36 rfl ⟨by decide, by decide⟩ ?_
    refine z_ireturn rfl dX3_spot_38 (by decide) (by decide) ?_
    refine ⟨congrArg (fun z => some (vI z)) ?_, ?_⟩
    · unfold a_spot spot_no there cif; rw [if_pos (by omega)]
    · have e : s_spot m f p i fr to e = (m, f) := if_pos (by unfold spot_no there; omega)
      rw [e]; exact CP.rf hR hX
  · obtain rfl : p = v := by omega
    have hBp := hW.b (p := p) (by omega) (by omega)
    refine z_iload_n 13 dX3_spot_12 rfl rfl ?_
    refine z_if_lt 36 16 dX3_spot_13 (by decide) rfl ⟨by omega, by omega⟩ (fun h13 => ?_) (fun h13 => ?_)
    · refine z_bipush 38 dX3_spot_36 rfl ⟨by decide, by decide⟩ ?_
      refine z_ireturn rfl dX3_spot_38 (by decide) (by decide) ?_
      refine ⟨congrArg (fun z => some (vI z)) ?_, ?_⟩
      · unfold a_spot spot_no there cif; rw [if_pos (by omega)]
      · have e : s_spot m f p i fr to e = (m, f) := if_pos (by unfold spot_no there; omega)
        rw [e]; exact CP.rf hR hX
    · refine z_iload_n 17 dX3_spot_16 rfl rfl ?_
      refine z_sipush 20 dX3_spot_17 rfl ⟨by decide, by decide⟩ ?_
      refine z_icmp_gt 36 23 dX3_spot_20 (by decide) rfl ⟨by omega, by omega⟩ ⟨by omega, by omega⟩ (fun h20 => ?_) (fun h20 => ?_)
      · refine z_bipush 38 dX3_spot_36 rfl ⟨by decide, by decide⟩ ?_
        refine z_ireturn rfl dX3_spot_38 (by decide) (by decide) ?_
        refine ⟨congrArg (fun z => some (vI z)) ?_, ?_⟩
        · unfold a_spot spot_no there cif; rw [if_pos (by omega)]
        · have e : s_spot m f p i fr to e = (m, f) := if_pos (by unfold spot_no there; omega)
          rw [e]; exact CP.rf hR hX
      · refine z_iload 25 dX3_spot_23 rfl rfl ?_
        refine z_if_lt 36 28 dX3_spot_25 (by decide) rfl ⟨by omega, by omega⟩ (fun h25 => ?_) (fun h25 => ?_)
        · refine z_bipush 38 dX3_spot_36 rfl ⟨by decide, by decide⟩ ?_
          refine z_ireturn rfl dX3_spot_38 (by decide) (by decide) ?_
          refine ⟨congrArg (fun z => some (vI z)) ?_, ?_⟩
          · unfold a_spot spot_no there cif; rw [if_pos (by omega)]
          · have e : s_spot m f p i fr to e = (m, f) := if_pos (by unfold spot_no there; omega)
            rw [e]; exact CP.rf hR hX
        · refine z_iload 30 dX3_spot_28 rfl rfl ?_
          refine z_sipush 33 dX3_spot_30 rfl ⟨by decide, by decide⟩ ?_
          refine z_icmp_le 39 36 dX3_spot_33 (by decide) rfl ⟨by omega, by omega⟩ ⟨by omega, by omega⟩ (fun h33 => ?_) (fun h33 => ?_)
          · refine z_iload 41 dX3_spot_39 rfl rfl ?_
            refine z_iconst 42 dX3_spot_41 rfl ?_
            refine z_icmp_lt 52 45 dX3_spot_42 (by decide) rfl ⟨by omega, by omega⟩ ⟨by omega, by omega⟩ (fun h42 => ?_) (fun h42 => ?_)
            · refine z_bipush 54 dX3_spot_52 rfl ⟨by decide, by decide⟩ ?_
              refine z_ireturn rfl dX3_spot_54 (by decide) (by decide) ?_
              refine ⟨congrArg (fun z => some (vI z)) ?_, ?_⟩
              · unfold a_spot spot_no there cif; rw [if_pos (by omega)]
              · have e : s_spot m f p i fr to e = (m, f) := if_pos (by unfold spot_no there; omega)
                rw [e]; exact CP.rf hR hX
            · refine z_iload 47 dX3_spot_45 rfl rfl ?_
              refine z_bipush 49 dX3_spot_47 rfl ⟨by decide, by decide⟩ ?_
              refine z_icmp_le 55 52 dX3_spot_49 (by decide) rfl ⟨by omega, by omega⟩ ⟨by omega, by omega⟩ (fun h49 => ?_) (fun h49 => ?_)
              · refine z_aload 57 dX3_spot_55 rfl rfl ?_
                refine c_getI 60 10 hR fl_X3_137 (by decide) (show cLive m 6 p from lp ⟨by omega, by omega⟩) (show _ = m 10 p from rfl) dX3_spot_57 rfl ?_
                refine z_if_ge 66 63 dX3_spot_60 (by decide) rfl ⟨by omega, by omega⟩ (fun h60 => ?_) (fun h60 => ?_)
                · refine z_iload_n 67 dX3_spot_66 rfl rfl ?_
                  refine z_if_lt 85 70 dX3_spot_67 (by decide) rfl ⟨by omega, by omega⟩ (fun h67 => ?_) (fun h67 => ?_)
                  · refine z_bipush 87 dX3_spot_85 rfl ⟨by decide, by decide⟩ ?_
                    refine z_ireturn rfl dX3_spot_87 (by decide) (by decide) ?_
                    refine ⟨congrArg (fun z => some (vI z)) ?_, ?_⟩
                    · unfold a_spot spot_no there cif; rw [if_neg (by omega), if_neg (by omega), if_pos (by omega)]
                    · have e : s_spot m f p i fr to e = (m, f) := if_pos (by unfold spot_no there; omega)
                      rw [e]; exact CP.rf hR hX
                  · refine z_iload_n 71 dX3_spot_70 rfl rfl ?_
                    refine z_aload 73 dX3_spot_71 rfl rfl ?_
                    refine c_getI 76 10 hR fl_X3_137 (by decide) (show cLive m 6 p from lp ⟨by omega, by omega⟩) (show _ = m 10 p from rfl) dX3_spot_73 rfl ?_
                    refine z_icmp_ge 85 79 dX3_spot_76 (by decide) rfl ⟨by omega, by omega⟩ ⟨by omega, by omega⟩ (fun h76 => ?_) (fun h76 => ?_)
                    · refine z_bipush 87 dX3_spot_85 rfl ⟨by decide, by decide⟩ ?_
                      refine z_ireturn rfl dX3_spot_87 (by decide) (by decide) ?_
                      refine ⟨congrArg (fun z => some (vI z)) ?_, ?_⟩
                      · unfold a_spot spot_no there cif; rw [if_neg (by omega), if_neg (by omega), if_pos (by omega)]
                      · have e : s_spot m f p i fr to e = (m, f) := if_pos (by unfold spot_no there; omega)
                        rw [e]; exact CP.rf hR hX
                    · refine z_iload_n 80 dX3_spot_79 rfl rfl ?_
                      refine z_bipush 82 dX3_spot_80 rfl ⟨by decide, by decide⟩ ?_
                      refine z_icmp_lt 88 85 dX3_spot_82 (by decide) rfl ⟨by omega, by omega⟩ ⟨by omega, by omega⟩ (fun h82 => ?_) (fun h82 => ?_)
                      · obtain ⟨hs1, hs2, hs3, -⟩ := (hX.p (p := p) (by omega) (by omega)).2.2.2.2.2 i (by omega) (by omega)
                        obtain ⟨hs5, hs6, -⟩ := (hW.2.1 p (by omega) (by omega)).2.2.2.2.2.1 i (by omega) (by omega)
                        refine z_aload 90 dX3_spot_88 rfl rfl ?_
                        refine c_getL 93 10 hR fl_X3_155 (by decide) (show cLive m 6 p from lp ⟨by omega, by omega⟩) dX3_spot_90 rfl ?_
                        refine z_iload_n 94 dX3_spot_93 rfl rfl ?_
                        refine c_iald 95 54 hR (c := 8) 8 (by decide) (show _ = 8 * p + i from rfl) (show cLive m 10 p from lp ⟨by omega, by omega⟩) rfl rfl ⟨by omega, by omega⟩ (show _ = m 54 (8 * p + i) from rfl) dX3_spot_94 rfl ?_
                        refine z_if_lt 102 98 dX3_spot_95 (by decide) rfl ⟨by omega, by omega⟩ (fun h95 => ?_) (fun h95 => ?_)
                        · refine z_iconst 103 dX3_spot_102 rfl ?_
                          refine z_istore (lv' := [(7, _), (6, _), (0, _), (1, _), (2, _), (3, _), (4, _), (5, _)]) 105 dX3_spot_103 rfl rfl rfl ?_
                          refine z_aload 107 dX3_spot_105 rfl rfl ?_
                          refine c_getL 110 8 hR fl_X3_158 (by decide) (show cLive m 6 p from lp ⟨by omega, by omega⟩) dX3_spot_107 rfl ?_
                          refine z_iload_n 111 dX3_spot_110 rfl rfl ?_
                          refine z_iload_n 112 dX3_spot_111 rfl rfl ?_
                          refine c_iast 113 52 hR (c := 8) 8 (by decide) (show _ = 8 * p + i from rfl) (show cLive m 8 p from lp ⟨by omega, by omega⟩) rfl rfl ⟨by omega, by omega⟩ dX3_spot_112 rfl (fun t hR => ?_)
                          refine z_aload 115 dX3_spot_113 rfl rfl ?_
                          refine c_getL 118 9 hR fl_X3_161 (by decide) (show cLive m 6 p from lp ⟨by omega, by omega⟩) dX3_spot_115 rfl ?_
                          refine z_iload_n 119 dX3_spot_118 rfl rfl ?_
                          refine z_iload 121 dX3_spot_119 rfl rfl ?_
                          refine c_iast 122 53 hR (c := 8) 8 (by decide) (show _ = 8 * p + i from rfl) (show cLive m 9 p from lp ⟨by omega, by omega⟩) rfl rfl ⟨by omega, by omega⟩ dX3_spot_121 rfl (fun t hR => ?_)
                          refine z_aload 124 dX3_spot_122 rfl rfl ?_
                          refine c_getL 127 10 hR fl_X3_155 (by decide) (show cLive m 6 p from lp ⟨by omega, by omega⟩) dX3_spot_124 rfl ?_
                          refine z_iload_n 128 dX3_spot_127 rfl rfl ?_
                          refine z_iload 130 dX3_spot_128 rfl rfl ?_
                          refine c_iast 131 54 hR (c := 8) 8 (by decide) (show _ = 8 * p + i from rfl) (show cLive m 10 p from lp ⟨by omega, by omega⟩) rfl rfl ⟨by omega, by omega⟩ dX3_spot_130 rfl (fun t hR => ?_)
                          refine z_iload 133 dX3_spot_131 rfl rfl ?_
                          refine z_ireturn rfl dX3_spot_133 (by decide) (by decide) ?_
                          refine ⟨congrArg (fun z => some (vI z)) ?_, cp_spot hR hW hX (by unfold spot_no there; omega) (by omega)⟩
                          unfold a_spot spot_no there cif; rw [if_neg (by omega), if_neg (by omega), if_neg (by omega)]; omega
                        · refine z_iconst 99 dX3_spot_98 rfl ?_
                          refine z_goto 103 dX3_spot_99 (by decide) ?_
                          refine z_istore (lv' := [(7, _), (6, _), (0, _), (1, _), (2, _), (3, _), (4, _), (5, _)]) 105 dX3_spot_103 rfl rfl rfl ?_
                          refine z_aload 107 dX3_spot_105 rfl rfl ?_
                          refine c_getL 110 8 hR fl_X3_158 (by decide) (show cLive m 6 p from lp ⟨by omega, by omega⟩) dX3_spot_107 rfl ?_
                          refine z_iload_n 111 dX3_spot_110 rfl rfl ?_
                          refine z_iload_n 112 dX3_spot_111 rfl rfl ?_
                          refine c_iast 113 52 hR (c := 8) 8 (by decide) (show _ = 8 * p + i from rfl) (show cLive m 8 p from lp ⟨by omega, by omega⟩) rfl rfl ⟨by omega, by omega⟩ dX3_spot_112 rfl (fun t hR => ?_)
                          refine z_aload 115 dX3_spot_113 rfl rfl ?_
                          refine c_getL 118 9 hR fl_X3_161 (by decide) (show cLive m 6 p from lp ⟨by omega, by omega⟩) dX3_spot_115 rfl ?_
                          refine z_iload_n 119 dX3_spot_118 rfl rfl ?_
                          refine z_iload 121 dX3_spot_119 rfl rfl ?_
                          refine c_iast 122 53 hR (c := 8) 8 (by decide) (show _ = 8 * p + i from rfl) (show cLive m 9 p from lp ⟨by omega, by omega⟩) rfl rfl ⟨by omega, by omega⟩ dX3_spot_121 rfl (fun t hR => ?_)
                          refine z_aload 124 dX3_spot_122 rfl rfl ?_
                          refine c_getL 127 10 hR fl_X3_155 (by decide) (show cLive m 6 p from lp ⟨by omega, by omega⟩) dX3_spot_124 rfl ?_
                          refine z_iload_n 128 dX3_spot_127 rfl rfl ?_
                          refine z_iload 130 dX3_spot_128 rfl rfl ?_
                          refine c_iast 131 54 hR (c := 8) 8 (by decide) (show _ = 8 * p + i from rfl) (show cLive m 10 p from lp ⟨by omega, by omega⟩) rfl rfl ⟨by omega, by omega⟩ dX3_spot_130 rfl (fun t hR => ?_)
                          refine z_iload 133 dX3_spot_131 rfl rfl ?_
                          refine z_ireturn rfl dX3_spot_133 (by decide) (by decide) ?_
                          refine ⟨congrArg (fun z => some (vI z)) ?_, cp_spot hR hW hX (by unfold spot_no there; omega) (by omega)⟩
                          unfold a_spot spot_no there cif; rw [if_neg (by omega), if_neg (by omega), if_neg (by omega)]; omega
                      · refine z_bipush 87 dX3_spot_85 rfl ⟨by decide, by decide⟩ ?_
                        refine z_ireturn rfl dX3_spot_87 (by decide) (by decide) ?_
                        refine ⟨congrArg (fun z => some (vI z)) ?_, ?_⟩
                        · unfold a_spot spot_no there cif; rw [if_neg (by omega), if_neg (by omega), if_pos (by omega)]
                        · have e : s_spot m f p i fr to e = (m, f) := if_pos (by unfold spot_no there; omega)
                          rw [e]; exact CP.rf hR hX
                · refine z_bipush 65 dX3_spot_63 rfl ⟨by decide, by decide⟩ ?_
                  refine z_ireturn rfl dX3_spot_65 (by decide) (by decide) ?_
                  refine ⟨congrArg (fun z => some (vI z)) ?_, ?_⟩
                  · unfold a_spot spot_no there cif; rw [if_neg (by omega), if_pos (by omega)]
                  · have e : s_spot m f p i fr to e = (m, f) := if_pos (by unfold spot_no there; omega)
                    rw [e]; exact CP.rf hR hX
              · refine z_bipush 54 dX3_spot_52 rfl ⟨by decide, by decide⟩ ?_
                refine z_ireturn rfl dX3_spot_54 (by decide) (by decide) ?_
                refine ⟨congrArg (fun z => some (vI z)) ?_, ?_⟩
                · unfold a_spot spot_no there cif; rw [if_pos (by omega)]
                · have e : s_spot m f p i fr to e = (m, f) := if_pos (by unfold spot_no there; omega)
                  rw [e]; exact CP.rf hR hX
          · refine z_bipush 38 dX3_spot_36 rfl ⟨by decide, by decide⟩ ?_
            refine z_ireturn rfl dX3_spot_38 (by decide) (by decide) ?_
            refine ⟨congrArg (fun z => some (vI z)) ?_, ?_⟩
            · unfold a_spot spot_no there cif; rw [if_pos (by omega)]
            · have e : s_spot m f p i fr to e = (m, f) := if_pos (by unfold spot_no there; omega)
              rw [e]; exact CP.rf hR hX
