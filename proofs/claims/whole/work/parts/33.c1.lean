set_option maxRecDepth 20000 in
theorem c_pieceAt {m : Nat → Int → Int} {f : Nat → Int → UInt32} {a : Nat → Int → Nat} {t : zT} (hR : CA m f a t) {p : Int} (hp : zi p) (hW : WF m f) (hX : XI m f) : zM yX3_pieceAt cX3_pieceAt 2 (some (.object "RopeWalk$Piece")) 0 0 0 [vR (rf a 0 0), vI p] t (fun r t1 => ∃ v, r = some (vR (rf a 6 v)) ∧ ((v = p ∧ 0 ≤ p ∧ p < m 0 0) ∨ (v = -1 ∧ ¬ (0 ≤ p ∧ p < m 0 0))) ∧ CA m f a t1) := by
  refine zM.of2 [(0, vR (rf a 0 0)), (1, vI p)] (by decide +kernel) rfl (Nat.le_of_ble_eq_true rfl) ?_
  obtain ⟨hp1, hp2⟩ := hp
  have hn1 := hW.n.1
  have hn2 := hW.n.2
  have h60 := hX.1.1
  have h62 := hX.1.2.1
  have h64 := hX.1.2.2
  refine z_iload_n 1 dX3_pieceAt_0 rfl rfl ?_
  refine z_if_lt 18 4 dX3_pieceAt_1 (by decide) rfl ⟨by omega, by omega⟩ (fun h1 => ?_) (fun h1 => ?_)
  · refine z_null 19 dX3_pieceAt_18 rfl ?_
    refine z_areturn rfl (Or.inl ⟨_, rfl⟩) dX3_pieceAt_19 (by decide) (by decide) ?_
    exact ⟨-1, rfl, Or.inr ⟨rfl, by omega⟩, hR⟩
  · refine z_iload_n 5 dX3_pieceAt_4 rfl rfl ?_
    refine z_aload_n 6 dX3_pieceAt_5 rfl rfl ?_
    refine c_getI 9 0 hR fl_X3_40 (by decide) (show cLive m 0 0 from l0) (show _ = m 0 0 from rfl) dX3_pieceAt_6 rfl ?_
    refine z_icmp_ge 18 12 dX3_pieceAt_9 (by decide) rfl ⟨by omega, by omega⟩ ⟨by omega, by omega⟩ (fun h9 => ?_) (fun h9 => ?_)
    · refine z_null 19 dX3_pieceAt_18 rfl ?_
      refine z_areturn rfl (Or.inl ⟨_, rfl⟩) dX3_pieceAt_19 (by decide) (by decide) ?_
      exact ⟨-1, rfl, Or.inr ⟨rfl, by omega⟩, hR⟩
    · refine z_iload_n 13 dX3_pieceAt_12 rfl rfl ?_
      refine z_bipush 15 dX3_pieceAt_13 rfl ⟨by decide, by decide⟩ ?_
      refine z_icmp_lt 20 18 dX3_pieceAt_15 (by decide) rfl ⟨by omega, by omega⟩ ⟨by omega, by omega⟩ (fun h15 => ?_) (fun h15 => ?_)
      · refine z_aload_n 21 dX3_pieceAt_20 rfl rfl ?_
        refine c_getL 24 1 hR fl_X3_11 (by decide) (show cLive m 0 0 from l0) dX3_pieceAt_21 rfl ?_
        refine z_iload_n 25 dX3_pieceAt_24 rfl rfl ?_
        refine c_aald 26 61 hR (c := 1) 120 (by decide) (show _ = p from rfl) (show cLive m 1 0 from l1) rfl (by decide) ⟨by omega, by omega⟩ (show _ = p from (hX.pc (by omega) (by omega) (by omega))) dX3_pieceAt_25 rfl (fun hl25 => ?_)
        refine z_areturn rfl (Or.inl ⟨_, rfl⟩) dX3_pieceAt_26 (by decide) (by decide) ?_
        exact ⟨p, rfl, Or.inl ⟨rfl, by omega, by omega⟩, hR⟩
      · refine z_null 19 dX3_pieceAt_18 rfl ?_
        refine z_areturn rfl (Or.inl ⟨_, rfl⟩) dX3_pieceAt_19 (by decide) (by decide) ?_
        exact ⟨-1, rfl, Or.inr ⟨rfl, by omega⟩, hR⟩
set_option maxRecDepth 20000 in
theorem c_pieceNotGone {m : Nat → Int → Int} {f : Nat → Int → UInt32} {a : Nat → Int → Nat} {t : zT} (hR : CA m f a t) {p : Int} (hp : zi p) (hW : WF m f) (hX : XI m f) : zM yX3_pieceNotGone cX3_pieceNotGone 3 (some (.object "RopeWalk$Piece")) 1 0 0 [vR (rf a 0 0), vI p] t (fun r t1 => ∃ v, r = some (vR (rf a 6 v)) ∧ ((v = p ∧ 0 ≤ p ∧ p < m 0 0 ∧ m 4 p ≠ 3) ∨ (v = -1 ∧ ¬ (0 ≤ p ∧ p < m 0 0 ∧ m 4 p ≠ 3))) ∧ CA m f a t1) := by
  refine zM.of2 [(0, vR (rf a 0 0)), (1, vI p)] (by decide +kernel) rfl (Nat.le_of_ble_eq_true rfl) ?_
  obtain ⟨hp1, hp2⟩ := hp
  have hn1 := hW.n.1
  have hn2 := hW.n.2
  have h60 := hX.1.1
  have h62 := hX.1.2.1
  have h64 := hX.1.2.2
  refine z_aload_n 1 dX3_pieceNotGone_0 rfl rfl ?_
  refine z_iload_n 2 dX3_pieceNotGone_1 rfl rfl ?_
  refine z_callV 5 [_] la_X3_pieceAt ml_X3_63 im_X3_pieceAt se_X3_pieceAt (hR.lv 0 0 (by decide) l0).1 (hR.lv 0 0 (by decide) l0).2.1 (by decide) rfl rfl (c_pieceAt hR ⟨by omega, by omega⟩ hW hX) rfl rfl (by decide) (Nat.le_of_ble_eq_true rfl) (by decide) (by decide) dX3_pieceNotGone_2 rfl (fun r t hq => ?_)
  obtain ⟨v, rfl, hv, hR⟩ := hq
  refine z_astore_n (lv' := [(2, _), (0, _), (1, _)]) 6 dX3_pieceNotGone_5 rfl rfl rfl ?_
  refine z_aload_n 7 dX3_pieceNotGone_6 rfl rfl ?_
  refine c_ifnull 18 10 dX3_pieceNotGone_7 (by decide) rfl  (fun h7 => ?_) (fun h7 => ?_)
  · refine z_null 19 dX3_pieceNotGone_18 rfl ?_
    refine z_goto 23 dX3_pieceNotGone_19 (by decide) ?_
    refine z_areturn rfl (Or.inl ⟨_, rfl⟩) dX3_pieceNotGone_23 (by decide) (by decide) ?_
    first | exact ⟨-1, rfl, Or.inr ⟨rfl, by omega⟩, hR⟩ | exact ⟨p, rfl, Or.inl ⟨rfl, by omega, by omega, by omega⟩, hR⟩
  · obtain rfl : p = v := by omega
    have hBp := hW.b (p := p) (by omega) (by omega)
    refine z_aload_n 11 dX3_pieceNotGone_10 rfl rfl ?_
    refine c_getI 14 4 hR fl_X3_67 (by decide) (show cLive m 6 p from lp ⟨by omega, by omega⟩) (show _ = m 4 p from rfl) dX3_pieceNotGone_11 rfl ?_
    refine z_iconst 15 dX3_pieceNotGone_14 rfl ?_
    refine z_icmp_ne 22 18 dX3_pieceNotGone_15 (by decide) rfl ⟨by omega, by omega⟩ ⟨by omega, by omega⟩ (fun h15 => ?_) (fun h15 => ?_)
    · refine z_aload_n 23 dX3_pieceNotGone_22 rfl rfl ?_
      refine z_areturn rfl (Or.inl ⟨_, rfl⟩) dX3_pieceNotGone_23 (by decide) (by decide) ?_
      first | exact ⟨-1, rfl, Or.inr ⟨rfl, by omega⟩, hR⟩ | exact ⟨p, rfl, Or.inl ⟨rfl, by omega, by omega, by omega⟩, hR⟩
    · refine z_null 19 dX3_pieceNotGone_18 rfl ?_
      refine z_goto 23 dX3_pieceNotGone_19 (by decide) ?_
      refine z_areturn rfl (Or.inl ⟨_, rfl⟩) dX3_pieceNotGone_23 (by decide) (by decide) ?_
      first | exact ⟨-1, rfl, Or.inr ⟨rfl, by omega⟩, hR⟩ | exact ⟨p, rfl, Or.inl ⟨rfl, by omega, by omega, by omega⟩, hR⟩
set_option maxRecDepth 20000 in
theorem c_freePiece {m : Nat → Int → Int} {f : Nat → Int → UInt32} {a : Nat → Int → Nat} {t : zT} (hR : CA m f a t) {p : Int} (hp : zi p) (hW : WF m f) (hX : XI m f) : zM yX3_freePiece cX3_freePiece 3 (some (.object "RopeWalk$Piece")) 1 0 0 [vR (rf a 0 0), vI p] t (fun r t1 => ∃ v, r = some (vR (rf a 6 v)) ∧ ((v = p ∧ 0 ≤ p ∧ p < m 0 0 ∧ m 4 p = 0) ∨ (v = -1 ∧ ¬ (0 ≤ p ∧ p < m 0 0 ∧ m 4 p = 0))) ∧ CA m f a t1) := by
  refine zM.of2 [(0, vR (rf a 0 0)), (1, vI p)] (by decide +kernel) rfl (Nat.le_of_ble_eq_true rfl) ?_
  obtain ⟨hp1, hp2⟩ := hp
  have hn1 := hW.n.1
  have hn2 := hW.n.2
  have h60 := hX.1.1
  have h62 := hX.1.2.1
  have h64 := hX.1.2.2
  refine z_aload_n 1 dX3_freePiece_0 rfl rfl ?_
  refine z_iload_n 2 dX3_freePiece_1 rfl rfl ?_
  refine z_callV 5 [_] la_X3_pieceAt ml_X3_63 im_X3_pieceAt se_X3_pieceAt (hR.lv 0 0 (by decide) l0).1 (hR.lv 0 0 (by decide) l0).2.1 (by decide) rfl rfl (c_pieceAt hR ⟨by omega, by omega⟩ hW hX) rfl rfl (by decide) (Nat.le_of_ble_eq_true rfl) (by decide) (by decide) dX3_freePiece_2 rfl (fun r t hq => ?_)
  obtain ⟨v, rfl, hv, hR⟩ := hq
  refine z_astore_n (lv' := [(2, _), (0, _), (1, _)]) 6 dX3_freePiece_5 rfl rfl rfl ?_
  refine z_aload_n 7 dX3_freePiece_6 rfl rfl ?_
  refine c_ifnull 17 10 dX3_freePiece_7 (by decide) rfl  (fun h7 => ?_) (fun h7 => ?_)
  · refine z_null 18 dX3_freePiece_17 rfl ?_
    refine z_goto 22 dX3_freePiece_18 (by decide) ?_
    refine z_areturn rfl (Or.inl ⟨_, rfl⟩) dX3_freePiece_22 (by decide) (by decide) ?_
    first | exact ⟨-1, rfl, Or.inr ⟨rfl, by omega⟩, hR⟩ | exact ⟨p, rfl, Or.inl ⟨rfl, by omega, by omega, by omega⟩, hR⟩
  · obtain rfl : p = v := by omega
    have hBp := hW.b (p := p) (by omega) (by omega)
    refine z_aload_n 11 dX3_freePiece_10 rfl rfl ?_
    refine c_getI 14 4 hR fl_X3_67 (by decide) (show cLive m 6 p from lp ⟨by omega, by omega⟩) (show _ = m 4 p from rfl) dX3_freePiece_11 rfl ?_
    refine z_if_eq 21 17 dX3_freePiece_14 (by decide) rfl ⟨by omega, by omega⟩ (fun h14 => ?_) (fun h14 => ?_)
    · refine z_aload_n 22 dX3_freePiece_21 rfl rfl ?_
      refine z_areturn rfl (Or.inl ⟨_, rfl⟩) dX3_freePiece_22 (by decide) (by decide) ?_
      first | exact ⟨-1, rfl, Or.inr ⟨rfl, by omega⟩, hR⟩ | exact ⟨p, rfl, Or.inl ⟨rfl, by omega, by omega, by omega⟩, hR⟩
    · refine z_null 18 dX3_freePiece_17 rfl ?_
      refine z_goto 22 dX3_freePiece_18 (by decide) ?_
      refine z_areturn rfl (Or.inl ⟨_, rfl⟩) dX3_freePiece_22 (by decide) (by decide) ?_
      first | exact ⟨-1, rfl, Or.inr ⟨rfl, by omega⟩, hR⟩ | exact ⟨p, rfl, Or.inl ⟨rfl, by omega, by omega, by omega⟩, hR⟩
set_option maxRecDepth 20000 in
theorem c_isPicked {m : Nat → Int → Int} {f : Nat → Int → UInt32} {a : Nat → Int → Nat} {t : zT} (hR : CA m f a t) {p : Int} (hW : WF m f) (hX : XI m f) (hp : 0 ≤ p ∧ p < m 0 0) : zM yX3_isPicked cX3_isPicked 3 (some .boolean) 0 0 0 [vR (rf a 0 0), vR (rf a 6 p)] t (fun r t1 => ∃ z, r = some (vI z) ∧ 0 ≤ z ∧ z ≤ 1 ∧ (z = 1 ↔ ∃ i, 0 ≤ i ∧ i < m 15 0 ∧ m 16 i = p) ∧ CA m f a t1) := by
  refine zM.of2 [(0, vR (rf a 0 0)), (1, vR (rf a 6 p))] (by decide +kernel) rfl (Nat.le_of_ble_eq_true rfl) ?_
  have hn1 := hW.n.1
  have hn2 := hW.n.2
  have h60 := hX.1.1
  have h62 := hX.1.2.1
  have h64 := hX.1.2.2
  obtain ⟨hk1, hk2, hk3⟩ := hW.2.2.1
  have L2 : ∀ (fuel : Nat) (k : Int) (t : zT) (hR : CA m f a t) (hk : 0 ≤ k ∧ k ≤ m 15 0) (hno : ∀ i, 0 ≤ i → i < k → m 16 i ≠ p) (hf : m 15 0 - k < (fuel : Int)), zOK yX3_isPicked cX3_isPicked 3 (some .boolean) 0 0 0 (fun r t1 => ∃ z, r = some (vI z) ∧ 0 ≤ z ∧ z ≤ 1 ∧ (z = 1 ↔ ∃ i, 0 ≤ i ∧ i < m 15 0 ∧ m 16 i = p) ∧ CA m f a t1) 0 0 2 [(2, vI k), (0, vR (rf a 0 0)), (1, vR (rf a 6 p))] [] t := by
    intro fuel
    induction fuel with
    | zero => intro k t hR hk hno hf; exfalso; omega
    | succ fuel ih2 =>
      intro k t hR hk hno hf
      have hkk := fun (h : k < m 15 0) => hk3 k hk.1 h
      refine z_iload_n 3 dX3_isPicked_2 rfl rfl ?_
      refine z_aload_n 4 dX3_isPicked_3 rfl rfl ?_
      refine c_getI 7 15 hR fl_X3_77 (by decide) (show cLive m 0 0 from l0) (show _ = m 15 0 from rfl) dX3_isPicked_4 rfl ?_
      refine z_icmp_ge 34 10 dX3_isPicked_7 (by decide) rfl ⟨by omega, by omega⟩ ⟨by omega, by omega⟩ (fun h7 => ?_) (fun h7 => ?_)
      · refine z_iconst 35 dX3_isPicked_34 rfl ?_
        refine z_zreturn rfl (by first | exact Or.inl rfl | exact Or.inr rfl | omega) dX3_isPicked_35 (by decide) (by decide) ?_
        refine ⟨0, rfl, by decide, by decide, ⟨fun h => by omega, fun h => ?_⟩, hR⟩
        obtain ⟨i, i0, i1, i2⟩ := h
        exact absurd i2 (hno i i0 (by omega))
      · refine z_iload_n 11 dX3_isPicked_10 rfl rfl ?_
        refine z_bipush 13 dX3_isPicked_11 rfl ⟨by decide, by decide⟩ ?_
        refine z_icmp_ge 34 16 dX3_isPicked_13 (by decide) rfl ⟨by omega, by omega⟩ ⟨by omega, by omega⟩ (fun h13 => ?_) (fun h13 => ?_)
        · refine z_iconst 35 dX3_isPicked_34 rfl ?_
          refine z_zreturn rfl (by first | exact Or.inl rfl | exact Or.inr rfl | omega) dX3_isPicked_35 (by decide) (by decide) ?_
          refine ⟨0, rfl, by decide, by decide, ⟨fun h => by omega, fun h => ?_⟩, hR⟩
          obtain ⟨i, i0, i1, i2⟩ := h
          exact absurd i2 (hno i i0 (by omega))
        · refine z_aload_n 17 dX3_isPicked_16 rfl rfl ?_
          refine c_getL 20 2 hR fl_X3_15 (by decide) (show cLive m 0 0 from l0) dX3_isPicked_17 rfl ?_
          refine z_iload_n 21 dX3_isPicked_20 rfl rfl ?_
          refine c_aald 22 49 hR (c := 1) 9 (by decide) (show _ = k from rfl) (show cLive m 2 0 from l2) rfl (by decide) ⟨by omega, by omega⟩ (show _ = m 16 k from (hX.pk (by omega) (by omega))) dX3_isPicked_21 rfl (fun hl21 => ?_)
          refine z_aload_n 23 dX3_isPicked_22 rfl rfl ?_
          refine c_acmp_ne 28 26 hR (by decide) (show m 16 k < m 60 0 by omega) (show p < m 60 0 by omega) dX3_isPicked_23 (by decide) rfl  (fun h23 => ?_) (fun h23 => ?_)
          · refine z_iinc (lv' := [(2, _), (0, _), (1, _)]) 31 dX3_isPicked_28 rfl rfl rfl rfl ?_
            refine z_goto 2 dX3_isPicked_31 (by decide) ?_
            refine z_sub (lv' := [(2, _), (0, _), (1, _)]) ⟨rfl, rfl, rfl, trivial⟩ ?_
            exact ih2 _ _ hR (by omega) (fun i a b => by by_cases e : i = k; (rw [e]; omega); exact hno i a (by omega)) (by omega)
          · refine z_iconst 27 dX3_isPicked_26 rfl ?_
            refine z_zreturn rfl (by first | exact Or.inl rfl | exact Or.inr rfl | omega) dX3_isPicked_27 (by decide) (by decide) ?_
            exact ⟨1, rfl, by decide, by decide, ⟨fun _ => ⟨k, by omega, by omega, by omega⟩, fun _ => rfl⟩, hR⟩
  refine z_iconst 1 dX3_isPicked_0 rfl ?_
  refine z_istore_n (lv' := [(2, _), (0, _), (1, _)]) 2 dX3_isPicked_1 rfl rfl rfl ?_
  refine z_sub (lv' := [(2, _), (0, _), (1, _)]) ⟨rfl, rfl, rfl, trivial⟩ ?_
  exact L2 10 _ _ hR (by omega) (fun i a b => by omega) (by omega)
theorem cp_pick {m : Nat → Int → Int} {f : Nat → Int → UInt32} {a : Nat → Int → Nat} {t : zT} {p : Int} (hR : CA (up2 (up2 m 49 (m 15 0) p) 15 0 (m 15 0 + 1)) f a t) (hX : XI m f) (hk : pick_ok m p) : CP (a 0 0) (s_pick m p, f) t := by
  have e : s_pick m p = up2 (up2 m 16 (m 15 0) p) 15 0 (m 15 0 + 1) := if_pos hk
  rw [e]
  have h2 := hR.up (k := 16) (by decide) (m 15 0) p
  refine CP.of h2 ?_ (eqs_p (fun k hk j => ?_) (fun _ _ _ => rfl))
  · obtain ⟨x1, x2, x3, x4, x5, x6, x7⟩ := hX
    refine ⟨x1, x2, x3, x4, fun i i0 i1 => ?_, ?_, x7⟩
    · have i2 : i < m 15 0 + 1 := i1
      simp only [up2, true_and, false_and, reduceIte]
      (repeat' split) <;> first | rfl | omega | exact x5 i i0 (by omega)
    · have hw : wt (up2 (up2 (up2 m 49 (m 15 0) p) 15 0 (m 15 0 + 1)) 16 (m 15 0) p) = wt m := wt_cong rfl rfl rfl rfl
      unfold XP
      rw [hw]
      exact x6
  · simp only [up2, true_and, false_and, reduceIte]; (repeat' split) <;> first | rfl | omega
set_option maxRecDepth 20000 in
theorem c_pick {m : Nat → Int → Int} {f : Nat → Int → UInt32} {a : Nat → Int → Nat} {t : zT} (hR : CA m f a t) {p : Int} (hp : zi p) (hW : WF m f) (hX : XI m f) : zM yX3_pick cX3_pick 3 (some .int) 2 0 0 [vR (rf a 0 0), vI p] t (fun r t1 => r = some (vI (a_pick m p)) ∧ CP (a 0 0) (s_pick m p, f) t1) := by
  refine zM.of2 [(0, vR (rf a 0 0)), (1, vI p)] (by decide +kernel) rfl (Nat.le_of_ble_eq_true rfl) ?_
  obtain ⟨hp1, hp2⟩ := hp
  have hn1 := hW.n.1
  have hn2 := hW.n.2
  have h60 := hX.1.1
  have h62 := hX.1.2.1
  have h64 := hX.1.2.2
  obtain ⟨hk1, hk2, hk3⟩ := hW.2.2.1
  refine z_aload_n 1 dX3_pick_0 rfl rfl ?_
  refine z_iload_n 2 dX3_pick_1 rfl rfl ?_
  refine z_callV 5 [_] la_X3_freePiece ml_X3_70 im_X3_freePiece se_X3_freePiece (hR.lv 0 0 (by decide) l0).1 (hR.lv 0 0 (by decide) l0).2.1 (by decide) rfl rfl (c_freePiece hR ⟨by omega, by omega⟩ hW hX) rfl rfl (by decide) (Nat.le_of_ble_eq_true rfl) (by decide) (by decide) dX3_pick_2 rfl (fun r t hq => ?_)
  obtain ⟨v, rfl, hv, hR⟩ := hq
  refine z_astore_n (lv' := [(2, _), (0, _), (1, _)]) 6 dX3_pick_5 rfl rfl rfl ?_
  refine z_aload_n 7 dX3_pick_6 rfl rfl ?_
  refine c_ifnull 27 10 dX3_pick_7 (by decide) rfl  (fun h7 => ?_) (fun h7 => ?_)
  · refine z_bipush 29 dX3_pick_27 rfl ⟨by decide, by decide⟩ ?_
    refine z_ireturn rfl dX3_pick_29 (by decide) (by decide) ?_
    have hno : ¬ pick_ok m p := fun h => by
      obtain ⟨⟨b1, b2, b3⟩, b4, b5⟩ := h
      first | omega | (obtain ⟨i, i0, i1, i2⟩ := hz3.mp (by omega); exact b5 i i0 i1 i2)
    refine ⟨congrArg (fun z => some (vI z)) ?_, ?_⟩
    · unfold a_pick cif; rw [if_neg hno]
    · have e : s_pick m p = m := if_neg hno
      rw [e]; exact CP.rf hR hX
  · obtain rfl : p = v := by omega
    have hBp := hW.b (p := p) (by omega) (by omega)
    refine z_aload_n 11 dX3_pick_10 rfl rfl ?_
    refine z_aload_n 12 dX3_pick_11 rfl rfl ?_
    refine z_callV 15 [_] la_X3_isPicked ml_X3_73 im_X3_isPicked se_X3_isPicked (hR.lv 0 0 (by decide) l0).1 (hR.lv 0 0 (by decide) l0).2.1 (by decide) rfl rfl (c_isPicked hR hW hX ⟨by omega, by omega⟩) rfl rfl (by decide) (Nat.le_of_ble_eq_true rfl) (by decide) (by decide) dX3_pick_12 rfl (fun r t hq => ?_)
    obtain ⟨z, rfl, hz1, hz2, hz3, hR⟩ := hq
    refine z_if_ne 27 18 dX3_pick_15 (by decide) rfl ⟨by omega, by omega⟩ (fun h15 => ?_) (fun h15 => ?_)
    · refine z_bipush 29 dX3_pick_27 rfl ⟨by decide, by decide⟩ ?_
      refine z_ireturn rfl dX3_pick_29 (by decide) (by decide) ?_
      have hno : ¬ pick_ok m p := fun h => by
        obtain ⟨⟨b1, b2, b3⟩, b4, b5⟩ := h
        first | omega | (obtain ⟨i, i0, i1, i2⟩ := hz3.mp (by omega); exact b5 i i0 i1 i2)
      refine ⟨congrArg (fun z => some (vI z)) ?_, ?_⟩
      · unfold a_pick cif; rw [if_neg hno]
      · have e : s_pick m p = m := if_neg hno
        rw [e]; exact CP.rf hR hX
    · refine z_aload_n 19 dX3_pick_18 rfl rfl ?_
      refine c_getI 22 15 hR fl_X3_77 (by decide) (show cLive m 0 0 from l0) (show _ = m 15 0 from rfl) dX3_pick_19 rfl ?_
      refine z_bipush 24 dX3_pick_22 rfl ⟨by decide, by decide⟩ ?_
      refine z_icmp_lt 30 27 dX3_pick_24 (by decide) rfl ⟨by omega, by omega⟩ ⟨by omega, by omega⟩ (fun h24 => ?_) (fun h24 => ?_)
      · refine z_aload_n 31 dX3_pick_30 rfl rfl ?_
        refine c_getL 34 2 hR fl_X3_15 (by decide) (show cLive m 0 0 from l0) dX3_pick_31 rfl ?_
        refine z_aload_n 35 dX3_pick_34 rfl rfl ?_
        refine c_getI 38 15 hR fl_X3_77 (by decide) (show cLive m 0 0 from l0) (show _ = m 15 0 from rfl) dX3_pick_35 rfl ?_
        refine z_aload_n 39 dX3_pick_38 rfl rfl ?_
        refine c_aast 40 49 hR (c := 1) 9 (by decide) (show _ = m 15 0 from rfl) (show cLive m 2 0 from l2) (show cLive m 6 p from lp ⟨by omega, by omega⟩) rfl (by decide) ⟨by omega, by omega⟩ dX3_pick_39 rfl (fun t hR => ?_)
        refine z_aload_n 41 dX3_pick_40 rfl rfl ?_
        refine z_dup 42 dX3_pick_41 rfl rfl ?_
        refine c_getI 45 15 hR fl_X3_77 (by decide) (show cLive m 0 0 from l0) (show _ = m 15 0 from rfl) dX3_pick_42 rfl ?_
        refine z_iconst 46 dX3_pick_45 rfl ?_
        refine z_iadd 47 dX3_pick_46 rfl ?_
        refine c_putI 50 15 hR fl_X3_77 (by decide) (show cLive m 0 0 from l0) dX3_pick_47 rfl (fun t hR => ?_)
        refine z_aload_n 51 dX3_pick_50 rfl rfl ?_
        refine c_getI 54 15 hR fl_X3_77 (by decide) (show cLive m 0 0 from l0) (show _ = (m 15 0 + 1) from up2_s _ _ _ _) dX3_pick_51 rfl ?_
        refine z_ireturn rfl dX3_pick_54 (by decide) (by decide) ?_
        have hok : pick_ok m p := ⟨⟨by omega, by omega, by omega⟩, by omega, fun i i0 i1 i2 => by have := hz3.mpr ⟨i, i0, i1, i2⟩; omega⟩
        refine ⟨congrArg (fun z => some (vI z)) ?_, cp_pick hR hX hok⟩
        unfold a_pick cif; rw [if_pos hok]
      · refine z_bipush 29 dX3_pick_27 rfl ⟨by decide, by decide⟩ ?_
        refine z_ireturn rfl dX3_pick_29 (by decide) (by decide) ?_
        have hno : ¬ pick_ok m p := fun h => by
          obtain ⟨⟨b1, b2, b3⟩, b4, b5⟩ := h
          first | omega | (obtain ⟨i, i0, i1, i2⟩ := hz3.mp (by omega); exact b5 i i0 i1 i2)
        refine ⟨congrArg (fun z => some (vI z)) ?_, ?_⟩
        · unfold a_pick cif; rw [if_neg hno]
        · have e : s_pick m p = m := if_neg hno
          rw [e]; exact CP.rf hR hX
theorem cp_drop {m : Nat → Int → Int} {f : Nat → Int → UInt32} {a : Nat → Int → Nat} {t : zT} (hR : CA (up2 m 15 0 0) f a t) (hX : XI m f) : CP (a 0 0) (up2 m 15 0 0, f) t := by
  refine CP.of hR ?_ eqs.rf
  obtain ⟨x1, x2, x3, x4, x5, x6, x7⟩ := hX
  refine ⟨x1, x2, x3, x4, fun i i0 i1 => ?_, ?_, x7⟩
  · have i2 : i < 0 := i1
    omega
  · have hw : wt (up2 m 15 0 0) = wt m := wt_cong rfl rfl rfl rfl
    unfold XP
    rw [hw]
    exact x6
set_option maxRecDepth 20000 in
theorem c_drop {m : Nat → Int → Int} {f : Nat → Int → UInt32} {a : Nat → Int → Nat} {t : zT} (hR : CA m f a t) (hW : WF m f) (hX : XI m f) : zM yX3_drop cX3_drop 2 (some .int) 0 0 0 [vR (rf a 0 0)] t (fun r t1 => r = some (vI (m 15 0)) ∧ CP (a 0 0) (up2 m 15 0 0, f) t1) := by
  refine zM.of2 [(0, vR (rf a 0 0))] (by decide +kernel) rfl (Nat.le_of_ble_eq_true rfl) ?_
  have hn1 := hW.n.1
  have hn2 := hW.n.2
  have h60 := hX.1.1
  have h62 := hX.1.2.1
  have h64 := hX.1.2.2
  refine z_aload_n 1 dX3_drop_0 rfl rfl ?_
  refine c_getI 4 15 hR fl_X3_77 (by decide) (show cLive m 0 0 from l0) (show _ = m 15 0 from rfl) dX3_drop_1 rfl ?_
  refine z_istore_n (lv' := [(1, _), (0, _)]) 5 dX3_drop_4 rfl rfl rfl ?_
  refine z_aload_n 6 dX3_drop_5 rfl rfl ?_
  refine z_iconst 7 dX3_drop_6 rfl ?_
  refine c_putI 10 15 hR fl_X3_77 (by decide) (show cLive m 0 0 from l0) dX3_drop_7 rfl (fun t hR => ?_)
  refine z_iload_n 11 dX3_drop_10 rfl rfl ?_
  refine z_ireturn rfl dX3_drop_11 (by decide) (by decide) ?_
  exact ⟨rfl, cp_drop hR hX⟩
set_option maxRecDepth 20000 in
theorem c_otherTwist {t : zT} {k : Int} (hk : zi k) : zM yX3_otherTwist cX3_otherTwist 1 (some .int) 0 0 0 [vI k] t (fun r t1 => r = some (vI (if k = 1 then 2 else 1)) ∧ t1 = t) := by
  refine zM.of2 [(0, vI k)] (by decide +kernel) rfl (Nat.le_of_ble_eq_true rfl) ?_
  obtain ⟨hk1, hk2⟩ := hk
  refine z_iload_n 1 dX3_otherTwist_0 rfl rfl ?_
  refine z_iconst 2 dX3_otherTwist_1 rfl ?_
  refine z_icmp_ne 9 5 dX3_otherTwist_2 (by decide) rfl ⟨by omega, by omega⟩ ⟨by omega, by omega⟩ (fun h2 => ?_) (fun h2 => ?_)
  · refine z_iconst 10 dX3_otherTwist_9 rfl ?_
    refine z_ireturn rfl dX3_otherTwist_10 (by decide) (by decide) ?_
    exact ⟨congrArg (fun z => some (vI z)) (by split <;> omega), rfl⟩
  · refine z_iconst 6 dX3_otherTwist_5 rfl ?_
    refine z_goto 10 dX3_otherTwist_6 (by decide) ?_
    refine z_ireturn rfl dX3_otherTwist_10 (by decide) (by decide) ?_
    exact ⟨congrArg (fun z => some (vI z)) (by split <;> omega), rfl⟩
set_option maxRecDepth 20000 in
theorem c_canHold {t : zT} {k : Int} (hk : zi k) {n : Int} (hn : zi n) : zM yX3_canHold cX3_canHold 2 (some .boolean) 0 0 0 [vI k, vI n] t (fun r t1 => ∃ z, r = some (vI z) ∧ 0 ≤ z ∧ z ≤ 1 ∧ (z = 1 ↔ (k = 1 ∧ 2 ≤ n ∧ n ≤ 9) ∨ (k = 2 ∧ (n = 3 ∨ n = 4)) ∨ (k = 3 ∧ n = 3)) ∧ t1 = t) := by
  refine zM.of2 [(0, vI k), (1, vI n)] (by decide +kernel) rfl (Nat.le_of_ble_eq_true rfl) ?_
  obtain ⟨hk1, hk2⟩ := hk
  obtain ⟨hn1, hn2⟩ := hn
  refine z_iload_n 1 dX3_canHold_0 rfl rfl ?_
  refine z_iconst 2 dX3_canHold_1 rfl ?_
  refine z_icmp_ne 22 5 dX3_canHold_2 (by decide) rfl ⟨by omega, by omega⟩ ⟨by omega, by omega⟩ (fun h2 => ?_) (fun h2 => ?_)
  · refine z_iload_n 23 dX3_canHold_22 rfl rfl ?_
    refine z_iconst 24 dX3_canHold_23 rfl ?_
    refine z_icmp_ne 43 27 dX3_canHold_24 (by decide) rfl ⟨by omega, by omega⟩ ⟨by omega, by omega⟩ (fun h24 => ?_) (fun h24 => ?_)
    · refine z_iload_n 44 dX3_canHold_43 rfl rfl ?_
      refine z_iconst 45 dX3_canHold_44 rfl ?_
      refine z_icmp_ne 57 48 dX3_canHold_45 (by decide) rfl ⟨by omega, by omega⟩ ⟨by omega, by omega⟩ (fun h45 => ?_) (fun h45 => ?_)
      · refine z_iconst 58 dX3_canHold_57 rfl ?_
        refine z_zreturn rfl (by first | exact Or.inl rfl | exact Or.inr rfl | omega) dX3_canHold_58 (by decide) (by decide) ?_
        refine ⟨_, rfl, by omega, by omega, by omega, rfl⟩
      · refine z_iload_n 49 dX3_canHold_48 rfl rfl ?_
        refine z_iconst 50 dX3_canHold_49 rfl ?_
        refine z_icmp_ne 57 53 dX3_canHold_50 (by decide) rfl ⟨by omega, by omega⟩ ⟨by omega, by omega⟩ (fun h50 => ?_) (fun h50 => ?_)
        · refine z_iconst 58 dX3_canHold_57 rfl ?_
          refine z_zreturn rfl (by first | exact Or.inl rfl | exact Or.inr rfl | omega) dX3_canHold_58 (by decide) (by decide) ?_
          refine ⟨_, rfl, by omega, by omega, by omega, rfl⟩
        · refine z_iconst 54 dX3_canHold_53 rfl ?_
          refine z_goto 58 dX3_canHold_54 (by decide) ?_
          refine z_zreturn rfl (by first | exact Or.inl rfl | exact Or.inr rfl | omega) dX3_canHold_58 (by decide) (by decide) ?_
          refine ⟨_, rfl, by omega, by omega, by omega, rfl⟩
    · refine z_iload_n 28 dX3_canHold_27 rfl rfl ?_
      refine z_iconst 29 dX3_canHold_28 rfl ?_
      refine z_icmp_eq 37 32 dX3_canHold_29 (by decide) rfl ⟨by omega, by omega⟩ ⟨by omega, by omega⟩ (fun h29 => ?_) (fun h29 => ?_)
      · refine z_iconst 38 dX3_canHold_37 rfl ?_
        refine z_goto 42 dX3_canHold_38 (by decide) ?_
        refine z_zreturn rfl (by first | exact Or.inl rfl | exact Or.inr rfl | omega) dX3_canHold_42 (by decide) (by decide) ?_
        refine ⟨_, rfl, by omega, by omega, by omega, rfl⟩
      · refine z_iload_n 33 dX3_canHold_32 rfl rfl ?_
        refine z_iconst 34 dX3_canHold_33 rfl ?_
        refine z_icmp_ne 41 37 dX3_canHold_34 (by decide) rfl ⟨by omega, by omega⟩ ⟨by omega, by omega⟩ (fun h34 => ?_) (fun h34 => ?_)
        · refine z_iconst 42 dX3_canHold_41 rfl ?_
          refine z_zreturn rfl (by first | exact Or.inl rfl | exact Or.inr rfl | omega) dX3_canHold_42 (by decide) (by decide) ?_
          refine ⟨_, rfl, by omega, by omega, by omega, rfl⟩
        · refine z_iconst 38 dX3_canHold_37 rfl ?_
          refine z_goto 42 dX3_canHold_38 (by decide) ?_
          refine z_zreturn rfl (by first | exact Or.inl rfl | exact Or.inr rfl | omega) dX3_canHold_42 (by decide) (by decide) ?_
          refine ⟨_, rfl, by omega, by omega, by omega, rfl⟩
  · refine z_iload_n 6 dX3_canHold_5 rfl rfl ?_
    refine z_iconst 7 dX3_canHold_6 rfl ?_
    refine z_icmp_lt 20 10 dX3_canHold_7 (by decide) rfl ⟨by omega, by omega⟩ ⟨by omega, by omega⟩ (fun h7 => ?_) (fun h7 => ?_)
    · refine z_iconst 21 dX3_canHold_20 rfl ?_
      refine z_zreturn rfl (by first | exact Or.inl rfl | exact Or.inr rfl | omega) dX3_canHold_21 (by decide) (by decide) ?_
      refine ⟨_, rfl, by omega, by omega, by omega, rfl⟩
    · refine z_iload_n 11 dX3_canHold_10 rfl rfl ?_
      refine z_bipush 13 dX3_canHold_11 rfl ⟨by decide, by decide⟩ ?_
      refine z_icmp_gt 20 16 dX3_canHold_13 (by decide) rfl ⟨by omega, by omega⟩ ⟨by omega, by omega⟩ (fun h13 => ?_) (fun h13 => ?_)
      · refine z_iconst 21 dX3_canHold_20 rfl ?_
        refine z_zreturn rfl (by first | exact Or.inl rfl | exact Or.inr rfl | omega) dX3_canHold_21 (by decide) (by decide) ?_
        refine ⟨_, rfl, by omega, by omega, by omega, rfl⟩
      · refine z_iconst 17 dX3_canHold_16 rfl ?_
        refine z_goto 21 dX3_canHold_17 (by decide) ?_
        refine z_zreturn rfl (by first | exact Or.inl rfl | exact Or.inr rfl | omega) dX3_canHold_21 (by decide) (by decide) ?_
        refine ⟨_, rfl, by omega, by omega, by omega, rfl⟩
set_option maxRecDepth 20000 in
theorem c_canBePart {m : Nat → Int → Int} {f : Nat → Int → UInt32} {a : Nat → Int → Nat} {t : zT} (hR : CA m f a t) {k : Int} (hk : zi k) {q : Int} (hq : zi q) {p : Int} (hW : WF m f) (hX : XI m f) (hp : 0 ≤ p ∧ p < m 0 0) (hk0 : 1 ≤ k ∧ k ≤ 3) (hq0 : 1 ≤ q ∧ q ≤ 2) (h4 : m 4 p = 0) : zM yX3_canBePart cX3_canBePart 3 (some .boolean) 1 0 0 [vI k, vI q, vR (rf a 6 p)] t (fun r t1 => ∃ z, r = some (vI z) ∧ 0 ≤ z ∧ z ≤ 1 ∧ (z = 1 ↔ mayin m k q p) ∧ CA m f a t1) := by
  refine zM.of2 [(0, vI k), (1, vI q), (2, vR (rf a 6 p))] (by decide +kernel) rfl (Nat.le_of_ble_eq_true rfl) ?_
  obtain ⟨hk1, hk2⟩ := hk
  obtain ⟨hq1, hq2⟩ := hq
  have hn1 := hW.n.1
  have hn2 := hW.n.2
  have h60 := hX.1.1
  have h62 := hX.1.2.1
  have h64 := hX.1.2.2
  have hB := hW.b (p := p) (by omega) (by omega)
  refine z_iload_n 1 dX3_canBePart_0 rfl rfl ?_
  refine z_iconst 2 dX3_canBePart_1 rfl ?_
  refine z_icmp_ne 26 5 dX3_canBePart_2 (by decide) rfl ⟨by omega, by omega⟩ ⟨by omega, by omega⟩ (fun h2 => ?_) (fun h2 => ?_)
  · refine z_aload_n 27 dX3_canBePart_26 rfl rfl ?_
    refine c_getI 30 3 hR fl_X3_106 (by decide) (show cLive m 6 p from lp ⟨by omega, by omega⟩) (show _ = m 3 p from rfl) dX3_canBePart_27 rfl ?_
    refine z_iload_n 31 dX3_canBePart_30 rfl rfl ?_
    refine z_callS 34 [_] la_X3_otherTwist ml_X3_109 sm_X3_otherTwist (c_otherTwist ⟨by omega, by omega⟩) rfl rfl (by decide) (Nat.le_of_ble_eq_true rfl) (by decide) (by decide) dX3_canBePart_31 rfl (fun r t hq => ?_)
    obtain ⟨rfl, rfl⟩ := hq
    have h3q : (if q = 1 then 2 else 1) = 3 - q := by split <;> omega
    rw [h3q]
    refine z_icmp_eq 39 37 dX3_canBePart_34 (by decide) rfl ⟨by omega, by omega⟩ ⟨by omega, by omega⟩ (fun h34 => ?_) (fun h34 => ?_)
    · refine z_iload_n 40 dX3_canBePart_39 rfl rfl ?_
      refine z_iconst 41 dX3_canBePart_40 rfl ?_
      refine z_icmp_ne 58 44 dX3_canBePart_41 (by decide) rfl ⟨by omega, by omega⟩ ⟨by omega, by omega⟩ (fun h41 => ?_) (fun h41 => ?_)
      · refine z_iload_n 59 dX3_canBePart_58 rfl rfl ?_
        refine z_iconst 60 dX3_canBePart_59 rfl ?_
        refine z_icmp_ne 83 63 dX3_canBePart_60 (by decide) rfl ⟨by omega, by omega⟩ ⟨by omega, by omega⟩ (fun h60 => ?_) (fun h60 => ?_)
        · refine z_iconst 84 dX3_canBePart_83 rfl ?_
          refine z_zreturn rfl (by first | exact Or.inl rfl | exact Or.inr rfl | omega) dX3_canBePart_84 (by decide) (by decide) ?_
          refine ⟨_, rfl, by omega, by omega, by unfold mayin; omega, hR⟩
        · refine z_aload_n 64 dX3_canBePart_63 rfl rfl ?_
          refine c_getI 67 1 hR fl_X3_103 (by decide) (show cLive m 6 p from lp ⟨by omega, by omega⟩) (show _ = m 1 p from rfl) dX3_canBePart_64 rfl ?_
          refine z_iconst 68 dX3_canBePart_67 rfl ?_
          refine z_icmp_eq 79 71 dX3_canBePart_68 (by decide) rfl ⟨by omega, by omega⟩ ⟨by omega, by omega⟩ (fun h68 => ?_) (fun h68 => ?_)
          · refine z_iconst 80 dX3_canBePart_79 rfl ?_
            refine z_goto 84 dX3_canBePart_80 (by decide) ?_
            refine z_zreturn rfl (by first | exact Or.inl rfl | exact Or.inr rfl | omega) dX3_canBePart_84 (by decide) (by decide) ?_
            refine ⟨_, rfl, by omega, by omega, by unfold mayin; omega, hR⟩
          · refine z_aload_n 72 dX3_canBePart_71 rfl rfl ?_
            refine c_getI 75 1 hR fl_X3_103 (by decide) (show cLive m 6 p from lp ⟨by omega, by omega⟩) (show _ = m 1 p from rfl) dX3_canBePart_72 rfl ?_
            refine z_iconst 76 dX3_canBePart_75 rfl ?_
            refine z_icmp_ne 83 79 dX3_canBePart_76 (by decide) rfl ⟨by omega, by omega⟩ ⟨by omega, by omega⟩ (fun h76 => ?_) (fun h76 => ?_)
            · refine z_iconst 84 dX3_canBePart_83 rfl ?_
              refine z_zreturn rfl (by first | exact Or.inl rfl | exact Or.inr rfl | omega) dX3_canBePart_84 (by decide) (by decide) ?_
              refine ⟨_, rfl, by omega, by omega, by unfold mayin; omega, hR⟩
            · refine z_iconst 80 dX3_canBePart_79 rfl ?_
              refine z_goto 84 dX3_canBePart_80 (by decide) ?_
              refine z_zreturn rfl (by first | exact Or.inl rfl | exact Or.inr rfl | omega) dX3_canBePart_84 (by decide) (by decide) ?_
              refine ⟨_, rfl, by omega, by omega, by unfold mayin; omega, hR⟩
      · refine z_aload_n 45 dX3_canBePart_44 rfl rfl ?_
        refine c_getI 48 1 hR fl_X3_103 (by decide) (show cLive m 6 p from lp ⟨by omega, by omega⟩) (show _ = m 1 p from rfl) dX3_canBePart_45 rfl ?_
        refine z_iconst 49 dX3_canBePart_48 rfl ?_
        refine z_icmp_ne 56 52 dX3_canBePart_49 (by decide) rfl ⟨by omega, by omega⟩ ⟨by omega, by omega⟩ (fun h49 => ?_) (fun h49 => ?_)
        · refine z_iconst 57 dX3_canBePart_56 rfl ?_
          refine z_zreturn rfl (by first | exact Or.inl rfl | exact Or.inr rfl | omega) dX3_canBePart_57 (by decide) (by decide) ?_
          refine ⟨_, rfl, by omega, by omega, by unfold mayin; omega, hR⟩
        · refine z_iconst 53 dX3_canBePart_52 rfl ?_
          refine z_goto 57 dX3_canBePart_53 (by decide) ?_
          refine z_zreturn rfl (by first | exact Or.inl rfl | exact Or.inr rfl | omega) dX3_canBePart_57 (by decide) (by decide) ?_
          refine ⟨_, rfl, by omega, by omega, by unfold mayin; omega, hR⟩
    · refine z_iconst 38 dX3_canBePart_37 rfl ?_
      refine z_zreturn rfl (by first | exact Or.inl rfl | exact Or.inr rfl | omega) dX3_canBePart_38 (by decide) (by decide) ?_
      refine ⟨_, rfl, by omega, by omega, by unfold mayin; omega, hR⟩
  · refine z_aload_n 6 dX3_canBePart_5 rfl rfl ?_
    refine c_getI 9 1 hR fl_X3_103 (by decide) (show cLive m 6 p from lp ⟨by omega, by omega⟩) (show _ = m 1 p from rfl) dX3_canBePart_6 rfl ?_
    refine z_if_eq 20 12 dX3_canBePart_9 (by decide) rfl ⟨by omega, by omega⟩ (fun h9 => ?_) (fun h9 => ?_)
    · refine z_iconst 21 dX3_canBePart_20 rfl ?_
      refine z_goto 25 dX3_canBePart_21 (by decide) ?_
      refine z_zreturn rfl (by first | exact Or.inl rfl | exact Or.inr rfl | omega) dX3_canBePart_25 (by decide) (by decide) ?_
      refine ⟨_, rfl, by omega, by omega, by unfold mayin; omega, hR⟩
    · refine z_aload_n 13 dX3_canBePart_12 rfl rfl ?_
      refine c_getI 16 1 hR fl_X3_103 (by decide) (show cLive m 6 p from lp ⟨by omega, by omega⟩) (show _ = m 1 p from rfl) dX3_canBePart_13 rfl ?_
      refine z_iconst 17 dX3_canBePart_16 rfl ?_
      refine z_icmp_ne 24 20 dX3_canBePart_17 (by decide) rfl ⟨by omega, by omega⟩ ⟨by omega, by omega⟩ (fun h17 => ?_) (fun h17 => ?_)
      · refine z_iconst 25 dX3_canBePart_24 rfl ?_
        refine z_zreturn rfl (by first | exact Or.inl rfl | exact Or.inr rfl | omega) dX3_canBePart_25 (by decide) (by decide) ?_
        refine ⟨_, rfl, by omega, by omega, by unfold mayin; omega, hR⟩
      · refine z_iconst 21 dX3_canBePart_20 rfl ?_
        refine z_goto 25 dX3_canBePart_21 (by decide) ?_
        refine z_zreturn rfl (by first | exact Or.inl rfl | exact Or.inr rfl | omega) dX3_canBePart_25 (by decide) (by decide) ?_
        refine ⟨_, rfl, by omega, by omega, by unfold mayin; omega, hR⟩
set_option maxRecDepth 20000 in
theorem c_pickedFit {m : Nat → Int → Int} {f : Nat → Int → UInt32} {a : Nat → Int → Nat} {t : zT} (hR : CA m f a t) {k : Int} (hk : zi k) {q : Int} (hq : zi q) (hW : WF m f) (hX : XI m f) (hk0 : 1 ≤ k ∧ k ≤ 3) (hq0 : 1 ≤ q ∧ q ≤ 2) : zM yX3_pickedFit cX3_pickedFit 5 (some .boolean) 2 0 0 [vR (rf a 0 0), vI k, vI q] t (fun r t1 => ∃ z, r = some (vI z) ∧ 0 ≤ z ∧ z ≤ 1 ∧ (z = 1 ↔ ∀ i, 0 ≤ i → i < m 15 0 → mayin m k q (m 16 i)) ∧ CA m f a t1) := by
  refine zM.of2 [(0, vR (rf a 0 0)), (1, vI k), (2, vI q)] (by decide +kernel) rfl (Nat.le_of_ble_eq_true rfl) ?_
  obtain ⟨hk1, hk2⟩ := hk
  obtain ⟨hq1, hq2⟩ := hq
  have hn1 := hW.n.1
  have hn2 := hW.n.2
  have h60 := hX.1.1
  have h62 := hX.1.2.1
  have h64 := hX.1.2.2
  obtain ⟨hg1, hg2, hg3⟩ := hW.2.2.1
  have L2 : ∀ (fuel : Nat) (i : Int) (t : zT) (hR : CA m f a t) (hi : 0 ≤ i ∧ i ≤ m 15 0) (hall : ∀ j, 0 ≤ j → j < i → mayin m k q (m 16 j)) (hf : m 15 0 - i < (fuel : Int)), zOK yX3_pickedFit cX3_pickedFit 5 (some .boolean) 2 0 0 (fun r t1 => ∃ z, r = some (vI z) ∧ 0 ≤ z ∧ z ≤ 1 ∧ (z = 1 ↔ ∀ i, 0 ≤ i → i < m 15 0 → mayin m k q (m 16 i)) ∧ CA m f a t1) 0 0 2 [(3, vI i), (0, vR (rf a 0 0)), (1, vI k), (2, vI q)] [] t := by
    intro fuel
    induction fuel with
    | zero => intro i t hR hi hall hf; exfalso; omega
    | succ fuel ih2 =>
      intro i t hR hi hall hf
      have hgi := fun (h : i < m 15 0) => hg3 i hi.1 h
      have hgb := fun (h : i < m 15 0) => hW.b (hgi h).1 (hgi h).2
      refine z_iload_n 3 dX3_pickedFit_2 rfl rfl ?_
      refine z_aload_n 4 dX3_pickedFit_3 rfl rfl ?_
      refine c_getI 7 15 hR fl_X3_77 (by decide) (show cLive m 0 0 from l0) (show _ = m 15 0 from rfl) dX3_pickedFit_4 rfl ?_
      refine z_icmp_ge 55 10 dX3_pickedFit_7 (by decide) rfl ⟨by omega, by omega⟩ ⟨by omega, by omega⟩ (fun h7 => ?_) (fun h7 => ?_)
      · refine z_iconst 56 dX3_pickedFit_55 rfl ?_
        refine z_zreturn rfl (by first | exact Or.inl rfl | exact Or.inr rfl | omega) dX3_pickedFit_56 (by decide) (by decide) ?_
        exact ⟨1, rfl, by decide, by decide, ⟨fun _ j j0 j1 => hall j j0 (by omega), fun _ => rfl⟩, hR⟩
      · refine z_iload_n 11 dX3_pickedFit_10 rfl rfl ?_
        refine z_bipush 13 dX3_pickedFit_11 rfl ⟨by decide, by decide⟩ ?_
        refine z_icmp_ge 55 16 dX3_pickedFit_13 (by decide) rfl ⟨by omega, by omega⟩ ⟨by omega, by omega⟩ (fun h13 => ?_) (fun h13 => ?_)
        · refine z_iconst 56 dX3_pickedFit_55 rfl ?_
          refine z_zreturn rfl (by first | exact Or.inl rfl | exact Or.inr rfl | omega) dX3_pickedFit_56 (by decide) (by decide) ?_
          exact ⟨1, rfl, by decide, by decide, ⟨fun _ j j0 j1 => hall j j0 (by omega), fun _ => rfl⟩, hR⟩
        · refine z_aload_n 17 dX3_pickedFit_16 rfl rfl ?_
          refine c_getL 20 2 hR fl_X3_15 (by decide) (show cLive m 0 0 from l0) dX3_pickedFit_17 rfl ?_
          refine z_iload_n 21 dX3_pickedFit_20 rfl rfl ?_
          refine c_aald 22 49 hR (c := 1) 9 (by decide) (show _ = i from rfl) (show cLive m 2 0 from l2) rfl (by decide) ⟨by omega, by omega⟩ (show _ = m 16 i from (hX.pk (by omega) (by omega))) dX3_pickedFit_21 rfl (fun hl21 => ?_)
          refine z_astore (lv' := [(4, _), (3, _), (0, _), (1, _), (2, _)]) 24 dX3_pickedFit_22 rfl rfl rfl ?_
          refine z_aload 26 dX3_pickedFit_24 rfl rfl ?_
          refine c_ifnull 47 29 dX3_pickedFit_26 (by decide) rfl  (fun h26 => ?_) (fun h26 => ?_)
          · refine z_iconst 48 dX3_pickedFit_47 rfl ?_
            refine z_zreturn rfl (by first | exact Or.inl rfl | exact Or.inr rfl | omega) dX3_pickedFit_48 (by decide) (by decide) ?_
            refine ⟨0, rfl, by decide, by decide, ⟨fun h => by omega, fun h => ?_⟩, hR⟩
            have hmi := h i hi.1 (by omega)
            first | (have := hz3.mpr hmi; omega) | (have := hmi.1; omega)
          · refine z_aload 31 dX3_pickedFit_29 rfl rfl ?_
            refine c_getI 34 4 hR fl_X3_67 (by decide) (show cLive m 6 (m 16 i) from lp ⟨by omega, by omega⟩) (show _ = m 4 (m 16 i) from rfl) dX3_pickedFit_31 rfl ?_
            refine z_if_ne 47 37 dX3_pickedFit_34 (by decide) rfl ⟨by omega, by omega⟩ (fun h34 => ?_) (fun h34 => ?_)
            · refine z_iconst 48 dX3_pickedFit_47 rfl ?_
              refine z_zreturn rfl (by first | exact Or.inl rfl | exact Or.inr rfl | omega) dX3_pickedFit_48 (by decide) (by decide) ?_
              refine ⟨0, rfl, by decide, by decide, ⟨fun h => by omega, fun h => ?_⟩, hR⟩
              have hmi := h i hi.1 (by omega)
              first | (have := hz3.mpr hmi; omega) | (have := hmi.1; omega)
            · refine z_iload_n 38 dX3_pickedFit_37 rfl rfl ?_
              refine z_iload_n 39 dX3_pickedFit_38 rfl rfl ?_
              refine z_aload 41 dX3_pickedFit_39 rfl rfl ?_
              refine z_callS 44 [_, _, _] la_X3_canBePart ml_X3_99 sm_X3_canBePart (c_canBePart hR ⟨by omega, by omega⟩ ⟨by omega, by omega⟩ hW hX ⟨by omega, by omega⟩ hk0 hq0 (by omega)) rfl rfl (by decide) (Nat.le_of_ble_eq_true rfl) (by decide) (by decide) dX3_pickedFit_41 rfl (fun r t hq => ?_)
              obtain ⟨z, rfl, hz1, hz2, hz3, hR⟩ := hq
              refine z_if_ne 49 47 dX3_pickedFit_44 (by decide) rfl ⟨by omega, by omega⟩ (fun h44 => ?_) (fun h44 => ?_)
              · refine z_iinc (lv' := [(3, _), (4, _), (0, _), (1, _), (2, _)]) 52 dX3_pickedFit_49 rfl rfl rfl rfl ?_
                refine z_goto 2 dX3_pickedFit_52 (by decide) ?_
                refine z_sub (lv' := [(3, _), (0, _), (1, _), (2, _)]) ⟨rfl, rfl, rfl, rfl, trivial⟩ ?_
                exact ih2 _ _ hR (by omega) (fun j a b => by by_cases e : j = i; (rw [e]; exact hz3.mp (by omega)); exact hall j a (by omega)) (by omega)
              · refine z_iconst 48 dX3_pickedFit_47 rfl ?_
                refine z_zreturn rfl (by first | exact Or.inl rfl | exact Or.inr rfl | omega) dX3_pickedFit_48 (by decide) (by decide) ?_
                refine ⟨0, rfl, by decide, by decide, ⟨fun h => by omega, fun h => ?_⟩, hR⟩
                have hmi := h i hi.1 (by omega)
                first | (have := hz3.mpr hmi; omega) | (have := hmi.1; omega)
  refine z_iconst 1 dX3_pickedFit_0 rfl ?_
  refine z_istore_n (lv' := [(3, _), (0, _), (1, _), (2, _)]) 2 dX3_pickedFit_1 rfl rfl rfl ?_
  refine z_sub (lv' := [(3, _), (0, _), (1, _), (2, _)]) ⟨rfl, rfl, rfl, rfl, trivial⟩ ?_
  exact L2 10 _ _ hR (by omega) (fun i a b => by omega) (by omega)
set_option maxRecDepth 20000 in
theorem c_shortestPicked {m : Nat → Int → Int} {f : Nat → Int → UInt32} {a : Nat → Int → Nat} {t : zT} (hR : CA m f a t) (hW : WF m f) (hX : XI m f) : zM yX3_shortestPicked cX3_shortestPicked 3 (some .int) 1 0 0 [vR (rf a 0 0)] t (fun r t1 => r = some (vI (lmin m (m 15 0).toNat)) ∧ CA m f a t1) := by
  refine zM.of2 [(0, vR (rf a 0 0))] (by decide +kernel) rfl (Nat.le_of_ble_eq_true rfl) ?_
  have hn1 := hW.n.1
  have hn2 := hW.n.2
  have h60 := hX.1.1
  have h62 := hX.1.2.1
  have h64 := hX.1.2.2
  obtain ⟨hg1, hg2, hg3⟩ := hW.2.2.1
  have L6 : ∀ (fuel : Nat) (i : Nat) (t : zT) (hR : CA m f a t) (hi : (i : Int) ≤ m 15 0) (hf : m 15 0 - i < (fuel : Int)), zOK yX3_shortestPicked cX3_shortestPicked 3 (some .int) 1 0 0 (fun r t1 => r = some (vI (lmin m (m 15 0).toNat)) ∧ CA m f a t1) 0 0 6 [(2, vI (i : Int)), (1, vI (lmin m i)), (0, vR (rf a 0 0))] [] t := by
    intro fuel
    induction fuel with
    | zero => intro i t hR hi hf; exfalso; omega
    | succ fuel ih6 =>
      intro i t hR hi hf
      have hgi := fun (h : (i : Int) < m 15 0) => hg3 i (by omega) h
      have hgb := fun (h : (i : Int) < m 15 0) => hW.b (hgi h).1 (hgi h).2
      have hlm := lmin_b (m := m) (n := i) (fun k a b => by have := hg3 k a (by omega); have := hW.b this.1 this.2; omega)
      refine z_iload_n 7 dX3_shortestPicked_6 rfl rfl ?_
      refine z_aload_n 8 dX3_shortestPicked_7 rfl rfl ?_
      refine c_getI 11 15 hR fl_X3_77 (by decide) (show cLive m 0 0 from l0) (show _ = m 15 0 from rfl) dX3_shortestPicked_8 rfl ?_
      refine z_icmp_ge 49 14 dX3_shortestPicked_11 (by decide) rfl ⟨by omega, by omega⟩ ⟨by omega, by omega⟩ (fun h11 => ?_) (fun h11 => ?_)
      · refine z_iload_n 50 dX3_shortestPicked_49 rfl rfl ?_
        refine z_ireturn rfl dX3_shortestPicked_50 (by decide) (by decide) ?_
        have hii : (m 15 0).toNat = i := by omega
        exact ⟨by rw [hii], hR⟩
      · refine z_iload_n 15 dX3_shortestPicked_14 rfl rfl ?_
        refine z_bipush 17 dX3_shortestPicked_15 rfl ⟨by decide, by decide⟩ ?_
        refine z_icmp_ge 49 20 dX3_shortestPicked_17 (by decide) rfl ⟨by omega, by omega⟩ ⟨by omega, by omega⟩ (fun h17 => ?_) (fun h17 => ?_)
        · refine z_iload_n 50 dX3_shortestPicked_49 rfl rfl ?_
          refine z_ireturn rfl dX3_shortestPicked_50 (by decide) (by decide) ?_
          have hii : (m 15 0).toNat = i := by omega
          exact ⟨by rw [hii], hR⟩
        · refine z_aload_n 21 dX3_shortestPicked_20 rfl rfl ?_
          refine c_getL 24 2 hR fl_X3_15 (by decide) (show cLive m 0 0 from l0) dX3_shortestPicked_21 rfl ?_
          refine z_iload_n 25 dX3_shortestPicked_24 rfl rfl ?_
          refine c_aald 26 49 hR (c := 1) 9 (by decide) (show _ = (i : Int) from rfl) (show cLive m 2 0 from l2) rfl (by decide) ⟨by omega, by omega⟩ (show _ = m 16 i from (hX.pk (by omega) (by omega))) dX3_shortestPicked_25 rfl (fun hl25 => ?_)
          refine c_ifnull 43 29 dX3_shortestPicked_26 (by decide) rfl  (fun h26 => ?_) (fun h26 => ?_)
          · exfalso; omega
          refine z_iload_n 30 dX3_shortestPicked_29 rfl rfl ?_
          refine z_aload_n 31 dX3_shortestPicked_30 rfl rfl ?_
          refine c_getL 34 2 hR fl_X3_15 (by decide) (show cLive m 0 0 from l0) dX3_shortestPicked_31 rfl ?_
          refine z_iload_n 35 dX3_shortestPicked_34 rfl rfl ?_
          refine c_aald 36 49 hR (c := 1) 9 (by decide) (show _ = (i : Int) from rfl) (show cLive m 2 0 from l2) rfl (by decide) ⟨by omega, by omega⟩ (show _ = m 16 i from (hX.pk (by omega) (by omega))) dX3_shortestPicked_35 rfl (fun hl35 => ?_)
          refine c_getI 39 2 hR fl_X3_113 (by decide) (show cLive m 6 (m 16 i) from lp ⟨by omega, by omega⟩) (show _ = m 2 (m 16 i) from rfl) dX3_shortestPicked_36 rfl ?_
          refine z_min 42 ⟨by omega, by omega⟩ ⟨by omega, by omega⟩ ml_X3_116 la_min1 la_math la_min2 (by decide) (by decide) (by decide) (by decide) dX3_shortestPicked_39 rfl ?_
          refine z_istore_n (lv' := [(1, _), (2, _), (0, _)]) 43 dX3_shortestPicked_42 rfl rfl rfl ?_
          refine z_iinc (lv' := [(2, _), (1, _), (0, _)]) 46 dX3_shortestPicked_43 rfl rfl rfl rfl ?_
          refine z_goto 6 dX3_shortestPicked_46 (by decide) ?_
          refine z_sub (lv' := [(2, _), (1, _), (0, _)]) ⟨rfl, rfl, rfl, trivial⟩ ?_
          exact ih6 (i + 1) _ hR (by omega) (by omega)
  refine z_sipush 3 dX3_shortestPicked_0 rfl ⟨by decide, by decide⟩ ?_
  refine z_istore_n (lv' := [(1, _), (0, _)]) 4 dX3_shortestPicked_3 rfl rfl rfl ?_
  refine z_iconst 5 dX3_shortestPicked_4 rfl ?_
  refine z_istore_n (lv' := [(2, _), (1, _), (0, _)]) 6 dX3_shortestPicked_5 rfl rfl rfl ?_
  refine z_sub (lv' := [(2, _), (1, _), (0, _)]) ⟨rfl, rfl, rfl, trivial⟩ ?_
  exact L6 10 0 _ hR (by omega) (by omega)
set_option maxRecDepth 20000 in
theorem c_canBeSpliced {m : Nat → Int → Int} {f : Nat → Int → UInt32} {a : Nat → Int → Nat} {t : zT} (hR : CA m f a t) {p : Int} (hW : WF m f) (hX : XI m f) (hp : 0 ≤ p ∧ p < m 0 0) : zM yX3_canBeSpliced cX3_canBeSpliced 1 (some .boolean) 0 0 0 [vR (rf a 6 p)] t (fun r t1 => ∃ z, r = some (vI z) ∧ 0 ≤ z ∧ z ≤ 1 ∧ (z = 1 ↔ thick m p) ∧ CA m f a t1) := by
  refine zM.of2 [(0, vR (rf a 6 p))] (by decide +kernel) rfl (Nat.le_of_ble_eq_true rfl) ?_
  have hn1 := hW.n.1
  have hn2 := hW.n.2
  have h60 := hX.1.1
  have h62 := hX.1.2.1
  have h64 := hX.1.2.2
  have hB := hW.b (p := p) (by omega) (by omega)
  refine z_aload_n 1 dX3_canBeSpliced_0 rfl rfl ?_
  refine c_getI 4 1 hR fl_X3_103 (by decide) (show cLive m 6 p from lp ⟨by omega, by omega⟩) (show _ = m 1 p from rfl) dX3_canBeSpliced_1 rfl ?_
  refine z_iconst 5 dX3_canBeSpliced_4 rfl ?_
  refine z_icmp_eq 24 8 dX3_canBeSpliced_5 (by decide) rfl ⟨by omega, by omega⟩ ⟨by omega, by omega⟩ (fun h5 => ?_) (fun h5 => ?_)
  · refine z_iconst 25 dX3_canBeSpliced_24 rfl ?_
    refine z_goto 29 dX3_canBeSpliced_25 (by decide) ?_
    refine z_zreturn rfl (by first | exact Or.inl rfl | exact Or.inr rfl | omega) dX3_canBeSpliced_29 (by decide) (by decide) ?_
    refine ⟨_, rfl, by omega, by omega, by unfold thick; omega, hR⟩
  · refine z_aload_n 9 dX3_canBeSpliced_8 rfl rfl ?_
    refine c_getI 12 1 hR fl_X3_103 (by decide) (show cLive m 6 p from lp ⟨by omega, by omega⟩) (show _ = m 1 p from rfl) dX3_canBeSpliced_9 rfl ?_
    refine z_iconst 13 dX3_canBeSpliced_12 rfl ?_
    refine z_icmp_eq 24 16 dX3_canBeSpliced_13 (by decide) rfl ⟨by omega, by omega⟩ ⟨by omega, by omega⟩ (fun h13 => ?_) (fun h13 => ?_)
    · refine z_iconst 25 dX3_canBeSpliced_24 rfl ?_
      refine z_goto 29 dX3_canBeSpliced_25 (by decide) ?_
      refine z_zreturn rfl (by first | exact Or.inl rfl | exact Or.inr rfl | omega) dX3_canBeSpliced_29 (by decide) (by decide) ?_
      refine ⟨_, rfl, by omega, by omega, by unfold thick; omega, hR⟩
    · refine z_aload_n 17 dX3_canBeSpliced_16 rfl rfl ?_
      refine c_getI 20 1 hR fl_X3_103 (by decide) (show cLive m 6 p from lp ⟨by omega, by omega⟩) (show _ = m 1 p from rfl) dX3_canBeSpliced_17 rfl ?_
      refine z_iconst 21 dX3_canBeSpliced_20 rfl ?_
      refine z_icmp_ne 28 24 dX3_canBeSpliced_21 (by decide) rfl ⟨by omega, by omega⟩ ⟨by omega, by omega⟩ (fun h21 => ?_) (fun h21 => ?_)
      · refine z_iconst 29 dX3_canBeSpliced_28 rfl ?_
        refine z_zreturn rfl (by first | exact Or.inl rfl | exact Or.inr rfl | omega) dX3_canBeSpliced_29 (by decide) (by decide) ?_
        refine ⟨_, rfl, by omega, by omega, by unfold thick; omega, hR⟩
      · refine z_iconst 25 dX3_canBeSpliced_24 rfl ?_
        refine z_goto 29 dX3_canBeSpliced_25 (by decide) ?_
        refine z_zreturn rfl (by first | exact Or.inl rfl | exact Or.inr rfl | omega) dX3_canBeSpliced_29 (by decide) (by decide) ?_
        refine ⟨_, rfl, by omega, by omega, by unfold thick; omega, hR⟩
set_option maxRecDepth 20000 in
theorem c_of {m : Nat → Int → Int} {f : Nat → Int → UInt32} {a : Nat → Int → Nat} {t : zT} (hR : CA m f a t) {p : Int} (hp : zi p) {w : Int} (hw : zi w) (hW : WF m f) (hX : XI m f) : zM yX3_of cX3_of 4 (some .int) 1 0 0 [vR (rf a 0 0), vI p, vI w] t (fun r t1 => r = some (vI (a_of m p w)) ∧ CP (a 0 0) (m, f) t1) := by
  refine zM.of2 [(0, vR (rf a 0 0)), (1, vI p), (2, vI w)] (by decide +kernel) rfl (Nat.le_of_ble_eq_true rfl) ?_
  obtain ⟨hp1, hp2⟩ := hp
  obtain ⟨hw1, hw2⟩ := hw
  have hn1 := hW.n.1
  have hn2 := hW.n.2
  have h60 := hX.1.1
  have h62 := hX.1.2.1
  have h64 := hX.1.2.2
  refine z_aload_n 1 dX3_of_0 rfl rfl ?_
  refine z_iload_n 2 dX3_of_1 rfl rfl ?_
  refine z_callV 5 [_] la_X3_pieceAt ml_X3_63 im_X3_pieceAt se_X3_pieceAt (hR.lv 0 0 (by decide) l0).1 (hR.lv 0 0 (by decide) l0).2.1 (by decide) rfl rfl (c_pieceAt hR ⟨by omega, by omega⟩ hW hX) rfl rfl (by decide) (Nat.le_of_ble_eq_true rfl) (by decide) (by decide) dX3_of_2 rfl (fun r t hq => ?_)
  obtain ⟨v, rfl, hv, hR⟩ := hq
  refine z_astore_n (lv' := [(3, _), (0, _), (1, _), (2, _)]) 6 dX3_of_5 rfl rfl rfl ?_
  refine z_aload_n 7 dX3_of_6 rfl rfl ?_
  refine c_ifnonnull 13 10 dX3_of_7 (by decide) rfl  (fun h7 => ?_) (fun h7 => ?_)
  · obtain rfl : p = v := by omega
    have hBp := hW.b (p := p) (by omega) (by omega)
    have hxp := hX.p (p := p) (by omega) (by omega)
    refine z_iload_n 14 dX3_of_13 rfl rfl ?_
    by_cases hs14 : w < 0 ∨ 7 < w
    · refine z_swOut 101 dX3_of_14 ⟨by omega, by omega⟩ hs14 (by decide) ?_
      refine z_bipush 103 dX3_of_101 rfl ⟨by decide, by decide⟩ ?_
      refine z_ireturn rfl dX3_of_103 (by decide) (by decide) ?_
      refine ⟨congrArg (fun z => some (vI z)) ?_, CP.rf hR hX⟩
      unfold a_of cif; rw [if_neg (by omega), if_neg (by omega), if_neg (by omega), if_neg (by omega), if_neg (by omega), if_neg (by omega), if_neg (by omega), if_neg (by omega), if_neg (by omega)]
    · obtain hs14 | hs14 | hs14 | hs14 | hs14 | hs14 | hs14 | hs14 : w = 0 ∨ w = 1 ∨ w = 2 ∨ w = 3 ∨ w = 4 ∨ w = 5 ∨ w = 6 ∨ w = 7 := by omega
      · refine z_swIn 60 dX3_of_14 ⟨by omega, by omega⟩ (by omega) (by omega) (by rw [hs14]; rfl) (by decide) ?_
        refine z_aload_n 61 dX3_of_60 rfl rfl ?_
        refine c_getI 64 1 hR fl_X3_103 (by decide) (show cLive m 6 p from lp ⟨by omega, by omega⟩) (show _ = m 1 p from rfl) dX3_of_61 rfl ?_
        refine z_ireturn rfl dX3_of_64 (by decide) (by decide) ?_
        refine ⟨congrArg (fun z => some (vI z)) ?_, CP.rf hR hX⟩
        unfold a_of cif; rw [if_neg (by omega), hs14]; first | done | rfl
      · refine z_swIn 65 dX3_of_14 ⟨by omega, by omega⟩ (by omega) (by omega) (by rw [hs14]; rfl) (by decide) ?_
        refine z_aload_n 66 dX3_of_65 rfl rfl ?_
        refine c_getI 69 2 hR fl_X3_113 (by decide) (show cLive m 6 p from lp ⟨by omega, by omega⟩) (show _ = m 2 p from rfl) dX3_of_66 rfl ?_
        refine z_ireturn rfl dX3_of_69 (by decide) (by decide) ?_
        refine ⟨congrArg (fun z => some (vI z)) ?_, CP.rf hR hX⟩
        unfold a_of cif; rw [if_neg (by omega), hs14]; first | done | rfl
      · refine z_swIn 70 dX3_of_14 ⟨by omega, by omega⟩ (by omega) (by omega) (by rw [hs14]; rfl) (by decide) ?_
        refine z_aload_n 71 dX3_of_70 rfl rfl ?_
        refine c_getI 74 3 hR fl_X3_106 (by decide) (show cLive m 6 p from lp ⟨by omega, by omega⟩) (show _ = m 3 p from rfl) dX3_of_71 rfl ?_
        refine z_ireturn rfl dX3_of_74 (by decide) (by decide) ?_
        refine ⟨congrArg (fun z => some (vI z)) ?_, CP.rf hR hX⟩
        unfold a_of cif; rw [if_neg (by omega), hs14]; first | done | rfl
      · refine z_swIn 75 dX3_of_14 ⟨by omega, by omega⟩ (by omega) (by omega) (by rw [hs14]; rfl) (by decide) ?_
        refine z_aload_n 76 dX3_of_75 rfl rfl ?_
        refine c_getI 79 4 hR fl_X3_67 (by decide) (show cLive m 6 p from lp ⟨by omega, by omega⟩) (show _ = m 4 p from rfl) dX3_of_76 rfl ?_
        refine z_ireturn rfl dX3_of_79 (by decide) (by decide) ?_
        refine ⟨congrArg (fun z => some (vI z)) ?_, CP.rf hR hX⟩
        unfold a_of cif; rw [if_neg (by omega), hs14]; first | done | rfl
      · refine z_swIn 80 dX3_of_14 ⟨by omega, by omega⟩ (by omega) (by omega) (by rw [hs14]; rfl) (by decide) ?_
        refine z_aload_n 81 dX3_of_80 rfl rfl ?_
        refine c_getL 84 7 hR fl_X3_125 (by decide) (show cLive m 6 p from lp ⟨by omega, by omega⟩) dX3_of_81 rfl ?_
        refine c_alen 85 hR (by decide) (show cLive m 7 p from lp ⟨by omega, by omega⟩) (show _ = m 6 p from Int.toNat_of_nonneg (by omega)) dX3_of_84 rfl ?_
        refine z_ireturn rfl dX3_of_85 (by decide) (by decide) ?_
        refine ⟨congrArg (fun z => some (vI z)) ?_, CP.rf hR hX⟩
        unfold a_of cif; rw [if_neg (by omega), hs14]; first | done | rfl
      · refine z_swIn 86 dX3_of_14 ⟨by omega, by omega⟩ (by omega) (by omega) (by rw [hs14]; rfl) (by decide) ?_
        refine z_aload_n 87 dX3_of_86 rfl rfl ?_
        refine c_getI 90 50 hR fl_X3_53 (by decide) (show cLive m 6 p from lp ⟨by omega, by omega⟩) (show _ = wt m p from hxp.2.1) dX3_of_87 rfl ?_
        refine z_ireturn rfl dX3_of_90 (by decide) (by decide) ?_
        refine ⟨congrArg (fun z => some (vI z)) ?_, CP.rf hR hX⟩
        unfold a_of cif; rw [if_neg (by omega), hs14]; first | done | rfl
      · refine z_swIn 91 dX3_of_14 ⟨by omega, by omega⟩ (by omega) (by omega) (by rw [hs14]; rfl) (by decide) ?_
        refine z_aload_n 92 dX3_of_91 rfl rfl ?_
        refine c_getI 95 8 hR fl_X3_128 (by decide) (show cLive m 6 p from lp ⟨by omega, by omega⟩) (show _ = m 8 p from rfl) dX3_of_92 rfl ?_
        refine z_ireturn rfl dX3_of_95 (by decide) (by decide) ?_
        refine ⟨congrArg (fun z => some (vI z)) ?_, CP.rf hR hX⟩
        unfold a_of cif; rw [if_neg (by omega), hs14]; first | done | rfl
      · refine z_swIn 96 dX3_of_14 ⟨by omega, by omega⟩ (by omega) (by omega) (by rw [hs14]; rfl) (by decide) ?_
        refine z_aload_n 97 dX3_of_96 rfl rfl ?_
        refine c_getI 100 10 hR fl_X3_137 (by decide) (show cLive m 6 p from lp ⟨by omega, by omega⟩) (show _ = m 10 p from rfl) dX3_of_97 rfl ?_
        refine z_ireturn rfl dX3_of_100 (by decide) (by decide) ?_
        refine ⟨congrArg (fun z => some (vI z)) ?_, CP.rf hR hX⟩
        unfold a_of cif; rw [if_neg (by omega), hs14]; first | done | rfl
  · refine z_bipush 12 dX3_of_10 rfl ⟨by decide, by decide⟩ ?_
    refine z_ireturn rfl dX3_of_12 (by decide) (by decide) ?_
    refine ⟨congrArg (fun z => some (vI z)) ?_, CP.rf hR hX⟩
    unfold a_of cif; rw [if_pos (by omega)]
set_option maxRecDepth 20000 in
theorem c_part {m : Nat → Int → Int} {f : Nat → Int → UInt32} {a : Nat → Int → Nat} {t : zT} (hR : CA m f a t) {p : Int} (hp : zi p) {k : Int} (hk : zi k) (hW : WF m f) (hX : XI m f) : zM yX3_part cX3_part 5 (some .int) 1 0 0 [vR (rf a 0 0), vI p, vI k] t (fun r t1 => r = some (vI (a_part m p k)) ∧ CP (a 0 0) (m, f) t1) := by
  refine zM.of2 [(0, vR (rf a 0 0)), (1, vI p), (2, vI k)] (by decide +kernel) rfl (Nat.le_of_ble_eq_true rfl) ?_
  obtain ⟨hp1, hp2⟩ := hp
  obtain ⟨hk1, hk2⟩ := hk
  have hn1 := hW.n.1
  have hn2 := hW.n.2
  have h60 := hX.1.1
  have h62 := hX.1.2.1
  have h64 := hX.1.2.2
  refine z_aload_n 1 dX3_part_0 rfl rfl ?_
  refine z_iload_n 2 dX3_part_1 rfl rfl ?_
  refine z_callV 5 [_] la_X3_pieceAt ml_X3_63 im_X3_pieceAt se_X3_pieceAt (hR.lv 0 0 (by decide) l0).1 (hR.lv 0 0 (by decide) l0).2.1 (by decide) rfl rfl (c_pieceAt hR ⟨by omega, by omega⟩ hW hX) rfl rfl (by decide) (Nat.le_of_ble_eq_true rfl) (by decide) (by decide) dX3_part_2 rfl (fun r t hq => ?_)
  obtain ⟨v, rfl, hv, hR⟩ := hq
  refine z_astore_n (lv' := [(3, _), (0, _), (1, _), (2, _)]) 6 dX3_part_5 rfl rfl rfl ?_
  refine z_aload_n 7 dX3_part_6 rfl rfl ?_
  refine c_ifnull 23 10 dX3_part_7 (by decide) rfl  (fun h7 => ?_) (fun h7 => ?_)
  · refine z_bipush 25 dX3_part_23 rfl ⟨by decide, by decide⟩ ?_
    refine z_ireturn rfl dX3_part_25 (by decide) (by decide) ?_
    refine ⟨congrArg (fun z => some (vI z)) ?_, CP.rf hR hX⟩
    simp only [a_part, cif]; (repeat' split) <;> first | rfl | omega
  · obtain rfl : p = v := by omega
    have hBp := hW.b (p := p) (by omega) (by omega)
    have hpt := (hW.parts p (by omega) (by omega)).1.2 k
    refine z_iload_n 11 dX3_part_10 rfl rfl ?_
    refine z_if_lt 23 14 dX3_part_11 (by decide) rfl ⟨by omega, by omega⟩ (fun h11 => ?_) (fun h11 => ?_)
    · refine z_bipush 25 dX3_part_23 rfl ⟨by decide, by decide⟩ ?_
      refine z_ireturn rfl dX3_part_25 (by decide) (by decide) ?_
      refine ⟨congrArg (fun z => some (vI z)) ?_, CP.rf hR hX⟩
      simp only [a_part, cif]; (repeat' split) <;> first | rfl | omega
    · refine z_iload_n 15 dX3_part_14 rfl rfl ?_
      refine z_aload_n 16 dX3_part_15 rfl rfl ?_
      refine c_getL 19 7 hR fl_X3_125 (by decide) (show cLive m 6 p from lp ⟨by omega, by omega⟩) dX3_part_16 rfl ?_
      refine c_alen 20 hR (by decide) (show cLive m 7 p from lp ⟨by omega, by omega⟩) (show _ = m 6 p from Int.toNat_of_nonneg (by omega)) dX3_part_19 rfl ?_
      refine z_icmp_lt 26 23 dX3_part_20 (by decide) rfl ⟨by omega, by omega⟩ ⟨by omega, by omega⟩ (fun h20 => ?_) (fun h20 => ?_)
      · refine z_aload_n 27 dX3_part_26 rfl rfl ?_
        refine c_getL 30 7 hR fl_X3_125 (by decide) (show cLive m 6 p from lp ⟨by omega, by omega⟩) dX3_part_27 rfl ?_
        refine z_iload_n 31 dX3_part_30 rfl rfl ?_
        refine c_aald 32 7 hR (c := 9) (m 6 p).toNat (by decide) (show _ = 9 * p + k from rfl) (show cLive m 7 p from lp ⟨by omega, by omega⟩) rfl (by omega) ⟨by omega, by omega⟩ (show _ = m 7 (9 * p + k) from rfl) dX3_part_31 rfl (fun hl31 => ?_)
        have hpk := hpt (by omega) (by omega)
        refine z_astore (lv' := [(4, _), (3, _), (0, _), (1, _), (2, _)]) 34 dX3_part_32 rfl rfl rfl ?_
        refine z_aload 36 dX3_part_34 rfl rfl ?_
        refine c_ifnonnull 44 39 dX3_part_36 (by decide) rfl  (fun h36 => ?_) (fun h36 => ?_)
        rotate_left
        · exfalso; omega
        refine z_aload 46 dX3_part_44 rfl rfl ?_
        refine c_getI 49 56 hR fl_X3_60 (by decide) (show cLive m 6 (m 7 (9 * p + k)) from lp ⟨by omega, by omega⟩) (show _ = m 7 (9 * p + k) from ((hX.p hpk.1 (by omega)).1)) dX3_part_46 rfl ?_
        refine z_ireturn rfl dX3_part_49 (by decide) (by decide) ?_
        refine ⟨congrArg (fun z => some (vI z)) ?_, CP.rf hR hX⟩
        simp only [a_part, cif]; (repeat' split) <;> first | rfl | omega
      · refine z_bipush 25 dX3_part_23 rfl ⟨by decide, by decide⟩ ?_
        refine z_ireturn rfl dX3_part_25 (by decide) (by decide) ?_
        refine ⟨congrArg (fun z => some (vI z)) ?_, CP.rf hR hX⟩
        simp only [a_part, cif]; (repeat' split) <;> first | rfl | omega
