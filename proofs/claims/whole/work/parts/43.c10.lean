theorem not64 {v : Int} (h0 : 0 ≤ v) (h1 : v < 64) : Int32.ofInt v ^^^ Int32.ofInt (-1) = Int32.ofInt (-1 - v) :=
  fin64 (P := fun v => Int32.ofInt v ^^^ Int32.ofInt (-1) = Int32.ofInt (-1 - v)) (by decide +kernel) h0 h1
theorem andn64 {s v : Int} (h0 : 0 ≤ s) (h1 : s < 64) (h2 : 0 ≤ v) (h3 : v < 64) : Int32.ofInt s &&& Int32.ofInt (-1 - v) = Int32.ofInt (s - land6 s v) :=
  fin64 (P := fun s => Int32.ofInt s &&& Int32.ofInt (-1 - v) = Int32.ofInt (s - land6 s v)) (fun s => fin64 (P := fun v => Int32.ofInt (s.val : Int) &&& Int32.ofInt (-1 - v) = Int32.ofInt ((s.val : Int) - land6 (s.val : Int) v)) (by unfold land6; revert s; decide +kernel) h2 h3) h0 h1
noncomputable def ubv (m : Nat → Int → Int) : Nat → Int
  | 0 => 0
  | k + 1 => ubv m k + cif (ubg m (k : Int)) (2 ^ k) 0
theorem ubv_b {m : Nat → Int → Int} {k : Nat} : 0 ≤ ubv m k ∧ ubv m k < 2 ^ k := by
  induction k with
  | zero => exact ⟨Int.le_refl 0, show (0 : Int) < 1 by decide⟩
  | succ k ih =>
    have h2 : (2 : Int) ^ (k + 1) = 2 ^ k * 2 := Int.pow_succ ..
    have h3 : (0 : Int) < 2 ^ k := Int.pow_pos (by decide)
    show 0 ≤ ubv m k + cif (ubg m (k : Int)) (2 ^ k) 0 ∧ ubv m k + cif (ubg m (k : Int)) (2 ^ k) 0 < 2 ^ (k + 1)
    rw [h2]
    simp only [cif]
    split <;> omega
theorem ubv_6 {m : Nat → Int → Int} {r : Int} (h0 : 0 ≤ r) (h6 : r < 6) : bit (ubv m 6) r ↔ ubg m r := by
  have e : ubv m 6 = 0 + cif (ubg m 0) 1 0 + cif (ubg m 1) 2 0 + cif (ubg m 2) 4 0 + cif (ubg m 3) 8 0 + cif (ubg m 4) 16 0 + cif (ubg m 5) 32 0 := rfl
  have c : ∀ (p : Prop) (z : Int), (p ∧ cif p z 0 = z) ∨ (¬ p ∧ cif p z 0 = 0) := fun p z => by
    by_cases h : p
    · exact Or.inl ⟨h, if_pos h⟩
    · exact Or.inr ⟨h, if_neg h⟩
  have c0 := c (ubg m 0) 1
  have c1 := c (ubg m 1) 2
  have c2 := c (ubg m 2) 4
  have c3 := c (ubg m 3) 8
  have c4 := c (ubg m 4) 16
  have c5 := c (ubg m 5) 32
  unfold bit
  rw [e]
  generalize cif (ubg m 0) (1 : Int) 0 = x0 at *
  generalize cif (ubg m 1) (2 : Int) 0 = x1 at *
  generalize cif (ubg m 2) (4 : Int) 0 = x2 at *
  generalize cif (ubg m 3) (8 : Int) 0 = x3 at *
  generalize cif (ubg m 4) (16 : Int) 0 = x4 at *
  generalize cif (ubg m 5) (32 : Int) 0 = x5 at *
  have tw : ∀ (p : Prop) (z x : Int), ((p ∧ x = z) ∨ (¬ p ∧ x = 0)) → x = 0 ∨ x = z := fun p z x h => h.elim (fun h => Or.inr h.2) (fun h => Or.inl h.2)
  have b0 := tw _ _ _ c0
  have b1 := tw _ _ _ c1
  have b2 := tw _ _ _ c2
  have b3 := tw _ _ _ c3
  have b4 := tw _ _ _ c4
  have b5 := tw _ _ _ c5
  have hr : r = 0 ∨ r = 1 ∨ r = 2 ∨ r = 3 ∨ r = 4 ∨ r = 5 := by omega
  have fin : ∀ (p : Prop) (z x : Int), ((p ∧ x = z) ∨ (¬ p ∧ x = 0)) → z ≠ 0 → (x = z ↔ p) := fun p z x h hz => by
    rcases h with ⟨h1, h2⟩ | ⟨h1, h2⟩
    · exact ⟨fun _ => h1, fun _ => h2⟩
    · exact ⟨fun q => absurd (q.symm.trans h2) hz, fun q => absurd q h1⟩
  rcases hr with rfl | rfl | rfl | rfl | rfl | rfl
  · rw [← fin _ _ _ c0 (by decide)]; show _ / (1 : Int) % 2 = 1 ↔ _; omega
  · rw [← fin _ _ _ c1 (by decide)]; show _ / (2 : Int) % 2 = 1 ↔ _; omega
  · rw [← fin _ _ _ c2 (by decide)]; show _ / (4 : Int) % 2 = 1 ↔ _; omega
  · rw [← fin _ _ _ c3 (by decide)]; show _ / (8 : Int) % 2 = 1 ↔ _; omega
  · rw [← fin _ _ _ c4 (by decide)]; show _ / (16 : Int) % 2 = 1 ↔ _; omega
  · rw [← fin _ _ _ c5 (by decide)]; show _ / (32 : Int) % 2 = 1 ↔ _; omega
/-- the trials as they stand behind k orders -/
def trl (m : Nat → Int → Int) (f : Nat → Int → UInt32) (m1 : Nat → Int → Int) (s : Int) (k : Nat) : Prop := ∃ c : (Int → Int) × (Int → Int), srv m f s (m 21) (m 22) k = some c ∧ (∀ o, 0 ≤ o → o < m 18 0 → m1 66 o = c.1 o ∧ (0 ≤ c.1 o → m1 67 o = c.2 o)) ∧ (∀ o, (k : Int) ≤ o → c.1 o = m 21 o) ∧ ∀ o, 0 ≤ o → o < m 18 0 → -1 ≤ c.1 o ∧ c.1 o ≤ 5 ∧ (0 ≤ c.1 o → 0 ≤ c.2 o ∧ c.2 o + m 19 o ≤ 2000)
theorem trl_0 {m m1 : Nat → Int → Int} {f : Nat → Int → UInt32} {s : Int} (hW : WF m f) (hX : XI m f) (ht : ∀ o, 0 ≤ o → o < m 18 0 → m1 66 o = m 21 o ∧ m1 67 o = m 48 o) : trl m f m1 s 0 :=
  ⟨(m 21, m 22), rfl, fun o o0 o1 => ⟨(ht o o0 o1).1, fun h => (ht o o0 o1).2.trans (hX.cut o0 o1 h)⟩, fun _ _ => rfl, fun o o0 o1 => by
    have h := hW.ord o0 o1
    exact ⟨h.2.2.1, h.2.2.2.1, fun q => (h.2.2.2.2 q).2⟩⟩
theorem trl_cut {m m1 : Nat → Int → Int} {f : Nat → Int → UInt32} {s : Int} {k : Nat} (h : trl m f m1 s k) : ∀ o, 0 ≤ o → o < m 18 0 → -1 ≤ m1 66 o ∧ m1 66 o ≤ 5 ∧ (0 ≤ m1 66 o → 0 ≤ m1 67 o ∧ m1 67 o + m 19 o ≤ 2000) := by
  obtain ⟨c, -, h2, -, h4⟩ := h
  intro o o0 o1
  obtain ⟨a1, a2⟩ := h2 o o0 o1
  obtain ⟨b1, b2, b3⟩ := h4 o o0 o1
  rw [a1]
  exact ⟨b1, b2, fun q => by rw [a2 q]; exact b3 q⟩
theorem trl_skip {m m1 : Nat → Int → Int} {f : Nat → Int → UInt32} {s : Int} {k : Nat} (h : trl m f m1 s k) (hk : 0 ≤ m 21 (k : Int)) : trl m f m1 s (k + 1) := by
  obtain ⟨c, h1, h2, h3, h4⟩ := h
  have e := h3 (k : Int) (Int.le_refl _)
  refine ⟨c, ?_, h2, fun o ho => h3 o (by omega), h4⟩
  rw [srv_s h1]
  exact if_pos (by rw [e]; exact hk)
theorem trl_no {m m1 : Nat → Int → Int} {f : Nat → Int → UInt32} {s : Int} {k : Nat} (h : trl m f m1 s k) (hk : m 21 (k : Int) < 0) (hf : ff m f (m1 66) (m1 67) (k : Int) s 6 < 0) : srv m f s (m 21) (m 22) (k + 1) = none := by
  obtain ⟨c, h1, h2, h3, h4⟩ := h
  have e := h3 (k : Int) (Int.le_refl _)
  rw [ff_cong2 (cr := c.1) (cp := c.2) (fun o a b => (h2 o a b).1) (fun o a b q => (h2 o a b).2 q) (Nat.le_refl 6)] at hf
  rw [srv_s h1]
  refine (if_neg (by rw [e]; omega)).trans ?_
  exact if_pos hf
theorem trl_yes {m m1 : Nat → Int → Int} {f : Nat → Int → UInt32} (hW : WF m f) {s : Int} {k : Nat} (hkn : (k : Int) < m 18 0) (hsb : ∀ r, 0 ≤ r → r < 6 → bit s r → 0 ≤ m 17 r) (h : trl m f m1 s k) (hk : m 21 (k : Int) < 0) (hf : ¬ ff m f (m1 66) (m1 67) (k : Int) s 6 < 0) : trl m f (up2 (up2 m1 66 (k : Int) (ff m f (m1 66) (m1 67) (k : Int) s 6 / 10000)) 67 (k : Int) (ff m f (m1 66) (m1 67) (k : Int) s 6 % 10000)) s (k + 1) := by
  obtain ⟨c, h1, h2, h3, h4⟩ := h
  have e := h3 (k : Int) (Int.le_refl _)
  rw [ff_cong2 (cr := c.1) (cp := c.2) (fun o a b => (h2 o a b).1) (fun o a b q => (h2 o a b).2 q) (Nat.le_refl 6)] at hf ⊢
  have ho := hW.ord (o := (k : Int)) (by omega) hkn
  obtain ⟨b1, b2, b3, b4, b5, b6⟩ := (ff_b hW (cr := c.1) (cp := c.2) (o := (k : Int)) (s := s) ho.1 hsb (Nat.le_refl 6)).resolve_left (by omega)
  refine ⟨(up0 c.1 (k : Int) (ff m f c.1 c.2 (k : Int) s 6 / 10000), up0 c.2 (k : Int) (ff m f c.1 c.2 (k : Int) s 6 % 10000)), ?_, fun o o0 o1 => ?_, fun o o0 => ?_, fun o o0 o1 => ?_⟩
  · rw [srv_s h1]
    refine (if_neg (by rw [e]; omega)).trans ?_
    exact if_neg hf
  · rw [up2_a _ _ _ _ (by decide), up_ite, up_ite, up2_a _ _ _ _ (by decide)]
    simp only [up0]
    by_cases q : o = (k : Int)
    · refine ⟨?_, fun _ => ?_⟩ <;> simp only [if_pos q]
    · simp only [if_neg q]; exact h2 o o0 o1
  · simp only [up0]
    rw [if_neg (by omega)]; exact h3 o (by omega)
  · unfold up0
    by_cases q : o = (k : Int)
    · have hfv := (fitv_b (m := m) (f := f) (cr := c.1) (cp := c.2) (o := (k : Int)) (r := ff m f c.1 c.2 (k : Int) s 6 / 10000)).2 (by omega)
      have hr := ((hW.rl b2 b3).2.2 (hsb _ b2 b3 b5)).2
      simp only [if_pos q]
      rw [q]
      exact ⟨by omega, by omega, fun _ => ⟨by omega, by omega⟩⟩
    · simp only [if_neg q]; exact h4 o o0 o1
theorem scr.t {m m1 m2 : Nat → Int → Int} {f f1 : Nat → Int → UInt32} (h : scr m m1 f f1) (hs : ∀ k, k ≠ 66 → k ≠ 67 → m2 k = m1 k) : scr m m2 f f1 := ⟨fun k hk => (hs k (by omega) (by omega)).trans (h.1 k hk), h.2⟩
theorem MS.t {m m1 m2 : Nat → Int → Int} {f f1 : Nat → Int → UInt32} {n : Int} (h : MS m f m1 f1 n) (hs : ∀ k, k ≠ 66 → k ≠ 67 → m2 k = m1 k) : MS m f m2 f1 n := fun r a b => (h r a b).cong (by rw [hs 68 (by decide) (by decide)]) (fun _ _ _ => by rw [hs 70 (by decide) (by decide)]) (fun _ _ _ => rfl)
theorem t67 {m1 : Nat → Int → Int} {o u v : Int} : ∀ k, k ≠ 66 → k ≠ 67 → up2 (up2 m1 66 o u) 67 o v k = m1 k := fun k a b => by funext j; rw [up2_a _ _ _ _ b, up2_a _ _ _ _ a]
set_option maxRecDepth 20000 in
theorem c_allFit {m m1 : Nat → Int → Int} {f f1 : Nat → Int → UInt32} {a : Nat → Int → Nat} {t : zT} (hR : CA m1 f1 a t) (hs : scr m m1 f f1) {s : Int} (hW : WF m f) (hX : XI m f) (hs64 : 0 ≤ s ∧ s < 64) (hsb : ∀ r, 0 ≤ r → r < 6 → bit s r → 0 ≤ m 17 r) (hMS : MS m f m1 f1 6) : zM yX3_allFit cX3_allFit 5 (some .boolean) 3 0 0 [vR (rf a 0 0), vI s] t (fun r t1 => ∃ z m2, r = some (vI z) ∧ 0 ≤ z ∧ z ≤ 1 ∧ (z = 1 ↔ srv m f s (m 21) (m 22) (m 18 0).toNat ≠ none) ∧ CA m2 f1 a t1 ∧ scr m m2 f f1 ∧ MS m f m2 f1 6) := by
  refine zM.of2 [(0, vR (rf a 0 0)), (1, vI s)] (by decide +kernel) rfl (Nat.le_of_ble_eq_true rfl) ?_
  have hn1 := hW.n.1
  have hn2 := hW.n.2
  have h60 := hX.1.1
  have h62 := hX.1.2.1
  have h64 := hX.1.2.2
  obtain ⟨ho1, ho2, ho3⟩ := hW.2.2.2.2.1
  have hs18 := hs.1 18 (by decide)
  have hs21 := hs.1 21 (by decide)
  have hs48 := hs.1 48 (by decide)
  have hor := fun (o : Int) (h0 : 0 ≤ o) (h1 : o < m 18 0) => hW.ord h0 h1
  have L6 : ∀ (fuel : Nat) (k : Nat) (m1 : Nat → Int → Int) (t : zT) (hR : CA m1 f1 a t) (hs : scr m m1 f f1) (hMS : MS m f m1 f1 6) (hk : (k : Int) ≤ m 18 0) (htr : trl m f m1 s k) (hf : m 18 0 - k < (fuel : Int)), zOK yX3_allFit cX3_allFit 5 (some .boolean) 3 0 0 (fun r t1 => ∃ z m2, r = some (vI z) ∧ 0 ≤ z ∧ z ≤ 1 ∧ (z = 1 ↔ srv m f s (m 21) (m 22) (m 18 0).toNat ≠ none) ∧ CA m2 f1 a t1 ∧ scr m m2 f f1 ∧ MS m f m2 f1 6) 0 0 6 [(2, vI (k : Int)), (0, vR (rf a 0 0)), (1, vI s)] [] t := by
    intro fuel
    induction fuel with
    | zero => intro k m1 t hR hs hMS hk htr hf; exfalso; omega
    | succ fuel ih6 =>
      intro k m1 t hR hs hMS hk htr hf
      have hork := fun (h : (k : Int) < m 18 0) => hor k (by omega) h
      have h62c := congrFun (hs.1 62 (by decide)) 0
      refine z_iload_n 7 dX3_allFit_6 rfl rfl ?_
      refine z_aload_n 8 dX3_allFit_7 rfl rfl ?_
      refine c_getI 11 18 hR fl_X3_143 (by decide) (cLive_c (fun K hK => congrFun (hs.1 K (by omega)) 0) (show cLive m 0 0 from l0)) (show _ = m 18 0 from congrFun (hs.1 18 (by decide)) _) dX3_allFit_8 rfl ?_
      refine z_icmp_ge 79 14 dX3_allFit_11 (by decide) rfl ⟨by omega, by omega⟩ ⟨by omega, by omega⟩ (fun h11 => ?_) (fun h11 => ?_)
      · refine z_iconst 80 dX3_allFit_79 rfl ?_
        refine z_zreturn rfl (by first | exact Or.inl rfl | exact Or.inr rfl | omega) dX3_allFit_80 (by decide) (by decide) ?_
        have hkk : (m 18 0).toNat = k := by omega
        refine ⟨1, m1, rfl, by decide, by decide, ⟨fun _ => ?_, fun _ => rfl⟩, hR, hs, hMS⟩
        obtain ⟨c, hc, -⟩ := htr
        rw [hkk, hc]; exact Option.some_ne_none _
      · refine z_iload_n 15 dX3_allFit_14 rfl rfl ?_
        refine z_bipush 17 dX3_allFit_15 rfl ⟨by decide, by decide⟩ ?_
        refine z_icmp_ge 79 20 dX3_allFit_17 (by decide) rfl ⟨by omega, by omega⟩ ⟨by omega, by omega⟩ (fun h17 => ?_) (fun h17 => ?_)
        · refine z_iconst 80 dX3_allFit_79 rfl ?_
          refine z_zreturn rfl (by first | exact Or.inl rfl | exact Or.inr rfl | omega) dX3_allFit_80 (by decide) (by decide) ?_
          have hkk : (m 18 0).toNat = k := by omega
          refine ⟨1, m1, rfl, by decide, by decide, ⟨fun _ => ?_, fun _ => rfl⟩, hR, hs, hMS⟩
          obtain ⟨c, hc, -⟩ := htr
          rw [hkk, hc]; exact Option.some_ne_none _
        · refine z_aload_n 21 dX3_allFit_20 rfl rfl ?_
          refine c_getL 24 4 hR fl_X3_26 (by decide) (cLive_c (fun K hK => congrFun (hs.1 K (by omega)) 0) (show cLive m 0 0 from l0)) dX3_allFit_21 rfl ?_
          refine z_iload_n 25 dX3_allFit_24 rfl rfl ?_
          refine c_aald 26 63 hR (c := 1) 6 (by decide) (show _ = (k : Int) from rfl) (cLive_c (fun K hK => congrFun (hs.1 K (by omega)) 0) (show cLive m 4 0 from l4)) rfl (by decide) ⟨by omega, by omega⟩ (show _ = ((k : Int)) from ((congrFun (hs.1 63 (by decide)) _).trans (hX.od (by omega) (by omega) (by omega)))) dX3_allFit_25 rfl (fun hl25 => ?_)
          refine z_astore_n (lv' := [(3, _), (2, _), (0, _), (1, _)]) 27 dX3_allFit_26 rfl rfl rfl ?_
          refine z_aload_n 28 dX3_allFit_27 rfl rfl ?_
          refine c_ifnull 73 31 dX3_allFit_28 (by decide) rfl  (fun h28 => ?_) (fun h28 => ?_)
          · exfalso; omega
          refine z_aload_n 32 dX3_allFit_31 rfl rfl ?_
          refine c_getI 35 21 hR fl_X3_292 (by decide) (cLive_c (fun K hK => congrFun (hs.1 K (by omega)) 0) (show cLive m 14 (((k : Int))) from lo ⟨by omega, by omega⟩)) (show _ = m 21 (((k : Int))) from congrFun (hs.1 21 (by decide)) _) dX3_allFit_32 rfl ?_
          refine z_if_ge 73 38 dX3_allFit_35 (by decide) rfl ⟨by omega, by omega⟩ (fun h35 => ?_) (fun h35 => ?_)
          · refine z_iinc (lv' := [(2, _), (3, _), (0, _), (1, _)]) 76 dX3_allFit_73 rfl rfl rfl rfl ?_
            refine z_goto 6 dX3_allFit_76 (by decide) ?_
            refine z_sub (lv' := [(2, _), (0, _), (1, _)]) ⟨rfl, rfl, rfl, trivial⟩ ?_
            exact ih6 (k + 1) _ _ hR (by first | exact hs | exact hs.t t67) (by first | exact hMS | exact hMS.t t67) (by omega) (by first | exact trl_skip htr (by omega) | exact trl_yes hW (by omega) hsb htr (by omega) (by omega)) (by omega)
          · refine z_aload_n 39 dX3_allFit_38 rfl rfl ?_
            refine z_aload_n 40 dX3_allFit_39 rfl rfl ?_
            refine z_iload_n 41 dX3_allFit_40 rfl rfl ?_
            refine z_callV 44 [_, _] la_X3_firstFit ml_X3_301 im_X3_firstFit se_X3_firstFit (hR.lv 0 0 (by decide) l0).1 (hR.lv 0 0 (by decide) l0).2.1 (by decide) rfl rfl (c_firstFit (s' := s) hR hs hW hX ⟨by omega, by omega⟩ hs64 (fun r a b => ⟨fun c => ⟨c, hsb r a b c⟩, fun c => c.1⟩) hMS (trl_cut htr)) rfl rfl (by decide) (Nat.le_of_ble_eq_true rfl) (by decide) (by decide) dX3_allFit_41 rfl (fun r t hq => ?_)
            obtain ⟨rfl, hR⟩ := hq
            have hb := ff_b hW (cr := m1 66) (cp := m1 67) (o := (k : Int)) (s := s) (by omega) hsb (Nat.le_refl 6)
            refine z_istore (lv' := [(4, _), (3, _), (2, _), (0, _), (1, _)]) 46 dX3_allFit_44 rfl rfl rfl ?_
            refine z_iload 48 dX3_allFit_46 rfl rfl ?_
            refine z_if_ge 53 51 dX3_allFit_48 (by decide) rfl ⟨by omega, by omega⟩ (fun h48 => ?_) (fun h48 => ?_)
            · refine z_aload_n 54 dX3_allFit_53 rfl rfl ?_
              refine z_iload 56 dX3_allFit_54 rfl rfl ?_
              refine z_sipush 59 dX3_allFit_56 rfl ⟨by decide, by decide⟩ ?_
              refine z_idiv 60 dX3_allFit_59 rfl ⟨by omega, by omega⟩ ⟨by omega, by omega⟩ (by omega) ?_
              refine z_top (w := vI (ff m f (m1 66) (m1 67) (k : Int) s 6 / 10000)) (congrArg vI (Int.tdiv_eq_ediv_of_nonneg (by omega))) ?_
              refine c_putI 63 66 hR fl_X3_320 (by decide) (cLive_c (fun K hK => congrFun (hs.1 K (by omega)) 0) (show cLive m 14 (((k : Int))) from lo ⟨by omega, by omega⟩)) dX3_allFit_60 rfl (fun t hR => ?_)
              refine z_aload_n 64 dX3_allFit_63 rfl rfl ?_
              refine z_iload 66 dX3_allFit_64 rfl rfl ?_
              refine z_sipush 69 dX3_allFit_66 rfl ⟨by decide, by decide⟩ ?_
              refine z_irem 70 dX3_allFit_69 rfl ⟨by omega, by omega⟩ ⟨by omega, by omega⟩ (by omega) ?_
              refine z_top (w := vI (ff m f (m1 66) (m1 67) (k : Int) s 6 % 10000)) (congrArg vI (Int.tmod_eq_emod_of_nonneg (by omega))) ?_
              refine c_putI 73 67 hR fl_X3_323 (by decide) (cLive_c (fun K hK => congrFun (hs.1 K (by omega)) 0) (show cLive m 14 (((k : Int))) from lo ⟨by omega, by omega⟩)) dX3_allFit_70 rfl (fun t hR => ?_)
              refine z_iinc (lv' := [(2, _), (4, _), (3, _), (0, _), (1, _)]) 76 dX3_allFit_73 rfl rfl rfl rfl ?_
              refine z_goto 6 dX3_allFit_76 (by decide) ?_
              refine z_sub (lv' := [(2, _), (0, _), (1, _)]) ⟨rfl, rfl, rfl, trivial⟩ ?_
              exact ih6 (k + 1) _ _ hR (by first | exact hs | exact hs.t t67) (by first | exact hMS | exact hMS.t t67) (by omega) (by first | exact trl_skip htr (by omega) | exact trl_yes hW (by omega) hsb htr (by omega) (by omega)) (by omega)
            · refine z_iconst 52 dX3_allFit_51 rfl ?_
              refine z_zreturn rfl (by first | exact Or.inl rfl | exact Or.inr rfl | omega) dX3_allFit_52 (by decide) (by decide) ?_
              refine ⟨0, m1, rfl, by decide, by decide, ⟨fun h => by omega, fun h => ?_⟩, hR, hs, hMS⟩
              exact absurd (srv_0 (trl_no htr (by omega) (by omega)) _ (by omega)) h
  refine z_aload_n 1 dX3_allFit_0 rfl rfl ?_
  refine z_callV 4 [] la_X3_startTrial ml_X3_298 im_X3_startTrial se_X3_startTrial (hR.lv 0 0 (by decide) l0).1 (hR.lv 0 0 (by decide) l0).2.1 (by decide) rfl rfl (c_startTrial hR (hs.W hW) (hs.X hX)) rfl rfl (by decide) (Nat.le_of_ble_eq_true rfl) (by decide) (by decide) dX3_allFit_1 rfl (fun r t hq => ?_)
  obtain ⟨rfl, m2, hR, hs2, ht⟩ := hq
  replace hMS := hMS.t hs2
  replace hs := hs.t hs2
  rw [hs18, hs21, hs48] at ht
  refine z_iconst 5 dX3_allFit_4 rfl ?_
  refine z_istore_n (lv' := [(2, _), (0, _), (1, _)]) 6 dX3_allFit_5 rfl rfl rfl ?_
  refine z_sub (lv' := [(2, _), (0, _), (1, _)]) ⟨rfl, rfl, rfl, trivial⟩ ?_
  exact L6 7 0 _ _ hR (hs) (hMS) (by omega) (trl_0 hW hX ht) (by omega)
theorem cp_cut {m m2 : Nat → Int → Int} {f f1 : Nat → Int → UInt32} {a : Nat → Int → Nat} {t : zT} {o v : Int} (hs : scr m m2 f f1) (hX : XI m f) (ho : 0 ≤ o ∧ o < m 18 0) (hv : 0 ≤ v) (hR : CA (up2 (up2 m2 21 o (v / 10000)) 48 o (v % 10000)) f1 a t) : CP (a 0 0) (cutup m o v, f) t := by
  have h2 := hR.up (k := 22) (by decide) o (v % 10000)
  have hX2 := hs.X hX
  have e18 : m2 18 0 = m 18 0 := by rw [hs.1 18 (by decide)]
  refine CP.of h2 ?_ (eqs_p (fun k hk j => ?_) (fun k hk j => by rw [hs.2 k (by omega)]))
  · obtain ⟨x1, x2, x3, x4, x5, x6, x7⟩ := hX2
    have hw : wt (up2 (up2 (up2 m2 21 o (v / 10000)) 48 o (v % 10000)) 22 o (v % 10000)) = wt m2 := wt_cong rfl rfl rfl rfl
    refine ⟨x1, x2, x3, x4, x5, by unfold XP; rw [hw]; exact x6, fun q q0 q1 q2 => ?_⟩
    have q3 : 0 ≤ up2 m2 21 o (v / 10000) 21 q := q2
    rw [up_ite] at q3
    show up2 m2 48 o (v % 10000) 48 q = up2 m2 22 o (v % 10000) 22 q
    rw [up_ite, up_ite]
    by_cases e : q = o
    · rw [if_pos e, if_pos e]
    · rw [if_neg e] at q3; rw [if_neg e, if_neg e]; exact x7 q q0 q1 q3
  · unfold cutup
    rw [if_neg (by omega)]
    show up2 (up2 (up2 m2 21 o (v / 10000)) 48 o (v % 10000)) 22 o (v % 10000) k j = up2 (up2 m 21 o (v / 10000)) 22 o (v % 10000) k j
    have e := congrFun (hs.1 k (by omega)) j
    by_cases h22 : k = 22
    · subst h22
      rw [up_ite, up_ite, up2_a _ _ _ _ (show (22 : Nat) ≠ 48 by decide), up2_a _ _ _ _ (show (22 : Nat) ≠ 21 by decide), up2_a _ _ _ _ (show (22 : Nat) ≠ 21 by decide), e]
    · rw [up2_a _ _ _ _ h22, up2_a _ _ _ _ h22, up2_a _ _ _ _ (show k ≠ 48 by omega)]
      by_cases h21 : k = 21
      · subst h21; rw [up_ite, up_ite, e]
      · rw [up2_a _ _ _ _ h21, up2_a _ _ _ _ h21, e]
set_option maxRecDepth 20000 in
theorem c_cut {m : Nat → Int → Int} {f : Nat → Int → UInt32} {a : Nat → Int → Nat} {t : zT} (hR : CA m f a t) {o : Int} (ho : zi o) (hW : WF m f) (hX : XI m f) : zM yX3_cut cX3_cut 4 (some .int) 31 0 0 [vR (rf a 0 0), vI o] t (fun r t1 => r = some (vI (a_cut m f o (hbv m 6))) ∧ CP (a 0 0) (s_cut m f o (hbv m 6), f) t1) := by
  refine zM.of2 [(0, vR (rf a 0 0)), (1, vI o)] (by decide +kernel) rfl (Nat.le_of_ble_eq_true rfl) ?_
  obtain ⟨ho1, ho2⟩ := ho
  have hn1 := hW.n.1
  have hn2 := hW.n.2
  have h60 := hX.1.1
  have h62 := hX.1.2.1
  have h64 := hX.1.2.2
  obtain ⟨ho1, ho2, ho3⟩ := hW.2.2.2.2.1
  refine z_aload_n 1 dX3_cut_0 rfl rfl ?_
  refine z_iload_n 2 dX3_cut_1 rfl rfl ?_
  refine z_callV 5 [_] la_X3_orderAt ml_X3_288 im_X3_orderAt se_X3_orderAt (hR.lv 0 0 (by decide) l0).1 (hR.lv 0 0 (by decide) l0).2.1 (by decide) rfl rfl (c_orderAt hR ⟨by omega, by omega⟩ hW hX) rfl rfl (by decide) (Nat.le_of_ble_eq_true rfl) (by decide) (by decide) dX3_cut_2 rfl (fun r t hq => ?_)
  obtain ⟨v, rfl, hv, hR⟩ := hq
  refine z_astore_n (lv' := [(2, _), (0, _), (1, _)]) 6 dX3_cut_5 rfl rfl rfl ?_
  refine z_aload_n 7 dX3_cut_6 rfl rfl ?_
  refine c_ifnull 17 10 dX3_cut_7 (by decide) rfl  (fun h7 => ?_) (fun h7 => ?_)
  · refine z_bipush 19 dX3_cut_17 rfl ⟨by decide, by decide⟩ ?_
    refine z_ireturn rfl dX3_cut_19 (by decide) (by decide) ?_
    refine ⟨congrArg (fun z => some (vI z)) ?_, ?_⟩
    · unfold a_cut cif; rw [if_pos (by omega)]
    · have e : s_cut m f o (hbv m 6) = m := if_pos (by omega)
      rw [e]; exact CP.rf hR hX
  · obtain rfl : o = v := by omega
    have hod := hW.ord (o := o) (by omega) (by omega)
    refine z_aload_n 11 dX3_cut_10 rfl rfl ?_
    refine c_getI 14 21 hR fl_X3_292 (by decide) (show cLive m 14 o from lo ⟨by omega, by omega⟩) (show _ = m 21 o from rfl) dX3_cut_11 rfl ?_
    refine z_if_lt 20 17 dX3_cut_14 (by decide) rfl ⟨by omega, by omega⟩ (fun h14 => ?_) (fun h14 => ?_)
    · refine z_aload_n 21 dX3_cut_20 rfl rfl ?_
      refine z_callV 24 [] la_X3_measureReels ml_X3_295 im_X3_measureReels se_X3_measureReels (hR.lv 0 0 (by decide) l0).1 (hR.lv 0 0 (by decide) l0).2.1 (by decide) rfl rfl (c_measureReels hR hW hX) rfl rfl (by decide) (Nat.le_of_ble_eq_true rfl) (by decide) (by decide) dX3_cut_21 rfl (fun r t hq => ?_)
      obtain ⟨rfl, m1, f1, hR, hs, hMS⟩ := hq
      have hs18 := hs.1 18 (by decide)
      have hs21 := hs.1 21 (by decide)
      have hs48 := hs.1 48 (by decide)
      refine z_aload_n 25 dX3_cut_24 rfl rfl ?_
      refine z_callV 28 [] la_X3_startTrial ml_X3_298 im_X3_startTrial se_X3_startTrial (hR.lv 0 0 (by decide) l0).1 (hR.lv 0 0 (by decide) l0).2.1 (by decide) rfl rfl (c_startTrial hR (hs.W hW) (hs.X hX)) rfl rfl (by decide) (Nat.le_of_ble_eq_true rfl) (by decide) (by decide) dX3_cut_25 rfl (fun r t hq => ?_)
      obtain ⟨rfl, m2, hR, hs2, ht⟩ := hq
      replace hMS := hMS.t hs2
      replace hs := hs.t hs2
      rw [hs18, hs21, hs48] at ht
      have htr := trl_0 (s := 63) hW hX ht
      clear hs18 hs21 hs48 hs2
      have hh6 := hbv_b (m := m) (k := 6)
      refine z_aload_n 29 dX3_cut_28 rfl rfl ?_
      refine z_aload_n 30 dX3_cut_29 rfl rfl ?_
      refine z_bipush 32 dX3_cut_30 rfl ⟨by decide, by decide⟩ ?_
      refine z_callV 35 [_, _] la_X3_firstFit ml_X3_301 im_X3_firstFit se_X3_firstFit (hR.lv 0 0 (by decide) l0).1 (hR.lv 0 0 (by decide) l0).2.1 (by decide) rfl rfl (c_firstFit (s' := hbv m 6) hR hs hW hX ⟨by omega, by omega⟩ ⟨by decide, by decide⟩ (fun r a b => ⟨fun c => ⟨by unfold bit; have hr6 : r = 0 ∨ r = 1 ∨ r = 2 ∨ r = 3 ∨ r = 4 ∨ r = 5 := (by omega); rcases hr6 with rfl | rfl | rfl | rfl | rfl | rfl <;> decide, (hbv_6 a b).mp c⟩, fun c => (hbv_6 a b).mpr c.2⟩) hMS (trl_cut htr)) rfl rfl (by decide) (Nat.le_of_ble_eq_true rfl) (by decide) (by decide) dX3_cut_32 rfl (fun r t hq => ?_)
      obtain ⟨rfl, hR⟩ := hq
      have hfe : ff m f (m2 66) (m2 67) o (hbv m 6) 6 = ff m f (m 21) (m 22) o (hbv m 6) 6 := ff_cong2 (fun u u0 u1 => (ht u u0 u1).1) (fun u u0 u1 u2 => (ht u u0 u1).2.trans (hX.cut u0 u1 u2)) (Nat.le_refl 6)
      rw [hfe]
      have hb := ff_b hW (cr := m 21) (cp := m 22) (o := o) (s := hbv m 6) (by omega) (fun r a b c => (hbv_6 a b).mp c) (Nat.le_refl 6)
      have h62e := congrFun (hs.1 62 (by decide)) 0
      refine z_istore_n (lv' := [(3, _), (2, _), (0, _), (1, _)]) 36 dX3_cut_35 rfl rfl rfl ?_
      refine z_iload_n 37 dX3_cut_36 rfl rfl ?_
      refine z_if_ge 42 40 dX3_cut_37 (by decide) rfl ⟨by omega, by omega⟩ (fun h37 => ?_) (fun h37 => ?_)
      · refine z_aload_n 43 dX3_cut_42 rfl rfl ?_
        refine z_iload_n 44 dX3_cut_43 rfl rfl ?_
        refine z_sipush 47 dX3_cut_44 rfl ⟨by decide, by decide⟩ ?_
        refine z_idiv 48 dX3_cut_47 rfl ⟨by omega, by omega⟩ ⟨by omega, by omega⟩ (by omega) ?_
        refine z_top (w := vI (ff m f (m 21) (m 22) o (hbv m 6) 6 / 10000)) (congrArg vI (Int.tdiv_eq_ediv_of_nonneg (by omega))) ?_
        refine c_putI 51 21 hR fl_X3_292 (by decide) (cLive_c (fun K hK => congrFun (hs.1 K (by omega)) 0) (show cLive m 14 o from lo ⟨by omega, by omega⟩)) dX3_cut_48 rfl (fun t hR => ?_)
        refine z_aload_n 52 dX3_cut_51 rfl rfl ?_
        refine z_iload_n 53 dX3_cut_52 rfl rfl ?_
        refine z_sipush 56 dX3_cut_53 rfl ⟨by decide, by decide⟩ ?_
        refine z_irem 57 dX3_cut_56 rfl ⟨by omega, by omega⟩ ⟨by omega, by omega⟩ (by omega) ?_
        refine z_top (w := vI (ff m f (m 21) (m 22) o (hbv m 6) 6 % 10000)) (congrArg vI (Int.tmod_eq_emod_of_nonneg (by omega))) ?_
        refine c_putI 60 48 hR fl_X3_305 (by decide) (cLive_c (fun K hK => congrFun (hs.1 K (by omega)) 0) (show cLive m 14 o from lo ⟨by omega, by omega⟩)) dX3_cut_57 rfl (fun t hR => ?_)
        refine z_iload_n 61 dX3_cut_60 rfl rfl ?_
        refine z_ireturn rfl dX3_cut_61 (by decide) (by decide) ?_
        refine ⟨congrArg (fun z => some (vI z)) ?_, ?_⟩
        · unfold a_cut cif; rw [if_neg (by omega)]
        · have e : s_cut m f o (hbv m 6) = cutup m o (ff m f (m 21) (m 22) o (hbv m 6) 6) := if_neg (by omega)
          rw [e]; exact cp_cut hs hX ⟨by omega, by omega⟩ (by omega) hR
      · refine z_iconst 41 dX3_cut_40 rfl ?_
        refine z_ireturn rfl dX3_cut_41 (by decide) (by decide) ?_
        refine ⟨congrArg (fun z => some (vI z)) ?_, ?_⟩
        · unfold a_cut cif; rw [if_neg (by omega)]; omega
        · have e : s_cut m f o (hbv m 6) = m := by
            refine (if_neg (by omega)).trans ?_
            unfold cutup; rw [if_pos (by omega)]
          rw [e]; exact CP.of hR (hs.X hX) hs.same.eqs
    · refine z_bipush 19 dX3_cut_17 rfl ⟨by decide, by decide⟩ ?_
      refine z_ireturn rfl dX3_cut_19 (by decide) (by decide) ?_
      refine ⟨congrArg (fun z => some (vI z)) ?_, ?_⟩
      · unfold a_cut cif; rw [if_pos (by omega)]
      · have e : s_cut m f o (hbv m 6) = m := if_pos (by omega)
        rw [e]; exact CP.rf hR hX
set_option maxRecDepth 20000 in
theorem c_unbegunReels {m : Nat → Int → Int} {f : Nat → Int → UInt32} {a : Nat → Int → Nat} {t : zT} (hR : CA m f a t) (hW : WF m f) (hX : XI m f) : zM yX3_unbegunReels cX3_unbegunReels 3 (some .int) 1 0 0 [vR (rf a 0 0)] t (fun r t1 => r = some (vI (ubv m 6)) ∧ CA m f a t1) := by
  refine zM.of2 [(0, vR (rf a 0 0))] (by decide +kernel) rfl (Nat.le_of_ble_eq_true rfl) ?_
  have hn1 := hW.n.1
  have hn2 := hW.n.2
  have h60 := hX.1.1
  have h62 := hX.1.2.1
  have h64 := hX.1.2.2
  have L4 : ∀ (fuel : Nat) (k : Nat) (t : zT) (hR : CA m f a t) (hk : (k : Int) ≤ 6) (hf : 6 - (k : Int) < (fuel : Int)), zOK yX3_unbegunReels cX3_unbegunReels 3 (some .int) 1 0 0 (fun r t1 => r = some (vI (ubv m 6)) ∧ CA m f a t1) 0 0 4 [(2, vI (k : Int)), (1, vI (ubv m k)), (0, vR (rf a 0 0))] [] t := by
    intro fuel
    induction fuel with
    | zero => intro k t hR hk hf; exfalso; omega
    | succ fuel ih4 =>
      intro k t hR hk hf
      have hub := ubv_b (m := m) (k := k)
      have hp6 := pow64 (k := k) (by omega)
      have hrl := fun (h : (k : Int) < 6) => hW.2.2.2.1 k (by omega) h
      refine z_iload_n 5 dX3_unbegunReels_4 rfl rfl ?_
      refine z_bipush 7 dX3_unbegunReels_5 rfl ⟨by decide, by decide⟩ ?_
      refine z_icmp_ge 42 10 dX3_unbegunReels_7 (by decide) rfl ⟨by omega, by omega⟩ ⟨by omega, by omega⟩ (fun h7 => ?_) (fun h7 => ?_)
      · refine z_iload_n 43 dX3_unbegunReels_42 rfl rfl ?_
        refine z_ireturn rfl dX3_unbegunReels_43 (by decide) (by decide) ?_
        have hkk : k = 6 := by omega
        subst hkk
        exact ⟨rfl, hR⟩
      · refine z_aload_n 11 dX3_unbegunReels_10 rfl rfl ?_
        refine c_getL 14 3 hR fl_X3_20 (by decide) (show cLive m 0 0 from l0) dX3_unbegunReels_11 rfl ?_
        refine z_iload_n 15 dX3_unbegunReels_14 rfl rfl ?_
        refine c_aald 16 65 hR (c := 1) 6 (by decide) (show _ = (k : Int) from rfl) (show cLive m 3 0 from l3) rfl (by decide) ⟨by omega, by omega⟩ (show _ = (k : Int) from (hX.rl (by omega) (by omega))) dX3_unbegunReels_15 rfl (fun hl15 => ?_)
        refine c_getP 19 17 hR fl_X3_270 (by decide) (show cLive m 11 ((k : Int)) from lr ⟨by omega, by omega⟩) (show _ = m 17 ((k : Int)) from rfl) dX3_unbegunReels_16 rfl (fun hl16 => ?_)
        refine c_ifnull 36 22 dX3_unbegunReels_19 (by decide) rfl  (fun h19 => ?_) (fun h19 => ?_)
        · refine z_sub (lv' := [(1, vI (ubv m (k + 1))), (2, _), (0, _)]) ⟨congrArg (fun z => some (vI z)) (?_ : _ = ubv m k + cif (ubg m (k : Int)) (2 ^ k) 0), rfl, rfl, trivial⟩ ?_
          · first
            | (have hu : ubg m (k : Int) := ⟨by omega, fun hc => by have := hy3.mpr hc; omega⟩
               rw [show cif (ubg m (k : Int)) ((2 : Int) ^ k) 0 = 2 ^ k from if_pos hu]; rfl)
            | (have hu : ¬ ubg m (k : Int) := fun hc => by obtain ⟨g1, g2⟩ := hc; first | omega | exact g2 (hy3.mp (by omega))
               rw [show cif (ubg m (k : Int)) ((2 : Int) ^ k) 0 = 0 from if_neg hu]; omega)
          refine z_iinc (lv' := [(2, _), (1, _), (0, _)]) 39 dX3_unbegunReels_36 rfl rfl rfl rfl ?_
          refine z_goto 4 dX3_unbegunReels_39 (by decide) ?_
          refine z_sub (lv' := [(2, _), (1, _), (0, _)]) ⟨rfl, rfl, rfl, trivial⟩ ?_
          exact ih4 (k + 1) _ hR (by omega) (by omega)
        · refine z_aload_n 23 dX3_unbegunReels_22 rfl rfl ?_
          refine z_iload_n 24 dX3_unbegunReels_23 rfl rfl ?_
          refine z_callV 27 [_] la_X3_isCutFrom ml_X3_274 im_X3_isCutFrom se_X3_isCutFrom (hR.lv 0 0 (by decide) l0).1 (hR.lv 0 0 (by decide) l0).2.1 (by decide) rfl rfl (c_isCutFrom hR ⟨by omega, by omega⟩ hW hX) rfl rfl (by decide) (Nat.le_of_ble_eq_true rfl) (by decide) (by decide) dX3_unbegunReels_24 rfl (fun r t hq => ?_)
          obtain ⟨z, rfl, hy1, hy2, hy3, hR⟩ := hq
          refine z_if_ne 36 30 dX3_unbegunReels_27 (by decide) rfl ⟨by omega, by omega⟩ (fun h27 => ?_) (fun h27 => ?_)
          · refine z_sub (lv' := [(1, vI (ubv m (k + 1))), (2, _), (0, _)]) ⟨congrArg (fun z => some (vI z)) (?_ : _ = ubv m k + cif (ubg m (k : Int)) (2 ^ k) 0), rfl, rfl, trivial⟩ ?_
            · first
              | (have hu : ubg m (k : Int) := ⟨by omega, fun hc => by have := hy3.mpr hc; omega⟩
                 rw [show cif (ubg m (k : Int)) ((2 : Int) ^ k) 0 = 2 ^ k from if_pos hu]; rfl)
              | (have hu : ¬ ubg m (k : Int) := fun hc => by obtain ⟨g1, g2⟩ := hc; first | omega | exact g2 (hy3.mp (by omega))
                 rw [show cif (ubg m (k : Int)) ((2 : Int) ^ k) 0 = 0 from if_neg hu]; omega)
            refine z_iinc (lv' := [(2, _), (1, _), (0, _)]) 39 dX3_unbegunReels_36 rfl rfl rfl rfl ?_
            refine z_goto 4 dX3_unbegunReels_39 (by decide) ?_
            refine z_sub (lv' := [(2, _), (1, _), (0, _)]) ⟨rfl, rfl, rfl, trivial⟩ ?_
            exact ih4 (k + 1) _ hR (by omega) (by omega)
          · refine z_iload_n 31 dX3_unbegunReels_30 rfl rfl ?_
            refine z_iconst 32 dX3_unbegunReels_31 rfl ?_
            refine z_iload_n 33 dX3_unbegunReels_32 rfl rfl ?_
            refine z_ishl 34 dX3_unbegunReels_33 rfl (shl_b (by omega) (by omega)) ?_
            refine z_ior 35 dX3_unbegunReels_34 rfl (or_b (r := (k : Int)) (by omega) (by omega) hub.1 hub.2) ?_
            refine z_istore_n (lv' := [(1, _), (2, _), (0, _)]) 36 dX3_unbegunReels_35 rfl rfl rfl ?_
            refine z_sub (lv' := [(1, vI (ubv m (k + 1))), (2, _), (0, _)]) ⟨congrArg (fun z => some (vI z)) (?_ : _ = ubv m k + cif (ubg m (k : Int)) (2 ^ k) 0), rfl, rfl, trivial⟩ ?_
            · first
              | (have hu : ubg m (k : Int) := ⟨by omega, fun hc => by have := hy3.mpr hc; omega⟩
                 rw [show cif (ubg m (k : Int)) ((2 : Int) ^ k) 0 = 2 ^ k from if_pos hu]; rfl)
              | (have hu : ¬ ubg m (k : Int) := fun hc => by obtain ⟨g1, g2⟩ := hc; first | omega | exact g2 (hy3.mp (by omega))
                 rw [show cif (ubg m (k : Int)) ((2 : Int) ^ k) 0 = 0 from if_neg hu]; omega)
            refine z_iinc (lv' := [(2, _), (1, _), (0, _)]) 39 dX3_unbegunReels_36 rfl rfl rfl rfl ?_
            refine z_goto 4 dX3_unbegunReels_39 (by decide) ?_
            refine z_sub (lv' := [(2, _), (1, _), (0, _)]) ⟨rfl, rfl, rfl, trivial⟩ ?_
            exact ih4 (k + 1) _ hR (by omega) (by omega)
  refine z_iconst 1 dX3_unbegunReels_0 rfl ?_
  refine z_istore_n (lv' := [(1, _), (0, _)]) 2 dX3_unbegunReels_1 rfl rfl rfl ?_
  refine z_iconst 3 dX3_unbegunReels_2 rfl ?_
  refine z_istore_n (lv' := [(2, _), (1, _), (0, _)]) 4 dX3_unbegunReels_3 rfl rfl rfl ?_
  refine z_sub (lv' := [(2, _), (1, _), (0, _)]) ⟨rfl, rfl, rfl, trivial⟩ ?_
  exact L4 7 0 _ hR (by omega) (by omega)
set_option maxRecDepth 20000 in
theorem c_lengthTogether {m : Nat → Int → Int} {f : Nat → Int → UInt32} {a : Nat → Int → Nat} {t : zT} (hR : CA m f a t) {s : Int} (hW : WF m f) (hX : XI m f) (hs64 : 0 ≤ s ∧ s < 64) (hsb : ∀ r, 0 ≤ r → r < 6 → bit s r → 0 ≤ m 17 r) : zM yX3_lengthTogether cX3_lengthTogether 4 (some .int) 2 0 0 [vR (rf a 0 0), vI s] t (fun r t1 => r = some (vI (lens m s 6)) ∧ CA m f a t1) := by
  refine zM.of2 [(0, vR (rf a 0 0)), (1, vI s)] (by decide +kernel) rfl (Nat.le_of_ble_eq_true rfl) ?_
  have hn1 := hW.n.1
  have hn2 := hW.n.2
  have h60 := hX.1.1
  have h62 := hX.1.2.1
  have h64 := hX.1.2.2
  have L4 : ∀ (fuel : Nat) (k : Nat) (t : zT) (hR : CA m f a t) (hk : (k : Int) ≤ 6) (hf : 6 - (k : Int) < (fuel : Int)), zOK yX3_lengthTogether cX3_lengthTogether 4 (some .int) 2 0 0 (fun r t1 => r = some (vI (lens m s 6)) ∧ CA m f a t1) 0 0 4 [(3, vI (k : Int)), (2, vI (lens m s k)), (0, vR (rf a 0 0)), (1, vI s)] [] t := by
    intro fuel
    induction fuel with
    | zero => intro k t hR hk hf; exfalso; omega
    | succ fuel ih4 =>
      intro k t hR hk hf
      refine z_iload_n 5 dX3_lengthTogether_4 rfl rfl ?_
      refine z_bipush 7 dX3_lengthTogether_5 rfl ⟨by decide, by decide⟩ ?_
      refine z_icmp_ge 33 10 dX3_lengthTogether_7 (by decide) rfl ⟨by omega, by omega⟩ ⟨by omega, by omega⟩ (fun h7 => ?_) (fun h7 => ?_)
      · refine z_iload_n 34 dX3_lengthTogether_33 rfl rfl ?_
        refine z_ireturn rfl dX3_lengthTogether_34 (by decide) (by decide) ?_
        have hkk : k = 6 := by omega
        subst hkk
        exact ⟨rfl, hR⟩
      · refine z_iload_n 11 dX3_lengthTogether_10 rfl rfl ?_
        refine z_iload_n 12 dX3_lengthTogether_11 rfl rfl ?_
        refine z_ishr 13 dX3_lengthTogether_12 rfl (shr_b (by omega) (by omega) (by omega) (by omega)) ?_
        refine z_iconst 14 dX3_lengthTogether_13 rfl ?_
        refine z_iand 15 dX3_lengthTogether_14 rfl (and1_b (by omega) (by omega) (by omega) (by omega)) ?_
        refine z_iconst 16 dX3_lengthTogether_15 rfl ?_
        refine z_icmp_ne 27 19 dX3_lengthTogether_16 (by decide) rfl ⟨by omega, by omega⟩ ⟨by omega, by omega⟩ (fun h16 => ?_) (fun h16 => ?_)
        · refine z_sub (lv' := [(2, vI (lens m s (k + 1))), (3, _), (0, _), (1, _)]) ⟨congrArg (fun z => some (vI z)) (?_ : _ = lens m s k + cif (bit s (k : Int)) (m 2 (m 17 (k : Int))) 0), rfl, rfl, rfl, trivial⟩ ?_
          · first
            | (rw [show cif (bit s (k : Int)) (m 2 (m 17 (k : Int))) 0 = m 2 (m 17 (k : Int)) from if_pos hbt])
            | (have hbt : ¬ bit s (k : Int) := by unfold bit; omega
               rw [show cif (bit s (k : Int)) (m 2 (m 17 (k : Int))) 0 = 0 from if_neg hbt]; omega)
          refine z_iinc (lv' := [(3, _), (2, _), (0, _), (1, _)]) 30 dX3_lengthTogether_27 rfl rfl rfl rfl ?_
          refine z_goto 4 dX3_lengthTogether_30 (by decide) ?_
          refine z_sub (lv' := [(3, _), (2, _), (0, _), (1, _)]) ⟨rfl, rfl, rfl, rfl, trivial⟩ ?_
          exact ih4 (k + 1) _ hR (by omega) (by omega)
        · refine z_iload_n 20 dX3_lengthTogether_19 rfl rfl ?_
          refine z_aload_n 21 dX3_lengthTogether_20 rfl rfl ?_
          refine z_iload_n 22 dX3_lengthTogether_21 rfl rfl ?_
          refine z_callV 25 [_] la_X3_lengthOn ml_X3_308 im_X3_lengthOn se_X3_lengthOn (hR.lv 0 0 (by decide) l0).1 (hR.lv 0 0 (by decide) l0).2.1 (by decide) rfl rfl (c_lengthOn hR ⟨by omega, by omega⟩ hW hX) rfl rfl (by decide) (Nat.le_of_ble_eq_true rfl) (by decide) (by decide) dX3_lengthTogether_22 rfl (fun r t hq => ?_)
          obtain ⟨rfl, hR⟩ := hq
          have hbt : bit s (k : Int) := by unfold bit; omega
          have h17 := hsb k (by omega) (by omega) hbt
          rw [if_pos (show 0 ≤ (k : Int) ∧ (k : Int) < 6 ∧ 0 ≤ m 17 k by omega)]
          refine z_iadd 26 dX3_lengthTogether_25 rfl ?_
          refine z_istore_n (lv' := [(2, _), (3, _), (0, _), (1, _)]) 27 dX3_lengthTogether_26 rfl rfl rfl ?_
          refine z_sub (lv' := [(2, vI (lens m s (k + 1))), (3, _), (0, _), (1, _)]) ⟨congrArg (fun z => some (vI z)) (?_ : _ = lens m s k + cif (bit s (k : Int)) (m 2 (m 17 (k : Int))) 0), rfl, rfl, rfl, trivial⟩ ?_
          · first
            | (rw [show cif (bit s (k : Int)) (m 2 (m 17 (k : Int))) 0 = m 2 (m 17 (k : Int)) from if_pos hbt])
            | (have hbt : ¬ bit s (k : Int) := by unfold bit; omega
               rw [show cif (bit s (k : Int)) (m 2 (m 17 (k : Int))) 0 = 0 from if_neg hbt]; omega)
          refine z_iinc (lv' := [(3, _), (2, _), (0, _), (1, _)]) 30 dX3_lengthTogether_27 rfl rfl rfl rfl ?_
          refine z_goto 4 dX3_lengthTogether_30 (by decide) ?_
          refine z_sub (lv' := [(3, _), (2, _), (0, _), (1, _)]) ⟨rfl, rfl, rfl, rfl, trivial⟩ ?_
          exact ih4 (k + 1) _ hR (by omega) (by omega)
  refine z_iconst 1 dX3_lengthTogether_0 rfl ?_
  refine z_istore_n (lv' := [(2, _), (0, _), (1, _)]) 2 dX3_lengthTogether_1 rfl rfl rfl ?_
  refine z_iconst 3 dX3_lengthTogether_2 rfl ?_
  refine z_istore_n (lv' := [(3, _), (2, _), (0, _), (1, _)]) 4 dX3_lengthTogether_3 rfl rfl rfl ?_
  refine z_sub (lv' := [(3, _), (2, _), (0, _), (1, _)]) ⟨rfl, rfl, rfl, rfl, trivial⟩ ?_
  exact L4 7 0 _ hR (by omega) (by omega)
set_option maxRecDepth 20000 in
theorem c_fewest {m : Nat → Int → Int} {f : Nat → Int → UInt32} {a : Nat → Int → Nat} {t : zT} (hR : CA m f a t) (hW : WF m f) (hX : XI m f) : zM yX3_fewest cX3_fewest 5 (some .int) 31 0 0 [vR (rf a 0 0)] t (fun r t1 => r = some (vI (a_few m f)) ∧ CP (a 0 0) (m, f) t1) := by
  refine zM.of2 [(0, vR (rf a 0 0))] (by decide +kernel) rfl (Nat.le_of_ble_eq_true rfl) ?_
  have hn1 := hW.n.1
  have hn2 := hW.n.2
  have h60 := hX.1.1
  have h62 := hX.1.2.1
  have h64 := hX.1.2.2
  obtain ⟨ho1, ho2, ho3⟩ := hW.2.2.2.2.1
  have hcn := cntc_b (m := m) (n := (m 18 0).toNat)
  have L26 : ∀ (fuel : Nat) (k : Nat) (m1 : Nat → Int → Int) (f1 : Nat → Int → UInt32) (t : zT) (hR : CA m1 f1 a t) (hs : scr m m1 f f1) (hMS : MS m f m1 f1 6) (hk : k ≤ 63) (hcn2 : ¬ cntc m (m 18 0).toNat = m 18 0) (hf : 64 - (k : Int) < (fuel : Int)), zOK yX3_fewest cX3_fewest 5 (some .int) 31 0 0 (fun r t1 => r = some (vI (a_few m f)) ∧ CP (a 0 0) (m, f) t1) 0 0 26 [(3, vI ((k : Int) + 1)), (2, vI (fw m f k)), (0, vR (rf a 0 0)), (1, vI (ubv m 6))] [] t := by
    intro fuel
    induction fuel with
    | zero => intro k m1 f1 t hR hs hMS hk hcn2 hf; exfalso; omega
    | succ fuel ih26 =>
      intro k m1 f1 t hR hs hMS hk hcn2 hf
      have hub := ubv_b (m := m) (k := 6)
      have hl6 := fun (h : k < 63) => land6_b (s := (k : Int) + 1) (v := ubv m 6) (by omega) (by omega) hub.1 hub.2
      have hls := fun (h : k < 63) => land6_s (m := m) (s := (k : Int) + 1) (v := ubv m 6) (by omega) (by omega) hub.1 hub.2 (fun r a b => ubv_6 a b)
      have hfwb := fw_b (f := f) hW (k := k)
      have hfs : fw m f (k + 1) = cif (subs m ((k : Int) + 1) ∧ (fw m f k < 0 ∨ lens m ((k : Int) + 1) 6 < fw m f k) ∧ srv m f ((k : Int) + 1) (m 21) (m 22) (m 18 0).toNat ≠ none) (lens m ((k : Int) + 1) 6) (fw m f k) := rfl
      simp only [cif] at hfs
      refine z_iload_n 27 dX3_fewest_26 rfl rfl ?_
      refine z_bipush 29 dX3_fewest_27 rfl ⟨by decide, by decide⟩ ?_
      refine z_icmp_ge 74 32 dX3_fewest_29 (by decide) rfl ⟨by omega, by omega⟩ ⟨by omega, by omega⟩ (fun h29 => ?_) (fun h29 => ?_)
      · refine z_iload_n 75 dX3_fewest_74 rfl rfl ?_
        refine z_ireturn rfl dX3_fewest_75 (by decide) (by decide) ?_
        have hkk : k = 63 := by omega
        subst hkk
        refine ⟨congrArg (fun z => some (vI z)) ?_, CP.of hR (hs.X hX) hs.same.eqs⟩
        unfold a_few; rw [if_neg hcn2]
      · have hl62 := hl6 (by omega)
        have hls2 := hls (by omega)
        refine z_iload_n 33 dX3_fewest_32 rfl rfl ?_
        refine z_iload_n 34 dX3_fewest_33 rfl rfl ?_
        refine z_iconst 35 dX3_fewest_34 rfl ?_
        refine z_ixor 36 dX3_fewest_35 rfl (not64 hub.1 hub.2) ?_
        refine z_iand 37 dX3_fewest_36 rfl (andn64 (by omega) (by omega) hub.1 hub.2) ?_
        refine z_if_ne 68 40 dX3_fewest_37 (by decide) rfl (by have := hl6 (by omega); exact ⟨by omega, by omega⟩) (fun h37 => ?_) (fun h37 => ?_)
        · have hno : ¬ (subs m ((k : Int) + 1) ∧ (fw m f k < 0 ∨ lens m ((k : Int) + 1) 6 < fw m f k) ∧ srv m f ((k : Int) + 1) (m 21) (m 22) (m 18 0).toNat ≠ none) := fun hh => by obtain ⟨g1, g2, g3⟩ := hh; have := hls2.mpr g1; omega
          refine z_sub (lv' := [(2, vI (fw m f (k + 1))), (3, _), (0, _), (1, _)]) ⟨congrArg (fun z => some (vI z)) ?_, rfl, rfl, rfl, trivial⟩ ?_
          · rw [hfs]; first | exact (if_neg hno).symm | exact (if_pos hyes).symm
          refine z_iinc (lv' := [(3, _), (2, _), (0, _), (1, _)]) 71 dX3_fewest_68 rfl rfl rfl rfl ?_
          refine z_goto 26 dX3_fewest_71 (by decide) ?_
          refine z_sub (lv' := [(3, _), (2, _), (0, _), (1, _)]) ⟨rfl, rfl, rfl, rfl, trivial⟩ ?_
          exact ih26 (k + 1) _ _ _ hR (hs) (hMS) (by omega) (hcn2) (by omega)
        · have hsu : subs m ((k : Int) + 1) := hls2.mp (by omega)
          refine z_aload_n 41 dX3_fewest_40 rfl rfl ?_
          refine z_iload_n 42 dX3_fewest_41 rfl rfl ?_
          refine z_callV 45 [_] la_X3_lengthTogether ml_X3_314 im_X3_lengthTogether se_X3_lengthTogether (hR.lv 0 0 (by decide) l0).1 (hR.lv 0 0 (by decide) l0).2.1 (by decide) rfl rfl (c_lengthTogether hR (hs.W hW) (hs.X hX) ⟨by omega, by omega⟩ (fun r a b c => by rw [hs.1 17 (by decide)]; exact (hsu r a b c).1)) rfl rfl (by decide) (Nat.le_of_ble_eq_true rfl) (by decide) (by decide) dX3_fewest_42 rfl (fun r t hq => ?_)
          obtain ⟨rfl, hR⟩ := hq
          have hle : ∀ n, lens m1 ((k : Int) + 1) n = lens m ((k : Int) + 1) n := fun n => by
            induction n with
            | zero => rfl
            | succ n ih => unfold lens; rw [ih, hs.1 2 (by decide), hs.1 17 (by decide)]
          rw [hle]
          have hlb := lens_b hW (s := (k : Int) + 1) (k := 6) (Nat.le_refl 6) (fun r a b c => (hsu r a b c).1)
          refine z_istore (lv' := [(4, _), (3, _), (2, _), (0, _), (1, _)]) 47 dX3_fewest_45 rfl rfl rfl ?_
          refine z_iload_n 48 dX3_fewest_47 rfl rfl ?_
          refine z_if_lt 57 51 dX3_fewest_48 (by decide) rfl ⟨by omega, by omega⟩ (fun h48 => ?_) (fun h48 => ?_)
          · refine z_aload_n 58 dX3_fewest_57 rfl rfl ?_
            refine z_iload_n 59 dX3_fewest_58 rfl rfl ?_
            refine z_callV 62 [_] la_X3_allFit ml_X3_317 im_X3_allFit se_X3_allFit (hR.lv 0 0 (by decide) l0).1 (hR.lv 0 0 (by decide) l0).2.1 (by decide) rfl rfl (c_allFit hR hs hW hX ⟨by omega, by omega⟩ (fun r a b c => (hsu r a b c).1) hMS) rfl rfl (by decide) (Nat.le_of_ble_eq_true rfl) (by decide) (by decide) dX3_fewest_59 rfl (fun r t hq => ?_)
            obtain ⟨zs, m1, rfl, hz1, hz2, hsv, hR, hs, hMS⟩ := hq
            refine z_if_eq 68 65 dX3_fewest_62 (by decide) rfl ⟨by omega, by omega⟩ (fun h62 => ?_) (fun h62 => ?_)
            · have hno : ¬ (subs m ((k : Int) + 1) ∧ (fw m f k < 0 ∨ lens m ((k : Int) + 1) 6 < fw m f k) ∧ srv m f ((k : Int) + 1) (m 21) (m 22) (m 18 0).toNat ≠ none) := fun hh => by obtain ⟨g1, g2, g3⟩ := hh; have := hsv.mpr g3; omega
              refine z_sub (lv' := [(2, vI (fw m f (k + 1))), (3, _), (0, _), (1, _)]) ⟨congrArg (fun z => some (vI z)) ?_, rfl, rfl, rfl, trivial⟩ ?_
              · rw [hfs]; first | exact (if_neg hno).symm | exact (if_pos hyes).symm
              refine z_iinc (lv' := [(3, _), (2, _), (0, _), (1, _)]) 71 dX3_fewest_68 rfl rfl rfl rfl ?_
              refine z_goto 26 dX3_fewest_71 (by decide) ?_
              refine z_sub (lv' := [(3, _), (2, _), (0, _), (1, _)]) ⟨rfl, rfl, rfl, rfl, trivial⟩ ?_
              exact ih26 (k + 1) _ _ _ hR (hs) (hMS) (by omega) (hcn2) (by omega)
            · have hyes : subs m ((k : Int) + 1) ∧ (fw m f k < 0 ∨ lens m ((k : Int) + 1) 6 < fw m f k) ∧ srv m f ((k : Int) + 1) (m 21) (m 22) (m 18 0).toNat ≠ none := ⟨hsu, by omega, hsv.mp (by omega)⟩
              refine z_iload 67 dX3_fewest_65 rfl rfl ?_
              refine z_istore_n (lv' := [(2, _), (4, _), (3, _), (0, _), (1, _)]) 68 dX3_fewest_67 rfl rfl rfl ?_
              refine z_sub (lv' := [(2, vI (fw m f (k + 1))), (3, _), (0, _), (1, _)]) ⟨congrArg (fun z => some (vI z)) ?_, rfl, rfl, rfl, trivial⟩ ?_
              · rw [hfs]; first | exact (if_neg hno).symm | exact (if_pos hyes).symm
              refine z_iinc (lv' := [(3, _), (2, _), (0, _), (1, _)]) 71 dX3_fewest_68 rfl rfl rfl rfl ?_
              refine z_goto 26 dX3_fewest_71 (by decide) ?_
              refine z_sub (lv' := [(3, _), (2, _), (0, _), (1, _)]) ⟨rfl, rfl, rfl, rfl, trivial⟩ ?_
              exact ih26 (k + 1) _ _ _ hR (hs) (hMS) (by omega) (hcn2) (by omega)
          · refine z_iload 53 dX3_fewest_51 rfl rfl ?_
            refine z_iload_n 54 dX3_fewest_53 rfl rfl ?_
            refine z_icmp_ge 68 57 dX3_fewest_54 (by decide) rfl ⟨by omega, by omega⟩ ⟨by omega, by omega⟩ (fun h54 => ?_) (fun h54 => ?_)
            · have hno : ¬ (subs m ((k : Int) + 1) ∧ (fw m f k < 0 ∨ lens m ((k : Int) + 1) 6 < fw m f k) ∧ srv m f ((k : Int) + 1) (m 21) (m 22) (m 18 0).toNat ≠ none) := fun hh => by obtain ⟨g1, g2, g3⟩ := hh; omega
              refine z_sub (lv' := [(2, vI (fw m f (k + 1))), (3, _), (0, _), (1, _)]) ⟨congrArg (fun z => some (vI z)) ?_, rfl, rfl, rfl, trivial⟩ ?_
              · rw [hfs]; first | exact (if_neg hno).symm | exact (if_pos hyes).symm
              refine z_iinc (lv' := [(3, _), (2, _), (0, _), (1, _)]) 71 dX3_fewest_68 rfl rfl rfl rfl ?_
              refine z_goto 26 dX3_fewest_71 (by decide) ?_
              refine z_sub (lv' := [(3, _), (2, _), (0, _), (1, _)]) ⟨rfl, rfl, rfl, rfl, trivial⟩ ?_
              exact ih26 (k + 1) _ _ _ hR (hs) (hMS) (by omega) (hcn2) (by omega)
            · refine z_aload_n 58 dX3_fewest_57 rfl rfl ?_
              refine z_iload_n 59 dX3_fewest_58 rfl rfl ?_
              refine z_callV 62 [_] la_X3_allFit ml_X3_317 im_X3_allFit se_X3_allFit (hR.lv 0 0 (by decide) l0).1 (hR.lv 0 0 (by decide) l0).2.1 (by decide) rfl rfl (c_allFit hR hs hW hX ⟨by omega, by omega⟩ (fun r a b c => (hsu r a b c).1) hMS) rfl rfl (by decide) (Nat.le_of_ble_eq_true rfl) (by decide) (by decide) dX3_fewest_59 rfl (fun r t hq => ?_)
              obtain ⟨zs, m1, rfl, hz1, hz2, hsv, hR, hs, hMS⟩ := hq
              refine z_if_eq 68 65 dX3_fewest_62 (by decide) rfl ⟨by omega, by omega⟩ (fun h62 => ?_) (fun h62 => ?_)
              · have hno : ¬ (subs m ((k : Int) + 1) ∧ (fw m f k < 0 ∨ lens m ((k : Int) + 1) 6 < fw m f k) ∧ srv m f ((k : Int) + 1) (m 21) (m 22) (m 18 0).toNat ≠ none) := fun hh => by obtain ⟨g1, g2, g3⟩ := hh; have := hsv.mpr g3; omega
                refine z_sub (lv' := [(2, vI (fw m f (k + 1))), (3, _), (0, _), (1, _)]) ⟨congrArg (fun z => some (vI z)) ?_, rfl, rfl, rfl, trivial⟩ ?_
                · rw [hfs]; first | exact (if_neg hno).symm | exact (if_pos hyes).symm
                refine z_iinc (lv' := [(3, _), (2, _), (0, _), (1, _)]) 71 dX3_fewest_68 rfl rfl rfl rfl ?_
                refine z_goto 26 dX3_fewest_71 (by decide) ?_
                refine z_sub (lv' := [(3, _), (2, _), (0, _), (1, _)]) ⟨rfl, rfl, rfl, rfl, trivial⟩ ?_
                exact ih26 (k + 1) _ _ _ hR (hs) (hMS) (by omega) (hcn2) (by omega)
              · have hyes : subs m ((k : Int) + 1) ∧ (fw m f k < 0 ∨ lens m ((k : Int) + 1) 6 < fw m f k) ∧ srv m f ((k : Int) + 1) (m 21) (m 22) (m 18 0).toNat ≠ none := ⟨hsu, by omega, hsv.mp (by omega)⟩
                refine z_iload 67 dX3_fewest_65 rfl rfl ?_
                refine z_istore_n (lv' := [(2, _), (4, _), (3, _), (0, _), (1, _)]) 68 dX3_fewest_67 rfl rfl rfl ?_
                refine z_sub (lv' := [(2, vI (fw m f (k + 1))), (3, _), (0, _), (1, _)]) ⟨congrArg (fun z => some (vI z)) ?_, rfl, rfl, rfl, trivial⟩ ?_
                · rw [hfs]; first | exact (if_neg hno).symm | exact (if_pos hyes).symm
                refine z_iinc (lv' := [(3, _), (2, _), (0, _), (1, _)]) 71 dX3_fewest_68 rfl rfl rfl rfl ?_
                refine z_goto 26 dX3_fewest_71 (by decide) ?_
                refine z_sub (lv' := [(3, _), (2, _), (0, _), (1, _)]) ⟨rfl, rfl, rfl, rfl, trivial⟩ ?_
                exact ih26 (k + 1) _ _ _ hR (hs) (hMS) (by omega) (hcn2) (by omega)
  refine z_aload_n 1 dX3_fewest_0 rfl rfl ?_
  refine z_callV 4 [] la_X3_cutOrders ml_X3_146 im_X3_cutOrders se_X3_cutOrders (hR.lv 0 0 (by decide) l0).1 (hR.lv 0 0 (by decide) l0).2.1 (by decide) rfl rfl (c_cutOrders hR hW hX) rfl rfl (by decide) (Nat.le_of_ble_eq_true rfl) (by decide) (by decide) dX3_fewest_1 rfl (fun r t hq => ?_)
  obtain ⟨rfl, hR⟩ := hq
  have hs := scr.rf (m := m) (f := f)
  refine z_aload_n 5 dX3_fewest_4 rfl rfl ?_
  refine c_getI 8 18 hR fl_X3_143 (by decide) (cLive_c (fun K hK => congrFun (hs.1 K (by omega)) 0) (show cLive m 0 0 from l0)) (show _ = m 18 0 from congrFun (hs.1 18 (by decide)) _) dX3_fewest_5 rfl ?_
  refine z_icmp_ne 13 11 dX3_fewest_8 (by decide) rfl ⟨by omega, by omega⟩ ⟨by omega, by omega⟩ (fun h8 => ?_) (fun h8 => ?_)
  · refine z_aload_n 14 dX3_fewest_13 rfl rfl ?_
    refine z_callV 17 [] la_X3_measureReels ml_X3_295 im_X3_measureReels se_X3_measureReels (hR.lv 0 0 (by decide) l0).1 (hR.lv 0 0 (by decide) l0).2.1 (by decide) rfl rfl (c_measureReels hR hW hX) rfl rfl (by decide) (Nat.le_of_ble_eq_true rfl) (by decide) (by decide) dX3_fewest_14 rfl (fun r t hq => ?_)
    obtain ⟨rfl, m1, f1, hR, hs, hMS⟩ := hq
    refine z_aload_n 18 dX3_fewest_17 rfl rfl ?_
    refine z_callV 21 [] la_X3_unbegunReels ml_X3_311 im_X3_unbegunReels se_X3_unbegunReels (hR.lv 0 0 (by decide) l0).1 (hR.lv 0 0 (by decide) l0).2.1 (by decide) rfl rfl (c_unbegunReels hR (hs.W hW) (hs.X hX)) rfl rfl (by decide) (Nat.le_of_ble_eq_true rfl) (by decide) (by decide) dX3_fewest_18 rfl (fun r t hq => ?_)
    obtain ⟨rfl, hR⟩ := hq
    have hube : ubv m1 6 = ubv m 6 := by
      have hc : ∀ n, ubv m1 n = ubv m n := fun n => by
        induction n with
        | zero => rfl
        | succ n ih => unfold ubv; rw [ih]; unfold ubg cutfr; rw [hs.1 17 (by decide), hs.1 18 (by decide), hs.1 21 (by decide)]
      exact hc 6
    rw [hube]
    have hub := ubv_b (m := m) (k := 6)
    refine z_istore_n (lv' := [(1, _), (0, _)]) 22 dX3_fewest_21 rfl rfl rfl ?_
    refine z_iconst 23 dX3_fewest_22 rfl ?_
    refine z_istore_n (lv' := [(2, _), (1, _), (0, _)]) 24 dX3_fewest_23 rfl rfl rfl ?_
    refine z_iconst 25 dX3_fewest_24 rfl ?_
    refine z_istore_n (lv' := [(3, _), (2, _), (1, _), (0, _)]) 26 dX3_fewest_25 rfl rfl rfl ?_
    refine z_sub (lv' := [(3, _), (2, _), (0, _), (1, _)]) ⟨rfl, rfl, rfl, rfl, trivial⟩ ?_
    exact L26 65 0 _ _ _ hR (hs) (hMS) (by decide) (by omega) (by omega)
  · refine z_iconst 12 dX3_fewest_11 rfl ?_
    refine z_ireturn rfl dX3_fewest_12 (by decide) (by decide) ?_
    refine ⟨congrArg (fun z => some (vI z)) ?_, CP.rf hR hX⟩
    unfold a_few; rw [if_pos (by omega)]
