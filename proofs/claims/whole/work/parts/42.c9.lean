/-! BESIDE TRIALS -/
def meets (m : Nat → Int → Int) (cr cp : Int → Int) (r s l o : Int) : Prop := cr o = r ∧ s < cp o + m 19 o ∧ cp o < s + l
def meet (m : Nat → Int → Int) (cr cp : Int → Int) (r s l : Int) : Prop := ∃ o, 0 ≤ o ∧ o < m 18 0 ∧ meets m cr cp r s l o
def pst (m : Nat → Int → Int) (cr cp : Int → Int) (r w : Int) : Nat → Int
  | 0 => 0
  | k + 1 => pst m cr cp r w k + (if cr (k : Int) = r ∧ w < cp (k : Int) + m 19 (k : Int) then 0 else 1)
theorem pst_b {m : Nat → Int → Int} {cr cp : Int → Int} {r w : Int} {n : Nat} : 0 ≤ pst m cr cp r w n ∧ pst m cr cp r w n ≤ n := by
  induction n with
  | zero => exact ⟨Int.le_refl 0, Int.le_refl 0⟩
  | succ n ih => show 0 ≤ pst m cr cp r w n + (if _ then (0 : Int) else 1) ∧ pst m cr cp r w n + (if _ then (0 : Int) else 1) ≤ ((n + 1 : Nat) : Int); split <;> omega
theorem pst_m {m : Nat → Int → Int} {cr cp : Int → Int} {r w w' : Int} (h : w ≤ w') {n : Nat} : pst m cr cp r w n ≤ pst m cr cp r w' n := by
  induction n with
  | zero => exact Int.le_refl 0
  | succ n ih =>
    show pst m cr cp r w n + (if _ then (0 : Int) else 1) ≤ pst m cr cp r w' n + (if _ then (0 : Int) else 1)
    split
    · split <;> omega
    · rw [if_neg (by omega)]; omega
theorem pst_l {m : Nat → Int → Int} {cr cp : Int → Int} {r w w' : Int} (h : w ≤ w') {n : Nat} {o : Nat} (ho : o < n) (h1 : cr (o : Int) = r) (h2 : w < cp (o : Int) + m 19 (o : Int)) (h3 : cp (o : Int) + m 19 (o : Int) ≤ w') : pst m cr cp r w n + 1 ≤ pst m cr cp r w' n := by
  induction n with
  | zero => omega
  | succ n ih =>
    show pst m cr cp r w n + (if _ then (0 : Int) else 1) + 1 ≤ pst m cr cp r w' n + (if _ then (0 : Int) else 1)
    by_cases e : o = n
    · subst e
      have hm := pst_m (m := m) (cr := cr) (cp := cp) (r := r) h (n := o)
      rw [if_pos ⟨h1, h2⟩, if_neg (by omega)]; omega
    · have h4 := ih (by omega)
      by_cases c : cr (n : Int) = r ∧ w < cp (n : Int) + m 19 (n : Int)
      · rw [if_pos c]; split <;> omega
      · rw [if_neg c, if_neg (by omega)]; omega
theorem pst_a {m : Nat → Int → Int} {cr cp : Int → Int} {r w : Int} {n : Nat} (h : (n : Int) ≤ pst m cr cp r w n) : ∀ o : Nat, o < n → ¬ (cr (o : Int) = r ∧ w < cp (o : Int) + m 19 (o : Int)) := by
  induction n with
  | zero => intro o ho; omega
  | succ n ih =>
    have h' : ((n + 1 : Nat) : Int) ≤ pst m cr cp r w n + (if cr (n : Int) = r ∧ w < cp (n : Int) + m 19 (n : Int) then 0 else 1) := h
    have hb := (pst_b (m := m) (cr := cr) (cp := cp) (r := r) (w := w) (n := n)).2
    intro o ho
    by_cases c : cr (n : Int) = r ∧ w < cp (n : Int) + m 19 (n : Int)
    · rw [if_pos c] at h'; omega
    · rw [if_neg c] at h'
      by_cases e : o = n
      · rw [e]; exact c
      · exact ih (by omega) o (by omega)
def weakp (m : Nat → Int → Int) (f : Nat → Int → UInt32) (o r y : Int) : Prop := zfc (FP.fcmp (B m f (m 17 r) y) (f 20 o)) CmpOp.g < 0
/-- how far the search for a fit is: nothing fits below b, places from b to w are strong enough -/
def fj (m : Nat → Int → Int) (f : Nat → Int → UInt32) (cr cp : Int → Int) (o r b w : Int) : Prop := 0 ≤ b ∧ (∀ s, s < b → ¬ fits m f cr cp o r s) ∧ (∀ y, b ≤ y → y < w → ¬ weakp m f o r y) ∧ w < b + m 19 o
theorem fj_weak {m : Nat → Int → Int} {f : Nat → Int → UInt32} {cr cp : Int → Int} {o r b w e : Int} (hl : 1 ≤ m 19 o) (h : fj m f cr cp o r b w) (he : w < e) (hw0 : 0 ≤ w) (hw : ∀ y, w ≤ y → y < e → weakp m f o r y) : fj m f cr cp o r (max b e) e := by
  obtain ⟨h1, h2, h3, h4⟩ := h
  refine ⟨by omega, fun s hs => ?_, fun y y0 y1 => by omega, by omega⟩
  by_cases hsb : s < b
  · exact h2 s hsb
  · intro hf
    by_cases hsw : s < w
    · exact hf.2.2 w (by omega) (by omega) (Or.inr (hw w (by omega) he))
    · exact hf.2.2 s (by omega) (by omega) (Or.inr (hw s (by omega) (by omega)))
theorem fj_strong {m : Nat → Int → Int} {f : Nat → Int → UInt32} {cr cp : Int → Int} {o r b w e v : Int} (hl : ∀ q, 0 ≤ q → q < m 18 0 → 1 ≤ m 19 q) (hlo : 1 ≤ m 19 o) (h : fj m f cr cp o r b w) (he : w < e) (hst : ∀ y, w ≤ y → y < e → ¬ weakp m f o r y) (hv : b ≤ v) (hnm : ¬ meet m cr cp r v (m 19 o)) (hm : ∀ s, b ≤ s → s < v → meet m cr cp r s (m 19 o)) :
    (e < v + m 19 o → fj m f cr cp o r v e) ∧ (v + m 19 o ≤ e → e ≤ m 2 (m 17 r) → FIT m f cr cp o r v) := by
  obtain ⟨h1, h2, h3, h4⟩ := h
  have j1 : ∀ s, s < v → ¬ fits m f cr cp o r s := fun s hs => by
    by_cases hsb : s < b
    · exact h2 s hsb
    · intro hf
      obtain ⟨q, q0, q1, q2, q3, q4⟩ := hm s (by omega) hs
      have hq := hl q q0 q1
      by_cases hc : s < cp q
      · exact hf.2.2 (cp q) (by omega) (by omega) (Or.inl ⟨q, q0, q1, q2, by omega, by omega⟩)
      · exact hf.2.2 s (by omega) (by omega) (Or.inl ⟨q, q0, q1, q2, by omega, by omega⟩)
  have j2 : ∀ y, v ≤ y → y < e → ¬ weakp m f o r y := fun y y0 y1 => by
    by_cases hy : y < w
    · exact h3 y (by omega) hy
    · exact hst y (by omega) y1
  refine ⟨fun hn => ⟨by omega, j1, j2, hn⟩, fun hy hL => Or.inr ⟨⟨by omega, by omega, fun y y0 y1 => ?_⟩, j1⟩⟩
  rintro (⟨q, q0, q1, q2, q3, q4⟩ | hwk)
  · exact hnm ⟨q, q0, q1, q2, by omega, by omega⟩
  · exact j2 y y0 (by omega) hwk
theorem fj_end {m : Nat → Int → Int} {f : Nat → Int → UInt32} {cr cp : Int → Int} {o r b : Int} (h : fj m f cr cp o r b (m 2 (m 17 r))) : FIT m f cr cp o r (-1) := Or.inl ⟨rfl, fun s hs => h.2.1 s (by have := hs.2.1; have := h.2.2.2; omega) hs⟩
theorem ff_cong2 {m : Nat → Int → Int} {f : Nat → Int → UInt32} {cr cr' cp cp' : Int → Int} (hr : ∀ o, 0 ≤ o → o < m 18 0 → cr' o = cr o) (h : ∀ o, 0 ≤ o → o < m 18 0 → 0 ≤ cr o → cp' o = cp o) {o s : Int} {n : Nat} (hn : n ≤ 6) : ff m f cr' cp' o s n = ff m f cr cp o s n := by
  have h1 : ∀ r, 0 ≤ r → ∀ w, tkn m cr' cp' r w ↔ tkn m cr cp r w := fun r h0 w => by
    unfold tkn
    constructor
    · rintro ⟨u, u0, u1, u2, u3⟩; rw [hr u u0 u1] at u2; rw [h u u0 u1 (by omega)] at u3; exact ⟨u, u0, u1, u2, u3⟩
    · rintro ⟨u, u0, u1, u2, u3⟩; rw [← h u u0 u1 (by omega)] at u3; rw [← hr u u0 u1] at u2; exact ⟨u, u0, u1, u2, u3⟩
  have h2 : ∀ r, 0 ≤ r → fitv m f cr' cp' o r = fitv m f cr cp o r := fun r h0 => by
    unfold fitv FIT fits bad
    simp only [h1 r h0]
  induction n with
  | zero => rfl
  | succ n ih => unfold ff; rw [h2 _ (by omega), ih (by omega)]
set_option maxRecDepth 20000 in
theorem c_besideTrials {m m1 : Nat → Int → Int} {f f1 : Nat → Int → UInt32} {a : Nat → Int → Nat} {t : zT} (hR : CA m1 f1 a t) (hs : scr m m1 f f1) {q b l : Int} (hW : WF m f) (hX : XI m f) (hq6 : 0 ≤ q ∧ q < 6) (hb0 : 0 ≤ b ∧ b ≤ 2000) (hl : 1 ≤ l ∧ l ≤ 2000) (hcut : ∀ o, 0 ≤ o → o < m 18 0 → -1 ≤ m1 66 o ∧ m1 66 o ≤ 5 ∧ (0 ≤ m1 66 o → 0 ≤ m1 67 o ∧ m1 67 o + m 19 o ≤ 2000)) : zM yX3_besideTrials cX3_besideTrials 8 (some .int) 0 0 0 [vR (rf a 0 0), vI q, vI b, vI l] t (fun r t1 => ∃ v, r = some (vI v) ∧ b ≤ v ∧ v ≤ 2000 ∧ ¬ meet m (m1 66) (m1 67) q v l ∧ (∀ s, b ≤ s → s < v → meet m (m1 66) (m1 67) q s l) ∧ CA m1 f1 a t1) := by
  refine zM.of2 [(0, vR (rf a 0 0)), (1, vI q), (2, vI b), (3, vI l)] (by decide +kernel) rfl (Nat.le_of_ble_eq_true rfl) ?_
  have hn1 := hW.n.1
  have hn2 := hW.n.2
  have h60 := hX.1.1
  have h62 := hX.1.2.1
  have h64 := hX.1.2.2
  obtain ⟨ho1, ho2, ho3⟩ := hW.2.2.2.2.1
  have h62b := congrFun (hs.1 62 (by decide)) 0
  have hor := fun (o : Int) (h0 : 0 ≤ o) (h1 : o < m 18 0) => hW.ord h0 h1
  have L6 : ∀ (N : Nat) (k : Nat) (w : Int) (t : zT) (hR : CA m1 f1 a t) (hk : k ≤ 6) (hw : b ≤ w ∧ w ≤ 2000) (hm : ∀ s, b ≤ s → s < w → meet m (m1 66) (m1 67) q s l) (hc : ¬ meet m (m1 66) (m1 67) q w l ∨ (k : Int) ≤ pst m (m1 66) (m1 67) q w (m 18 0).toNat) (hf : 6 - (k : Int) < (N : Int)), zOK yX3_besideTrials cX3_besideTrials 8 (some .int) 0 0 0 (fun r t1 => ∃ v, r = some (vI v) ∧ b ≤ v ∧ v ≤ 2000 ∧ ¬ meet m (m1 66) (m1 67) q v l ∧ (∀ s, b ≤ s → s < v → meet m (m1 66) (m1 67) q s l) ∧ CA m1 f1 a t1) 0 0 6 [(5, vI (k : Int)), (4, vI w), (0, vR (rf a 0 0)), (1, vI q), (2, vI b), (3, vI l)] [] t := by
    intro N
    induction N with
    | zero => intro k w t hR hk hw hm hc hf; exfalso; omega
    | succ N ihL6 =>
      intro k w t hR hk hw hm hc hf
      have L16 : ∀ (N : Nat) (o : Nat) (w1 : Int) (t : zT) (hR : CA m1 f1 a t) (ho : (o : Int) ≤ m 18 0) (hk6 : k < 6) (hw1 : w ≤ w1 ∧ w1 ≤ 2000) (hm1 : ∀ s, b ≤ s → s < w1 → meet m (m1 66) (m1 67) q s l) (hc1 : (w1 = w ∧ ∀ j : Int, 0 ≤ j → j < (o : Int) → ¬ meets m (m1 66) (m1 67) q w l j) ∨ (k : Int) + 1 ≤ pst m (m1 66) (m1 67) q w1 (m 18 0).toNat) (hf : m 18 0 - (o : Int) < (N : Int)), zOK yX3_besideTrials cX3_besideTrials 8 (some .int) 0 0 0 (fun r t1 => ∃ v, r = some (vI v) ∧ b ≤ v ∧ v ≤ 2000 ∧ ¬ meet m (m1 66) (m1 67) q v l ∧ (∀ s, b ≤ s → s < v → meet m (m1 66) (m1 67) q s l) ∧ CA m1 f1 a t1) 0 0 16 [(6, vI (o : Int)), (5, vI (k : Int)), (4, vI w1), (0, vR (rf a 0 0)), (1, vI q), (2, vI b), (3, vI l)] [] t := by
        intro N
        induction N with
        | zero => intro o w1 t hR ho hk6 hw1 hm1 hc1 hf; exfalso; omega
        | succ N ihL16 =>
          intro o w1 t hR ho hk6 hw1 hm1 hc1 hf
          have hoo := fun (h : (o : Int) < m 18 0) => hor o (by omega) h
          have hct := fun (h : (o : Int) < m 18 0) => hcut o (by omega) h
          refine z_iload 18 dX3_besideTrials_16 rfl rfl ?_
          refine z_aload_n 19 dX3_besideTrials_18 rfl rfl ?_
          refine c_getI 22 18 hR fl_X3_143 (by decide) (cLive_c (fun K hK => congrFun (hs.1 K (by omega)) 0) (show cLive m 0 0 from l0)) (show _ = m 18 0 from congrFun (hs.1 18 (by decide)) _) dX3_besideTrials_19 rfl ?_
          refine z_icmp_ge 102 25 dX3_besideTrials_22 (by decide) rfl ⟨by omega, by omega⟩ ⟨by omega, by omega⟩ (fun h22 => ?_) (fun h22 => ?_)
          · refine z_iinc (lv' := [(5, _), (6, _), (4, _), (0, _), (1, _), (2, _), (3, _)]) 105 dX3_besideTrials_102 rfl rfl rfl rfl ?_
            refine z_goto 6 dX3_besideTrials_105 (by decide) ?_
            refine z_sub (lv' := [(5, _), (4, _), (0, _), (1, _), (2, _), (3, _)]) ⟨rfl, rfl, rfl, rfl, rfl, rfl, trivial⟩ ?_
            refine ihL6 (k + 1) _ _ hR (by omega) (by omega) hm1 ?_ (by omega)
            rcases hc1 with ⟨e1, e2⟩ | e1
            · exact Or.inl (fun hh => by obtain ⟨j, j0, j1, j2⟩ := hh; rw [e1] at j2; exact e2 j j0 (by omega) j2)
            · exact Or.inr (by omega)
          · refine z_iload 27 dX3_besideTrials_25 rfl rfl ?_
            refine z_bipush 29 dX3_besideTrials_27 rfl ⟨by decide, by decide⟩ ?_
            refine z_icmp_ge 102 32 dX3_besideTrials_29 (by decide) rfl ⟨by omega, by omega⟩ ⟨by omega, by omega⟩ (fun h29 => ?_) (fun h29 => ?_)
            · refine z_iinc (lv' := [(5, _), (6, _), (4, _), (0, _), (1, _), (2, _), (3, _)]) 105 dX3_besideTrials_102 rfl rfl rfl rfl ?_
              refine z_goto 6 dX3_besideTrials_105 (by decide) ?_
              refine z_sub (lv' := [(5, _), (4, _), (0, _), (1, _), (2, _), (3, _)]) ⟨rfl, rfl, rfl, rfl, rfl, rfl, trivial⟩ ?_
              refine ihL6 (k + 1) _ _ hR (by omega) (by omega) hm1 ?_ (by omega)
              rcases hc1 with ⟨e1, e2⟩ | e1
              · exact Or.inl (fun hh => by obtain ⟨j, j0, j1, j2⟩ := hh; rw [e1] at j2; exact e2 j j0 (by omega) j2)
              · exact Or.inr (by omega)
            · refine z_aload_n 33 dX3_besideTrials_32 rfl rfl ?_
              refine c_getL 36 4 hR fl_X3_26 (by decide) (cLive_c (fun K hK => congrFun (hs.1 K (by omega)) 0) (show cLive m 0 0 from l0)) dX3_besideTrials_33 rfl ?_
              refine z_iload 38 dX3_besideTrials_36 rfl rfl ?_
              refine c_aald 39 63 hR (c := 1) 6 (by decide) (show _ = (o : Int) from rfl) (cLive_c (fun K hK => congrFun (hs.1 K (by omega)) 0) (show cLive m 4 0 from l4)) rfl (by decide) ⟨by omega, by omega⟩ (show _ = ((o : Int)) from ((congrFun (hs.1 63 (by decide)) _).trans (hX.od (by omega) (by omega) (by omega)))) dX3_besideTrials_38 rfl (fun hl38 => ?_)
              refine z_astore (lv' := [(7, _), (6, _), (5, _), (4, _), (0, _), (1, _), (2, _), (3, _)]) 41 dX3_besideTrials_39 rfl rfl rfl ?_
              refine z_aload 43 dX3_besideTrials_41 rfl rfl ?_
              refine c_ifnull 96 46 dX3_besideTrials_43 (by decide) rfl  (fun h43 => ?_) (fun h43 => ?_)
              · exfalso; omega
              refine z_aload 48 dX3_besideTrials_46 rfl rfl ?_
              refine c_getI 51 66 hR fl_X3_320 (by decide) (cLive_c (fun K hK => congrFun (hs.1 K (by omega)) 0) (show cLive m 14 (((o : Int))) from lo ⟨by omega, by omega⟩)) (show _ = m1 66 (((o : Int))) from rfl) dX3_besideTrials_48 rfl ?_
              refine z_iload_n 52 dX3_besideTrials_51 rfl rfl ?_
              refine z_icmp_ne 96 55 dX3_besideTrials_52 (by decide) rfl ⟨by omega, by omega⟩ ⟨by omega, by omega⟩ (fun h52 => ?_) (fun h52 => ?_)
              · have hnm : ¬ meets m (m1 66) (m1 67) q w1 l o := fun hh => by obtain ⟨g1, g2, g3⟩ := hh; omega
                refine z_iinc (lv' := [(6, _), (7, _), (5, _), (4, _), (0, _), (1, _), (2, _), (3, _)]) 99 dX3_besideTrials_96 rfl rfl rfl rfl ?_
                refine z_goto 16 dX3_besideTrials_99 (by decide) ?_
                refine z_sub (lv' := [(6, _), (5, _), (4, _), (0, _), (1, _), (2, _), (3, _)]) ⟨rfl, rfl, rfl, rfl, rfl, rfl, rfl, trivial⟩ ?_
                first
                | (exact ihL16 (o + 1) _ _ hR (by omega) hk6 hw2 hm2 hc2 (by omega))
                | (refine ihL16 (o + 1) _ _ hR (by omega) hk6 hw1 hm1 ?_ (by omega)
                   rcases hc1 with ⟨e1, e2⟩ | e1
                   · refine Or.inl ⟨e1, fun j j0 j1 => ?_⟩
                     by_cases e : j = (o : Int)
                     · rw [e, ← e1]; exact hnm
                     · exact e2 j j0 (by omega)
                   · exact Or.inr e1)
              · refine z_iload 57 dX3_besideTrials_55 rfl rfl ?_
                refine z_aload 59 dX3_besideTrials_57 rfl rfl ?_
                refine c_getI 62 67 hR fl_X3_323 (by decide) (cLive_c (fun K hK => congrFun (hs.1 K (by omega)) 0) (show cLive m 14 (((o : Int))) from lo ⟨by omega, by omega⟩)) (show _ = m1 67 (((o : Int))) from rfl) dX3_besideTrials_59 rfl ?_
                refine z_aload 64 dX3_besideTrials_62 rfl rfl ?_
                refine c_getI 67 19 hR fl_X3_343 (by decide) (cLive_c (fun K hK => congrFun (hs.1 K (by omega)) 0) (show cLive m 14 (((o : Int))) from lo ⟨by omega, by omega⟩)) (show _ = m 19 (((o : Int))) from congrFun (hs.1 19 (by decide)) _) dX3_besideTrials_64 rfl ?_
                refine z_iadd 68 dX3_besideTrials_67 rfl ?_
                refine z_icmp_ge 96 71 dX3_besideTrials_68 (by decide) rfl ⟨by omega, by omega⟩ ⟨by omega, by omega⟩ (fun h68 => ?_) (fun h68 => ?_)
                · have hnm : ¬ meets m (m1 66) (m1 67) q w1 l o := fun hh => by obtain ⟨g1, g2, g3⟩ := hh; omega
                  refine z_iinc (lv' := [(6, _), (7, _), (5, _), (4, _), (0, _), (1, _), (2, _), (3, _)]) 99 dX3_besideTrials_96 rfl rfl rfl rfl ?_
                  refine z_goto 16 dX3_besideTrials_99 (by decide) ?_
                  refine z_sub (lv' := [(6, _), (5, _), (4, _), (0, _), (1, _), (2, _), (3, _)]) ⟨rfl, rfl, rfl, rfl, rfl, rfl, rfl, trivial⟩ ?_
                  first
                  | (exact ihL16 (o + 1) _ _ hR (by omega) hk6 hw2 hm2 hc2 (by omega))
                  | (refine ihL16 (o + 1) _ _ hR (by omega) hk6 hw1 hm1 ?_ (by omega)
                     rcases hc1 with ⟨e1, e2⟩ | e1
                     · refine Or.inl ⟨e1, fun j j0 j1 => ?_⟩
                       by_cases e : j = (o : Int)
                       · rw [e, ← e1]; exact hnm
                       · exact e2 j j0 (by omega)
                     · exact Or.inr e1)
                · refine z_aload 73 dX3_besideTrials_71 rfl rfl ?_
                  refine c_getI 76 67 hR fl_X3_323 (by decide) (cLive_c (fun K hK => congrFun (hs.1 K (by omega)) 0) (show cLive m 14 (((o : Int))) from lo ⟨by omega, by omega⟩)) (show _ = m1 67 (((o : Int))) from rfl) dX3_besideTrials_73 rfl ?_
                  refine z_iload 78 dX3_besideTrials_76 rfl rfl ?_
                  refine z_iload_n 79 dX3_besideTrials_78 rfl rfl ?_
                  refine z_iadd 80 dX3_besideTrials_79 rfl ?_
                  refine z_icmp_ge 96 83 dX3_besideTrials_80 (by decide) rfl ⟨by omega, by omega⟩ ⟨by omega, by omega⟩ (fun h80 => ?_) (fun h80 => ?_)
                  · have hnm : ¬ meets m (m1 66) (m1 67) q w1 l o := fun hh => by obtain ⟨g1, g2, g3⟩ := hh; omega
                    refine z_iinc (lv' := [(6, _), (7, _), (5, _), (4, _), (0, _), (1, _), (2, _), (3, _)]) 99 dX3_besideTrials_96 rfl rfl rfl rfl ?_
                    refine z_goto 16 dX3_besideTrials_99 (by decide) ?_
                    refine z_sub (lv' := [(6, _), (5, _), (4, _), (0, _), (1, _), (2, _), (3, _)]) ⟨rfl, rfl, rfl, rfl, rfl, rfl, rfl, trivial⟩ ?_
                    first
                    | (exact ihL16 (o + 1) _ _ hR (by omega) hk6 hw2 hm2 hc2 (by omega))
                    | (refine ihL16 (o + 1) _ _ hR (by omega) hk6 hw1 hm1 ?_ (by omega)
                       rcases hc1 with ⟨e1, e2⟩ | e1
                       · refine Or.inl ⟨e1, fun j j0 j1 => ?_⟩
                         by_cases e : j = (o : Int)
                         · rw [e, ← e1]; exact hnm
                         · exact e2 j j0 (by omega)
                       · exact Or.inr e1)
                  · have hE : m1 67 (o : Int) + m 19 (o : Int) ≤ 2000 := ((hcut o (by omega) (by omega)).2.2 (by omega)).2
                    have hme : meets m (m1 66) (m1 67) q w1 l o := ⟨by omega, by omega, by omega⟩
                    have hw2 : w ≤ m1 67 (o : Int) + m 19 (o : Int) ∧ m1 67 (o : Int) + m 19 (o : Int) ≤ 2000 := by omega
                    have hm2 : ∀ s, b ≤ s → s < m1 67 (o : Int) + m 19 (o : Int) → meet m (m1 66) (m1 67) q s l := fun s s0 s1 => by
                      by_cases hsw : s < w1
                      · exact hm1 s s0 hsw
                      · exact ⟨o, by omega, by omega, by omega, s1, by omega⟩
                    have hc2 : (m1 67 (o : Int) + m 19 (o : Int) = w ∧ ∀ j : Int, 0 ≤ j → j < ((o + 1 : Nat) : Int) → ¬ meets m (m1 66) (m1 67) q w l j) ∨ (k : Int) + 1 ≤ pst m (m1 66) (m1 67) q (m1 67 (o : Int) + m 19 (o : Int)) (m 18 0).toNat := by
                      right
                      rcases hc1 with ⟨e1, e2⟩ | e1
                      · have hp := pst_l (m := m) (cr := m1 66) (cp := m1 67) (r := q) (w := w1) (w' := m1 67 (o : Int) + m 19 (o : Int)) (by omega) (n := (m 18 0).toNat) (o := o) (by omega) (by omega) (by omega) (Int.le_refl _)
                        rw [e1] at hp hme
                        rcases hc with hc | hc
                        · exact absurd ⟨(o : Int), by omega, by omega, hme⟩ hc
                        · omega
                      · have hp := pst_m (m := m) (cr := m1 66) (cp := m1 67) (r := q) (w := w1) (w' := m1 67 (o : Int) + m 19 (o : Int)) (by omega) (n := (m 18 0).toNat)
                        omega
                    refine z_aload 85 dX3_besideTrials_83 rfl rfl ?_
                    refine c_getI 88 67 hR fl_X3_323 (by decide) (cLive_c (fun K hK => congrFun (hs.1 K (by omega)) 0) (show cLive m 14 (((o : Int))) from lo ⟨by omega, by omega⟩)) (show _ = m1 67 (((o : Int))) from rfl) dX3_besideTrials_85 rfl ?_
                    refine z_aload 90 dX3_besideTrials_88 rfl rfl ?_
                    refine c_getI 93 19 hR fl_X3_343 (by decide) (cLive_c (fun K hK => congrFun (hs.1 K (by omega)) 0) (show cLive m 14 (((o : Int))) from lo ⟨by omega, by omega⟩)) (show _ = m 19 (((o : Int))) from congrFun (hs.1 19 (by decide)) _) dX3_besideTrials_90 rfl ?_
                    refine z_iadd 94 dX3_besideTrials_93 rfl ?_
                    refine z_istore (lv' := [(4, _), (7, _), (6, _), (5, _), (0, _), (1, _), (2, _), (3, _)]) 96 dX3_besideTrials_94 rfl rfl rfl ?_
                    refine z_iinc (lv' := [(6, _), (4, _), (7, _), (5, _), (0, _), (1, _), (2, _), (3, _)]) 99 dX3_besideTrials_96 rfl rfl rfl rfl ?_
                    refine z_goto 16 dX3_besideTrials_99 (by decide) ?_
                    refine z_sub (lv' := [(6, _), (5, _), (4, _), (0, _), (1, _), (2, _), (3, _)]) ⟨rfl, rfl, rfl, rfl, rfl, rfl, rfl, trivial⟩ ?_
                    first
                    | (exact ihL16 (o + 1) _ _ hR (by omega) hk6 hw2 hm2 hc2 (by omega))
                    | (refine ihL16 (o + 1) _ _ hR (by omega) hk6 hw1 hm1 ?_ (by omega)
                       rcases hc1 with ⟨e1, e2⟩ | e1
                       · refine Or.inl ⟨e1, fun j j0 j1 => ?_⟩
                         by_cases e : j = (o : Int)
                         · rw [e, ← e1]; exact hnm
                         · exact e2 j j0 (by omega)
                       · exact Or.inr e1)
      refine z_iload 8 dX3_besideTrials_6 rfl rfl ?_
      refine z_bipush 10 dX3_besideTrials_8 rfl ⟨by decide, by decide⟩ ?_
      refine z_icmp_ge 108 13 dX3_besideTrials_10 (by decide) rfl ⟨by omega, by omega⟩ ⟨by omega, by omega⟩ (fun h10 => ?_) (fun h10 => ?_)
      · refine z_iload 110 dX3_besideTrials_108 rfl rfl ?_
        refine z_ireturn rfl dX3_besideTrials_110 (by decide) (by decide) ?_
        refine ⟨w, rfl, hw.1, hw.2, ?_, hm, hR⟩
        rcases hc with hc | hc
        · exact hc
        · intro hh
          obtain ⟨j, j0, j1, j2, j3, j4⟩ := hh
          have hpa := pst_a (m := m) (cr := m1 66) (cp := m1 67) (r := q) (w := w) (n := (m 18 0).toNat) (by omega) j.toNat (by omega)
          rw [show ((j.toNat : Nat) : Int) = j by omega] at hpa
          exact hpa ⟨j2, j3⟩
      · refine z_iconst 14 dX3_besideTrials_13 rfl ?_
        refine z_istore (lv' := [(6, _), (5, _), (4, _), (0, _), (1, _), (2, _), (3, _)]) 16 dX3_besideTrials_14 rfl rfl rfl ?_
        refine z_sub (lv' := [(6, _), (5, _), (4, _), (0, _), (1, _), (2, _), (3, _)]) ⟨rfl, rfl, rfl, rfl, rfl, rfl, rfl, trivial⟩ ?_
        exact L16 8 0 w _ hR (by omega) (by omega) (by omega) hm (Or.inl ⟨rfl, fun j j0 j1 => by omega⟩) (by omega)
  refine z_iload_n 1 dX3_besideTrials_0 rfl rfl ?_
  refine z_istore (lv' := [(4, _), (0, _), (1, _), (2, _), (3, _)]) 3 dX3_besideTrials_1 rfl rfl rfl ?_
  refine z_iconst 4 dX3_besideTrials_3 rfl ?_
  refine z_istore (lv' := [(5, _), (4, _), (0, _), (1, _), (2, _), (3, _)]) 6 dX3_besideTrials_4 rfl rfl rfl ?_
  refine z_sub (lv' := [(5, _), (4, _), (0, _), (1, _), (2, _), (3, _)]) ⟨rfl, rfl, rfl, rfl, rfl, rfl, trivial⟩ ?_
  exact L6 8 0 b _ hR (by omega) (by omega) (fun s s0 s1 => by omega) (Or.inr (pst_b (m := m) (cr := m1 66) (cp := m1 67) (r := q) (w := b) (n := (m 18 0).toNat)).1) (by omega)
set_option maxRecDepth 20000 in
theorem c_fitOn {m m1 : Nat → Int → Int} {f f1 : Nat → Int → UInt32} {a : Nat → Int → Nat} {t : zT} (hR : CA m1 f1 a t) (hs : scr m m1 f f1) {q o : Int} (hW : WF m f) (hX : XI m f) (hq6 : 0 ≤ q ∧ q < 6) (ho : 0 ≤ o ∧ o < m 18 0) (hMR : MR m f m1 f1 q) (hcut : ∀ o, 0 ≤ o → o < m 18 0 → -1 ≤ m1 66 o ∧ m1 66 o ≤ 5 ∧ (0 ≤ m1 66 o → 0 ≤ m1 67 o ∧ m1 67 o + m 19 o ≤ 2000)) : zM yX3_fitOn cX3_fitOn 6 (some .int) 1 0 0 [vR (rf a 0 0), vI q, vR (rf a 14 o)] t (fun r t1 => ∃ v, r = some (vI v) ∧ (0 ≤ m 17 q → v = fitv m f (m1 66) (m1 67) o q) ∧ (m 17 q < 0 → v = -1) ∧ CA m1 f1 a t1) := by
  refine zM.of2 [(0, vR (rf a 0 0)), (1, vI q), (2, vR (rf a 14 o))] (by decide +kernel) rfl (Nat.le_of_ble_eq_true rfl) ?_
  have hn1 := hW.n.1
  have hn2 := hW.n.2
  have h60 := hX.1.1
  have h62 := hX.1.2.1
  have h64 := hX.1.2.2
  have h62b := congrFun (hs.1 62 (by decide)) 0
  have h64b := congrFun (hs.1 64 (by decide)) 0
  have hor := hW.ord ho.1 ho.2
  obtain ⟨hM1, hM2, -⟩ := id hMR
  have hsp : ∀ i, 0 ≤ i → i < m1 68 q → 0 ≤ m1 70 (2000 * q + i) := by
    intro i i0 i1
    have h17 : 0 ≤ m 17 q := by by_cases hh : 0 ≤ m 17 q; exact hh; have := hMR.2.2.1 (by omega); omega
    obtain ⟨n, rfl⟩ := Int.eq_ofNat_of_zero_le i0
    induction n with
    | zero => have g := (hMR.2.2.2.2 h17 0 (by omega) i1).1; unfold stb at g; rw [if_pos rfl] at g; exact Int.le_of_lt g
    | succ n ih =>
      have g := (hMR.2.2.2.2 h17 ((n + 1 : Nat) : Int) i0 i1).1
      have g2 := ih (by omega) (by omega)
      unfold stb at g
      rw [if_neg (by omega), show ((n + 1 : Nat) : Int) - 1 = (n : Int) by omega] at g
      omega
  have L22 : ∀ (fuel : Nat) (k b : Int) (t : zT) (hR : CA m1 f1 a t) (hk : 0 ≤ k ∧ k ≤ m1 68 q) (hb : 0 ≤ b ∧ b ≤ 2000) (hfj : fj m f (m1 66) (m1 67) o q b (stb m1 q k)) (hf : m1 68 q - k < (fuel : Int)), zOK yX3_fitOn cX3_fitOn 6 (some .int) 1 0 0 (fun r t1 => ∃ v, r = some (vI v) ∧ (0 ≤ m 17 q → v = fitv m f (m1 66) (m1 67) o q) ∧ (m 17 q < 0 → v = -1) ∧ CA m1 f1 a t1) 0 0 22 [(5, vI k), (4, vI b), (0, vR (rf a 0 0)), (1, vI q), (2, vR (rf a 14 o)), (3, vR (rf a 11 q))] [] t := by
    intro fuel
    induction fuel with
    | zero => intro k b t hR hk hb hfj hf; exfalso; omega
    | succ fuel ih22 =>
      intro k b t hR hk hb hfj hf
      refine z_iload 24 dX3_fitOn_22 rfl rfl ?_
      refine z_aload_n 25 dX3_fitOn_24 rfl rfl ?_
      refine c_getI 28 68 hR fl_X3_330 (by decide) (cLive_c (fun K hK => congrFun (hs.1 K (by omega)) 0) (show cLive m 11 q from lr ⟨by omega, by omega⟩)) (show _ = m1 68 q from rfl) dX3_fitOn_25 rfl ?_
      refine z_icmp_ge 110 31 dX3_fitOn_28 (by decide) rfl ⟨by omega, by omega⟩ ⟨by omega, by omega⟩ (fun h28 => ?_) (fun h28 => ?_)
      · refine z_iconst 111 dX3_fitOn_110 rfl ?_
        refine z_ireturn rfl dX3_fitOn_111 (by decide) (by decide) ?_
        refine ⟨-1, rfl, fun h => (fitv_eq ?_).symm, fun _ => rfl, hR⟩
        have hkk : k = m1 68 q := by omega
        rw [hkk, hMR.2.2.2.1 h] at hfj
        exact fj_end hfj
      · refine z_iload 33 dX3_fitOn_31 rfl rfl ?_
        refine z_sipush 36 dX3_fitOn_33 rfl ⟨by decide, by decide⟩ ?_
        refine z_icmp_ge 110 39 dX3_fitOn_36 (by decide) rfl ⟨by omega, by omega⟩ ⟨by omega, by omega⟩ (fun h36 => ?_) (fun h36 => ?_)
        · refine z_iconst 111 dX3_fitOn_110 rfl ?_
          refine z_ireturn rfl dX3_fitOn_111 (by decide) (by decide) ?_
          refine ⟨-1, rfl, fun h => (fitv_eq ?_).symm, fun _ => rfl, hR⟩
          have hkk : k = m1 68 q := by omega
          rw [hkk, hMR.2.2.2.1 h] at hfj
          exact fj_end hfj
        · have h17 : 0 ≤ m 17 q := by
            by_cases hh : 0 ≤ m 17 q
            · exact hh
            · have := hMR.2.2.1 (by omega); omega
          obtain ⟨hg1, hg2, hg3⟩ := hMR.2.2.2.2 h17 k hk.1 (by omega)
          have hrl := (hW.rl hq6.1 hq6.2).2.2 h17
          have hrl2 := hrl.2
          have hnx : stb m1 q (k + 1) = m1 70 (2000 * q + k) := by unfold stb; rw [if_neg (by omega), show k + 1 - 1 = k by omega]
          have hp0 : 0 ≤ stb m1 q k := by
            unfold stb
            split
            · exact Int.le_refl 0
            · have g := hMR.2.2.2.2 h17 (k - 1) (by omega) (by omega); have g2 := hsp (k - 1) (by omega) (by omega); omega
          refine z_aload_n 40 dX3_fitOn_39 rfl rfl ?_
          refine c_getL 43 12 hR fl_X3_333 (by decide) (cLive_c (fun K hK => congrFun (hs.1 K (by omega)) 0) (show cLive m 11 q from lr ⟨by omega, by omega⟩)) dX3_fitOn_40 rfl ?_
          refine z_iload 45 dX3_fitOn_43 rfl rfl ?_
          refine c_fald 46 69 hR (c := 2000) 2000 (by decide) (show _ = 2000 * q + k from rfl) (cLive_c (fun K hK => congrFun (hs.1 K (by omega)) 0) (show cLive m 12 q from lr ⟨by omega, by omega⟩)) rfl rfl ⟨by omega, by omega⟩ (show _ = f1 69 (2000 * q + k) from rfl) dX3_fitOn_45 rfl ?_
          refine z_aload_n 47 dX3_fitOn_46 rfl rfl ?_
          refine c_getF 50 20 hR fl_X3_337 (by decide) (cLive_c (fun K hK => congrFun (hs.1 K (by omega)) 0) (show cLive m 14 o from lo ⟨by omega, by omega⟩)) (show _ = f 20 o from congrFun (hs.2 20 (by decide)) _) dX3_fitOn_47 rfl ?_
          refine z_fcmp 51 dX3_fitOn_50 rfl ?_
          refine z_if_ge 71 54 dX3_fitOn_51 (by decide) rfl zfc_i (fun h51 => ?_) (fun h51 => ?_)
          · have hst : ∀ y, stb m1 q k ≤ y → y < m1 70 (2000 * q + k) → ¬ weakp m f o q y := fun y y0 y1 => by unfold weakp; rw [hg3 y y0 y1]; omega
            refine z_aload_n 72 dX3_fitOn_71 rfl rfl ?_
            refine z_iload_n 73 dX3_fitOn_72 rfl rfl ?_
            refine z_iload 75 dX3_fitOn_73 rfl rfl ?_
            refine z_aload_n 76 dX3_fitOn_75 rfl rfl ?_
            refine c_getI 79 19 hR fl_X3_343 (by decide) (cLive_c (fun K hK => congrFun (hs.1 K (by omega)) 0) (show cLive m 14 o from lo ⟨by omega, by omega⟩)) (show _ = m 19 o from congrFun (hs.1 19 (by decide)) _) dX3_fitOn_76 rfl ?_
            refine z_callV 82 [_, _, _] la_X3_besideTrials ml_X3_344 im_X3_besideTrials se_X3_besideTrials (hR.lv 0 0 (by decide) l0).1 (hR.lv 0 0 (by decide) l0).2.1 (by decide) rfl rfl (c_besideTrials hR hs hW hX hq6 hb ⟨by omega, by omega⟩ hcut) rfl rfl (by decide) (Nat.le_of_ble_eq_true rfl) (by decide) (by decide) dX3_fitOn_79 rfl (fun r t hq => ?_)
            obtain ⟨v, rfl, hv1, hv2, hv3, hv4, hR⟩ := hq
            obtain ⟨hsA, hsB⟩ := fj_strong (fun u u0 u1 => (hW.ord u0 u1).1) hor.1 hfj hg1 hst hv1 hv3 hv4
            refine z_istore (lv' := [(4, _), (5, _), (0, _), (1, _), (2, _), (3, _)]) 84 dX3_fitOn_82 rfl rfl rfl ?_
            refine z_iload 86 dX3_fitOn_84 rfl rfl ?_
            refine z_aload_n 87 dX3_fitOn_86 rfl rfl ?_
            refine c_getI 90 19 hR fl_X3_343 (by decide) (cLive_c (fun K hK => congrFun (hs.1 K (by omega)) 0) (show cLive m 14 o from lo ⟨by omega, by omega⟩)) (show _ = m 19 o from congrFun (hs.1 19 (by decide)) _) dX3_fitOn_87 rfl ?_
            refine z_iadd 91 dX3_fitOn_90 rfl ?_
            refine z_aload_n 92 dX3_fitOn_91 rfl rfl ?_
            refine c_getL 95 13 hR fl_X3_340 (by decide) (cLive_c (fun K hK => congrFun (hs.1 K (by omega)) 0) (show cLive m 11 q from lr ⟨by omega, by omega⟩)) dX3_fitOn_92 rfl ?_
            refine z_iload 97 dX3_fitOn_95 rfl rfl ?_
            refine c_iald 98 70 hR (c := 2000) 2000 (by decide) (show _ = 2000 * q + k from rfl) (cLive_c (fun K hK => congrFun (hs.1 K (by omega)) 0) (show cLive m 13 q from lr ⟨by omega, by omega⟩)) rfl rfl ⟨by omega, by omega⟩ (show _ = m1 70 (2000 * q + k) from rfl) dX3_fitOn_97 rfl ?_
            refine z_icmp_gt 104 101 dX3_fitOn_98 (by decide) rfl ⟨by omega, by omega⟩ ⟨by omega, by omega⟩ (fun h98 => ?_) (fun h98 => ?_)
            · refine z_iinc (lv' := [(5, _), (4, _), (0, _), (1, _), (2, _), (3, _)]) 107 dX3_fitOn_104 rfl rfl rfl rfl ?_
              refine z_goto 22 dX3_fitOn_107 (by decide) ?_
              refine z_sub (lv' := [(5, _), (4, _), (0, _), (1, _), (2, _), (3, _)]) ⟨rfl, rfl, rfl, rfl, rfl, rfl, trivial⟩ ?_
              exact ih22 (k + 1) _ _ hR (by omega) (by omega) (by rw [hnx]; first | exact hsA (by omega) | exact fj_weak hor.1 hfj hg1 hp0 hwk) (by omega)
            · refine z_iload 103 dX3_fitOn_101 rfl rfl ?_
              refine z_ireturn rfl dX3_fitOn_103 (by decide) (by decide) ?_
              refine ⟨_, rfl, fun _ => (fitv_eq (hsB (by omega) (by omega))).symm, fun h => by omega, hR⟩
          · have hwk : ∀ y, stb m1 q k ≤ y → y < m1 70 (2000 * q + k) → weakp m f o q y := fun y y0 y1 => by unfold weakp; rw [hg3 y y0 y1]; omega
            refine z_iload 56 dX3_fitOn_54 rfl rfl ?_
            refine z_aload_n 57 dX3_fitOn_56 rfl rfl ?_
            refine c_getL 60 13 hR fl_X3_340 (by decide) (cLive_c (fun K hK => congrFun (hs.1 K (by omega)) 0) (show cLive m 11 q from lr ⟨by omega, by omega⟩)) dX3_fitOn_57 rfl ?_
            refine z_iload 62 dX3_fitOn_60 rfl rfl ?_
            refine c_iald 63 70 hR (c := 2000) 2000 (by decide) (show _ = 2000 * q + k from rfl) (cLive_c (fun K hK => congrFun (hs.1 K (by omega)) 0) (show cLive m 13 q from lr ⟨by omega, by omega⟩)) rfl rfl ⟨by omega, by omega⟩ (show _ = m1 70 (2000 * q + k) from rfl) dX3_fitOn_62 rfl ?_
            refine z_max 66 ⟨by omega, by omega⟩ ⟨by omega, by omega⟩ ml_X3_122 la_max1 la_math la_max2 (by omega) (by decide) (by decide) (by decide) dX3_fitOn_63 rfl ?_
            refine z_istore (lv' := [(4, _), (5, _), (0, _), (1, _), (2, _), (3, _)]) 68 dX3_fitOn_66 rfl rfl rfl ?_
            refine z_goto 104 dX3_fitOn_68 (by decide) ?_
            refine z_iinc (lv' := [(5, _), (4, _), (0, _), (1, _), (2, _), (3, _)]) 107 dX3_fitOn_104 rfl rfl rfl rfl ?_
            refine z_goto 22 dX3_fitOn_107 (by decide) ?_
            refine z_sub (lv' := [(5, _), (4, _), (0, _), (1, _), (2, _), (3, _)]) ⟨rfl, rfl, rfl, rfl, rfl, rfl, trivial⟩ ?_
            exact ih22 (k + 1) _ _ hR (by omega) (by omega) (by rw [hnx]; first | exact hsA (by omega) | exact fj_weak hor.1 hfj hg1 hp0 hwk) (by omega)
  refine z_iload_n 1 dX3_fitOn_0 rfl rfl ?_
  refine z_callS 4 [_] la_X3_isReel ml_X3_266 sm_X3_isReel (c_isReel ⟨by omega, by omega⟩) rfl rfl (by decide) (Nat.le_of_ble_eq_true rfl) (by decide) (by decide) dX3_fitOn_1 rfl (fun r t hq => ?_)
  obtain ⟨zr, rfl, hz4, hz5, hz6, rfl⟩ := hq
  refine z_if_ne 9 7 dX3_fitOn_4 (by decide) rfl ⟨by omega, by omega⟩ (fun h4 => ?_) (fun h4 => ?_)
  rotate_left
  · exfalso; omega
  refine z_aload_n 10 dX3_fitOn_9 rfl rfl ?_
  refine c_getL 13 3 hR fl_X3_20 (by decide) (cLive_c (fun K hK => congrFun (hs.1 K (by omega)) 0) (show cLive m 0 0 from l0)) dX3_fitOn_10 rfl ?_
  refine z_iload_n 14 dX3_fitOn_13 rfl rfl ?_
  refine c_aald 15 65 hR (c := 1) 6 (by decide) (show _ = q from rfl) (cLive_c (fun K hK => congrFun (hs.1 K (by omega)) 0) (show cLive m 3 0 from l3)) rfl (by decide) ⟨by omega, by omega⟩ (show _ = q from ((congrFun (hs.1 65 (by decide)) _).trans (hX.rl (by omega) (by omega)))) dX3_fitOn_14 rfl (fun hl14 => ?_)
  refine z_astore_n (lv' := [(3, _), (0, _), (1, _), (2, _)]) 16 dX3_fitOn_15 rfl rfl rfl ?_
  refine z_iconst 17 dX3_fitOn_16 rfl ?_
  refine z_istore (lv' := [(4, _), (3, _), (0, _), (1, _), (2, _)]) 19 dX3_fitOn_17 rfl rfl rfl ?_
  refine z_iconst 20 dX3_fitOn_19 rfl ?_
  refine z_istore (lv' := [(5, _), (4, _), (3, _), (0, _), (1, _), (2, _)]) 22 dX3_fitOn_20 rfl rfl rfl ?_
  refine z_sub (lv' := [(5, _), (4, _), (0, _), (1, _), (2, _), (3, _)]) ⟨rfl, rfl, rfl, rfl, rfl, rfl, trivial⟩ ?_
  exact L22 2001 0 0 _ hR (by omega) (by omega) (⟨Int.le_refl 0, fun s s0 hf => by have := hf.1; omega, fun y y0 y1 => by unfold stb at y1; rw [if_pos rfl] at y1; omega, by unfold stb; rw [if_pos rfl]; omega⟩) (by omega)
set_option maxRecDepth 20000 in
theorem c_firstFit {m m1 : Nat → Int → Int} {f f1 : Nat → Int → UInt32} {a : Nat → Int → Nat} {t : zT} (hR : CA m1 f1 a t) (hs : scr m m1 f f1) {o s s' : Int} (hW : WF m f) (hX : XI m f) (ho : 0 ≤ o ∧ o < m 18 0) (hs64 : 0 ≤ s ∧ s < 64) (hsb : ∀ r, 0 ≤ r → r < 6 → (bit s' r ↔ bit s r ∧ 0 ≤ m 17 r)) (hMS : MS m f m1 f1 6) (hcut : ∀ o, 0 ≤ o → o < m 18 0 → -1 ≤ m1 66 o ∧ m1 66 o ≤ 5 ∧ (0 ≤ m1 66 o → 0 ≤ m1 67 o ∧ m1 67 o + m 19 o ≤ 2000)) : zM yX3_firstFit cX3_firstFit 5 (some .int) 2 0 0 [vR (rf a 0 0), vR (rf a 14 o), vI s] t (fun r t1 => r = some (vI (ff m f (m1 66) (m1 67) o s' 6)) ∧ CA m1 f1 a t1) := by
  refine zM.of2 [(0, vR (rf a 0 0)), (1, vR (rf a 14 o)), (2, vI s)] (by decide +kernel) rfl (Nat.le_of_ble_eq_true rfl) ?_
  have hn1 := hW.n.1
  have hn2 := hW.n.2
  have h60 := hX.1.1
  have h62 := hX.1.2.1
  have h64 := hX.1.2.2
  have L2 : ∀ (fuel : Nat) (k : Nat) (t : zT) (hR : CA m1 f1 a t) (hk : (k : Int) ≤ 6) (hff : ff m f (m1 66) (m1 67) o s' 6 = ff m f (m1 66) (m1 67) o s' (6 - k)) (hf : 6 - (k : Int) < (fuel : Int)), zOK yX3_firstFit cX3_firstFit 5 (some .int) 2 0 0 (fun r t1 => r = some (vI (ff m f (m1 66) (m1 67) o s' 6)) ∧ CA m1 f1 a t1) 0 0 2 [(3, vI (k : Int)), (0, vR (rf a 0 0)), (1, vR (rf a 14 o)), (2, vI s)] [] t := by
    intro fuel
    induction fuel with
    | zero => intro k t hR hk hff hf; exfalso; omega
    | succ fuel ih2 =>
      intro k t hR hk hff hf
      refine z_iload_n 3 dX3_firstFit_2 rfl rfl ?_
      refine z_bipush 5 dX3_firstFit_3 rfl ⟨by decide, by decide⟩ ?_
      refine z_icmp_ge 45 8 dX3_firstFit_5 (by decide) rfl ⟨by omega, by omega⟩ ⟨by omega, by omega⟩ (fun h5 => ?_) (fun h5 => ?_)
      · refine z_iconst 46 dX3_firstFit_45 rfl ?_
        refine z_ireturn rfl dX3_firstFit_46 (by decide) (by decide) ?_
        have hk6 : k = 6 := by omega
        subst hk6
        exact ⟨congrArg (fun z => some (vI z)) hff.symm, hR⟩
      · refine z_iload_n 9 dX3_firstFit_8 rfl rfl ?_
        refine z_iload_n 10 dX3_firstFit_9 rfl rfl ?_
        refine z_ishr 11 dX3_firstFit_10 rfl (shr_b (by omega) (by omega) (by omega) (by omega)) ?_
        refine z_iconst 12 dX3_firstFit_11 rfl ?_
        refine z_iand 13 dX3_firstFit_12 rfl (and1_b (by omega) (by omega) (by omega) (by omega)) ?_
        refine z_iconst 14 dX3_firstFit_13 rfl ?_
        refine z_icmp_ne 39 17 dX3_firstFit_14 (by decide) rfl ⟨by omega, by omega⟩ ⟨by omega, by omega⟩ (fun h14 => ?_) (fun h14 => ?_)
        · refine z_iinc (lv' := [(3, _), (0, _), (1, _), (2, _)]) 42 dX3_firstFit_39 rfl rfl rfl rfl ?_
          refine z_goto 2 dX3_firstFit_42 (by decide) ?_
          refine z_sub (lv' := [(3, _), (0, _), (1, _), (2, _)]) ⟨rfl, rfl, rfl, rfl, trivial⟩ ?_
          exact ih2 (k + 1) _ hR (by omega) (by
        rw [hff, show 6 - k = (5 - k) + 1 by omega, show 6 - (k + 1) = 5 - k by omega]
        show cif _ _ _ = _
        rw [show (5 - ((5 - k : Nat) : Int)) = k by omega]
        refine if_neg (fun hh => ?_)
        obtain ⟨g1, g2⟩ := (hsb k (by omega) (by omega)).mp hh.1
        have g3 : s / 2 ^ ((k : Nat) : Int).toNat % 2 = 1 := g1
        first | (exfalso; omega) | (have g4 := hv1 g2; have g5 := hh.2; omega)) (by omega)
        · refine z_aload_n 18 dX3_firstFit_17 rfl rfl ?_
          refine z_iload_n 19 dX3_firstFit_18 rfl rfl ?_
          refine z_aload_n 20 dX3_firstFit_19 rfl rfl ?_
          refine z_callV 23 [_, _] la_X3_fitOn ml_X3_326 im_X3_fitOn se_X3_fitOn (hR.lv 0 0 (by decide) l0).1 (hR.lv 0 0 (by decide) l0).2.1 (by decide) rfl rfl (c_fitOn hR hs hW hX ⟨by omega, by omega⟩ ho (hMS k (by omega) (by omega)) hcut) rfl rfl (by decide) (Nat.le_of_ble_eq_true rfl) (by decide) (by decide) dX3_firstFit_20 rfl (fun r t hq => ?_)
          obtain ⟨v, rfl, hv1, hv2, hR⟩ := hq
          have hvb : -1 ≤ v ∧ v ≤ 2000 := by
            by_cases h17 : 0 ≤ m 17 k
            · have h1 := fitv_b (m := m) (f := f) (cr := m1 66) (cp := m1 67) (o := o) (r := k)
              have h2 := (hW.rl (r := k) (by omega) (by omega)).2.2 h17
              have h3 := h2.2
              have h4 := (hW.ord ho.1 ho.2).1
              rw [hv1 h17]; omega
            · rw [hv2 (by omega)]; decide
          refine z_istore (lv' := [(4, _), (3, _), (0, _), (1, _), (2, _)]) 25 dX3_firstFit_23 rfl rfl rfl ?_
          refine z_iload 27 dX3_firstFit_25 rfl rfl ?_
          refine z_if_lt 39 30 dX3_firstFit_27 (by decide) rfl ⟨by omega, by omega⟩ (fun h27 => ?_) (fun h27 => ?_)
          · refine z_iinc (lv' := [(3, _), (4, _), (0, _), (1, _), (2, _)]) 42 dX3_firstFit_39 rfl rfl rfl rfl ?_
            refine z_goto 2 dX3_firstFit_42 (by decide) ?_
            refine z_sub (lv' := [(3, _), (0, _), (1, _), (2, _)]) ⟨rfl, rfl, rfl, rfl, trivial⟩ ?_
            exact ih2 (k + 1) _ hR (by omega) (by
        rw [hff, show 6 - k = (5 - k) + 1 by omega, show 6 - (k + 1) = 5 - k by omega]
        show cif _ _ _ = _
        rw [show (5 - ((5 - k : Nat) : Int)) = k by omega]
        refine if_neg (fun hh => ?_)
        obtain ⟨g1, g2⟩ := (hsb k (by omega) (by omega)).mp hh.1
        have g3 : s / 2 ^ ((k : Nat) : Int).toNat % 2 = 1 := g1
        first | (exfalso; omega) | (have g4 := hv1 g2; have g5 := hh.2; omega)) (by omega)
          · refine z_sipush 33 dX3_firstFit_30 rfl ⟨by decide, by decide⟩ ?_
            refine z_iload_n 34 dX3_firstFit_33 rfl rfl ?_
            refine z_imul 35 dX3_firstFit_34 rfl ?_
            refine z_iload 37 dX3_firstFit_35 rfl rfl ?_
            refine z_iadd 38 dX3_firstFit_37 rfl ?_
            refine z_ireturn rfl dX3_firstFit_38 (by decide) (by decide) ?_
            have h17 : 0 ≤ m 17 k := by by_cases h : 0 ≤ m 17 k; exact h; have := hv2 (by omega); omega
            have hv := hv1 h17
            refine ⟨congrArg (fun z => some (vI z)) ?_, hR⟩
            rw [hff, show 6 - k = (5 - k) + 1 by omega]
            show _ = cif _ _ _
            rw [show (5 - ((5 - k : Nat) : Int)) = k by omega, ← hv]
            exact (if_pos ⟨(hsb k (by omega) (by omega)).mpr ⟨by unfold bit; omega, h17⟩, by omega⟩).symm
  refine z_iconst 1 dX3_firstFit_0 rfl ?_
  refine z_istore_n (lv' := [(3, _), (0, _), (1, _), (2, _)]) 2 dX3_firstFit_1 rfl rfl rfl ?_
  refine z_sub (lv' := [(3, _), (0, _), (1, _), (2, _)]) ⟨rfl, rfl, rfl, rfl, trivial⟩ ?_
  exact L2 7 0 _ hR (by decide) (rfl) (by omega)
