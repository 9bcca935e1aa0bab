/-! A NEW ORDER -/
def ocm (m : Nat → Int → Int) (N n : Int) : Nat → Int → Int := up2 (up2 (up2 (up2 (up2 (up2 m 62 0 (N + 1)) 19 N n) 21 N (-1)) 48 N 0) 66 N (-1)) 67 N 0
def oca (a : Nat → Int → Nat) (N : Int) (q : Nat) : Nat → Int → Nat := fun s j => if s = 14 ∧ j = N then q else a s j
theorem rf_oca {a : Nat → Int → Nat} {N : Int} {q s : Nat} {v : Int} (h : s ≠ 14) : rf (oca a N q) s v = rf a s v := by
  unfold rf oca
  rw [if_neg (show ¬ (s = 14 ∧ v = N) from fun e => h e.1)]
theorem rf_oN {a : Nat → Int → Nat} {N : Int} {q : Nat} (h : 0 ≤ N) : rf (oca a N q) 14 N = some q := by
  unfold rf
  rw [if_neg (by omega)]
  unfold oca
  rw [if_pos ⟨rfl, rfl⟩]
def OI (t : zT) (q : Nat) (n : Int) (w : UInt32) : zT := sF (sI (sI (sI t q 2 (-1)) q 4 (-1)) q 0 n) q 1 w
theorem ctab_o0' : ∀ K, K < 80 → ((cTab K).1 = 0 ∧ 14 ≤ cS K ∧ cS K ≤ 14) → cC K = 0 ∧ K ∈ [19, 21, 48, 66, 67] := by decide +kernel
theorem ctab_o0 (K : Nat) (h1 : K < 80) (h2 : (cTab K).1 = 0) (h3 : 14 ≤ cS K) (h4 : cS K ≤ 14) : cC K = 0 ∧ (K = 19 ∨ K = 21 ∨ K = 48 ∨ K = 66 ∨ K = 67) := by
  have h := ctab_o0' K h1 ⟨h2, h3, h4⟩
  simp only [List.mem_cons, List.not_mem_nil, or_false] at h
  exact h
theorem ctab_o1 : ∀ K, K < 80 → (cTab K).1 = 1 → 14 ≤ cS K → cS K ≤ 14 → K = 20 := by decide +kernel
theorem ctab_o2 : ∀ K, K < 80 → (cTab K).1 = 2 → 14 ≤ cS K → cS K ≤ 14 → False := by decide +kernel
theorem ctab_oq' : ∀ K, K < 80 → (cTab K).1 = 0 ∨ (cTab K).1 = 2 → ¬ (14 ≤ cS K ∧ cS K ≤ 14) → K ∉ [62, 19, 21, 48, 66, 67] := by decide +kernel
theorem ctab_oc : ∀ K, K < 80 → (cTab K).1 = 0 ∨ (cTab K).1 = 2 → 14 ≤ cS K ∧ cS K ≤ 14 → cC K = 0 ∧ K ≠ 62 := by decide +kernel
theorem CA.order {m : Nat → Int → Int} {f : Nat → Int → UInt32} {a : Nat → Int → Nat} {t : zT} (h : CA m f a t) {q : Nat} {n : Int} {w : UInt32} (h0 : 0 ≤ m 62 0) (hq : q ∉ tL t) : CA (ocm m (m 62 0) n) (up2 f 20 (m 62 0) w) (oca a (m 62 0) q) (OI (sA t q 0 0) q n w) := by
  have hn := sA_new (t := t) (q := q) (kd := 0) (n := 0)
  have hold : ∀ b, b ∈ tL t → samec t (OI (sA t q 0 0) q n w) b := fun b hb => by
    have hne : b ≠ q := fun e => hq (e ▸ hb)
    obtain ⟨s1, s2, s3, s4, s5, s6⟩ := sA_old (kd := 0) (n := 0) hb hq
    refine ⟨s1, s2, s3, fun i => ?_, fun i => ?_, s6⟩
    · show up2 (up2 (up2 (tI (sA t q 0 0)) q 2 (-1)) q 4 (-1)) q 0 n b i = _
      rw [up2_a _ _ _ _ hne, up2_a _ _ _ _ hne, up2_a _ _ _ _ hne]; exact s4 i
    · show up2 (tF (sA t q 0 0)) q 1 w b i = _
      rw [up2_a _ _ _ _ hne]; exact s5 i
  have eN : oca a (m 62 0) q 14 (m 62 0) = q := if_pos ⟨rfl, rfl⟩
  have s14 : ∀ s, 14 ≤ s → s ≤ 14 → s = 14 := fun s _ _ => by omega
  refine CA.add (lo := 14) (hi := 14) (c := 62) (Or.inr (Or.inr ⟨rfl, rfl, rfl⟩)) h h0 (fun s j hs hl => hold _ (h.lv s j hs hl).1) ?_ ?_ (fun j j0 j1 => ?_) (fun e => by cases e) (fun s j hn => ?_) (fun s s0 s1 => ?_) (fun s s' s0 s1 s0' s1' e => by omega) (fun K hK hT j i hi => ?_) (fun K hK hT j i hi => ?_) (fun K hK hT g1 g2 i hi => ?_) (fun K hK hT g1 g2 i hi => ?_) (fun K hK hT g1 g2 i hi => absurd (ctab_o2 K hK hT g1 g2) id) (fun L hL g1 g2 => ?_)
  · exact up2_s m 62 0 _
  · intro k' hk' hk2
    rcases hk' with rfl | rfl | rfl
    · rfl
    · exact absurd rfl hk2
    · rfl
  · rfl
  · exact if_neg (fun e => hn ⟨by omega, by omega, e.2⟩)
  · rw [s14 s s0 s1, eN]
    exact ⟨hn.1, hn.2.1, hn.2.2.1, fun s' j' hs' hl' e => hq (e ▸ (h.lv s' j' hs' hl').1)⟩
  · by_cases hg : 14 ≤ cS K ∧ cS K ≤ 14
    · have hs := s14 _ hg.1 hg.2
      obtain ⟨c0, k62⟩ := ctab_oc K hK hT hg
      have hj : j ≠ m 62 0 := by have := hi.1.2; rw [hs] at this; have h9 : j < m 62 0 := this; omega
      rw [c0]
      show ocm m (m 62 0) n K j = m K j
      unfold ocm
      rw [up2_k _ _ _ _ _ hj, up2_k _ _ _ _ _ hj, up2_k _ _ _ _ _ hj, up2_k _ _ _ _ _ hj, up2_k _ _ _ _ _ hj, up2_a _ _ _ _ k62]
    · have hne := ctab_oq' K hK hT hg
      simp only [List.mem_cons, List.not_mem_nil, or_false, not_or] at hne
      obtain ⟨n1, n2, n3, n4, n5, n6⟩ := hne
      unfold ocm
      rw [up2_a _ _ _ _ n6, up2_a _ _ _ _ n5, up2_a _ _ _ _ n4, up2_a _ _ _ _ n3, up2_a _ _ _ _ n2, up2_a _ _ _ _ n1]
  · by_cases hg : 14 ≤ cS K ∧ cS K ≤ 14
    · have hK := ctab_o1 K hK hT hg.1 hg.2
      subst hK
      have hj : j < m 62 0 := hi.1.2
      exact up2_k _ _ _ _ _ (by show j ≠ _; omega)
    · exact up2_a _ _ _ _ (fun e => hg (by rw [e]; decide)) _
  · obtain ⟨c0, z⟩ := ctab_o0 K hK hT g1 g2
    have hi0 := hi.2.2.1 c0
    rw [c0, hi0]
    have hcx : ∀ j, cix 0 j 0 = j := fun _ => rfl
    rw [hcx, s14 _ g1 g2, eN]
    have hI : ∀ i, tI (OI (sA t q 0 0) q n w) q i = if i = 0 then n else if i = 4 then -1 else if i = 2 then -1 else 0 := fun i => by
      show up2 (up2 (up2 (tI (sA t q 0 0)) q 2 (-1)) q 4 (-1)) q 0 n q i = _
      rw [up_ite, up_ite, up_ite, hn.2.2.2.1]
    rw [hI]
    rcases z with rfl | rfl | rfl | rfl | rfl
    · exact (up2_s _ 19 (m 62 0) n).symm
    · exact (up2_s _ 21 (m 62 0) (-1)).symm
    · exact (up2_s _ 48 (m 62 0) 0).symm
    · exact (up2_s _ 66 (m 62 0) (-1)).symm
    · exact (up2_s _ 67 (m 62 0) 0).symm
  · have hK := ctab_o1 K hK hT g1 g2
    subst hK
    have hi0 : i = 0 := hi.2.2.1 rfl
    subst hi0
    show tF (OI (sA t q 0 0) q n w) (oca a (m 62 0) q 14 (m 62 0)) 1 = up2 f 20 (m 62 0) w 20 (m 62 0)
    rw [eN, up2_s]
    exact up2_s _ _ _ _
  · exfalso
    simp [cLinks] at hL
    rcases hL with rfl | rfl | rfl | rfl | rfl | rfl | rfl | rfl | rfl | rfl | rfl <;> (revert g1 g2; decide)
def orm (m : Nat → Int → Int) (n : Int) : Nat → Int → Int := up2 (up2 (ocm m (m 62 0) n) 63 (m 18 0) (m 62 0)) 18 0 (m 18 0 + 1)
theorem cp_order {m : Nat → Int → Int} {f : Nat → Int → UInt32} {a : Nat → Int → Nat} {t : zT} {x : Nat} {n e : Int} (hX : XI m f) (hno : ¬ ord_no m n e) (hx : a 0 0 = x) (h18 : 0 ≤ m 18 0) (hR : CA (orm m n) (up2 f 20 (m 62 0) (E8 e)) a t) : CP x (s_order m f n e) t := by
  subst hx
  have es : s_order m f n e = (up2 (up2 (up2 (up2 m 19 (m 18 0) n) 21 (m 18 0) (-1)) 22 (m 18 0) 0) 18 0 (m 18 0 + 1), up2 f 20 (m 18 0) (E8 e)) := if_neg hno
  rw [es]
  have h2 := hR.up (k := 22) (by decide) (m 18 0) 0
  obtain ⟨x1, x2, x3, x4, x5, x6, x7⟩ := hX
  unfold orm at h2
  rw [x1.2.1] at h2
  refine CP.of h2 ⟨⟨x1.1, ?_, x1.2.2⟩, x2, fun i i0 i1 => ?_, x4, x5, ?_, fun o o0 o1 o2 => ?_⟩ (eqs_p (fun K hK j => ?_) (fun _ _ _ => rfl))
  · show up2 m 62 0 (m 18 0 + 1) 62 0 = up2 (up2 (up2 (ocm m (m 18 0) n) 63 (m 18 0) (m 18 0)) 18 0 (m 18 0 + 1)) 22 (m 18 0) 0 18 0
    rw [up2_s, up2_a _ _ _ _ (show (18 : Nat) ≠ 22 by decide), up2_s]
  · show up2 (ocm m (m 18 0) n) 63 (m 18 0) (m 18 0) 63 i = if i < m 18 0 + 1 then i else -1
    rw [up_ite]
    by_cases e : i = m 18 0
    · rw [if_pos e, if_pos (by omega), e]
    · rw [if_neg e]
      have e2 : ocm m (m 18 0) n 63 i = m 63 i := rfl
      rw [e2, x3 i i0 i1]
      by_cases e3 : i < m 18 0
      · rw [if_pos e3, if_pos (by omega)]
      · rw [if_neg e3, if_neg (by omega)]
  · have hw : wt (up2 (up2 (up2 (ocm m (m 18 0) n) 63 (m 18 0) (m 18 0)) 18 0 (m 18 0 + 1)) 22 (m 18 0) 0) = wt m := wt_cong rfl rfl rfl rfl
    unfold XP
    rw [hw]
    exact x6
  · have o3 : 0 ≤ up2 (up2 (up2 m 62 0 (m 18 0 + 1)) 19 (m 18 0) n) 21 (m 18 0) (-1) 21 o := o2
    rw [up_ite] at o3
    have hne : o ≠ m 18 0 := fun e => by rw [if_pos e] at o3; omega
    rw [if_neg hne] at o3
    have o4 : o < m 18 0 + 1 := o1
    show up2 (up2 (up2 (up2 m 62 0 (m 18 0 + 1)) 19 (m 18 0) n) 21 (m 18 0) (-1)) 48 (m 18 0) 0 48 o = up2 _ 22 (m 18 0) 0 22 o
    exact (up2_k _ _ _ _ _ hne).trans ((x7 o o0 (by omega) o3).trans (up2_k _ _ _ _ _ hne).symm)
  · have hne : K ≠ 62 ∧ K ≠ 48 ∧ K ≠ 66 ∧ K ≠ 67 ∧ K ≠ 63 := by omega
    show up2 (up2 (up2 (ocm m (m 18 0) n) 63 (m 18 0) (m 18 0)) 18 0 (m 18 0 + 1)) 22 (m 18 0) 0 K j = up2 (up2 (up2 (up2 m 19 (m 18 0) n) 21 (m 18 0) (-1)) 22 (m 18 0) 0) 18 0 (m 18 0 + 1) K j
    unfold ocm
    by_cases k22 : K = 22
    · subst k22
      rw [up_ite, up2_a _ _ _ _ (show (22 : Nat) ≠ 18 by decide), up2_a _ _ _ _ (show (22 : Nat) ≠ 63 by decide), up2_a _ _ _ _ (show (22 : Nat) ≠ 67 by decide), up2_a _ _ _ _ (show (22 : Nat) ≠ 66 by decide), up2_a _ _ _ _ (show (22 : Nat) ≠ 48 by decide), up2_a _ _ _ _ (show (22 : Nat) ≠ 21 by decide), up2_a _ _ _ _ (show (22 : Nat) ≠ 19 by decide), up2_a _ _ _ _ (show (22 : Nat) ≠ 62 by decide), up2_a _ _ _ _ (show (22 : Nat) ≠ 18 by decide), up_ite, up2_a _ _ _ _ (show (22 : Nat) ≠ 21 by decide), up2_a _ _ _ _ (show (22 : Nat) ≠ 19 by decide)]
    · rw [up2_a _ _ _ _ k22]
      by_cases k18 : K = 18
      · subst k18
        rw [up_ite, up_ite]
        split
        · rfl
        · rfl
      · rw [up2_a _ _ _ _ k18, up2_a _ _ _ _ k18, up2_a _ _ _ _ hne.2.2.2.2, up2_a _ _ _ _ hne.2.2.2.1, up2_a _ _ _ _ hne.2.2.1, up2_a _ _ _ _ hne.2.1, up2_a _ _ _ _ k22]
        by_cases k21 : K = 21
        · subst k21
          rw [up_ite, up_ite]
          split
          · rfl
          · rw [up2_a _ _ _ _ (by decide), up2_a _ _ _ _ (by decide), up2_a _ _ _ _ (by decide)]
        · rw [up2_a _ _ _ _ k21, up2_a _ _ _ _ k21]
          by_cases k19 : K = 19
          · subst k19
            rw [up_ite, up_ite]
            split
            · rfl
            · rw [up2_a _ _ _ _ (by decide)]
          · rw [up2_a _ _ _ _ k19, up2_a _ _ _ _ k19, up2_a _ _ _ _ hne.1]
set_option maxRecDepth 20000 in
theorem c_Order_init {t : zT} {q : Nat} {n : Int} {w : UInt32} (hq : q ∈ tL t) (hk : tK t q = 0) : zM yX0_init cX0_init 3 none 1 0 0 [vR (some q), vI n, vF w] t (fun r0 t1 => r0 = none ∧ t1 = OI t q n w) := by
  refine zM.of2 [(0, vR (some q)), (1, vI n), (2, vF w)] (by decide +kernel) rfl (Nat.le_of_ble_eq_true rfl) ?_
  refine z_aload_n 1 dX0_init_0 rfl rfl ?_
  refine z_objInit 4 ml_X0_1 la_obj1 la_obj2 (by decide) (by decide) dX0_init_1 rfl ?_
  refine z_aload_n 5 dX0_init_4 rfl rfl ?_
  refine z_iconst 6 dX0_init_5 rfl ?_
  refine z_putI 9 fl_X0_7 hq hk dX0_init_6 rfl ?_
  refine z_aload_n 10 dX0_init_9 rfl rfl ?_
  refine z_iconst 11 dX0_init_10 rfl ?_
  refine z_putI 14 fl_X0_13 hq hk dX0_init_11 rfl ?_
  refine z_aload_n 15 dX0_init_14 rfl rfl ?_
  refine z_iload_n 16 dX0_init_15 rfl rfl ?_
  refine z_putIF 19 fl_X0_16 rfl fo_X0_16 hq hk dX0_init_16 rfl ?_
  refine z_aload_n 20 dX0_init_19 rfl rfl ?_
  refine z_fload_n 21 dX0_init_20 rfl rfl ?_
  refine z_putFF 24 fl_X0_19 rfl fo_X0_19 hq hk dX0_init_21 rfl ?_
  refine z_return rfl dX0_init_24 (by decide) (by decide) ?_
  exact ⟨rfl, rfl⟩
set_option maxRecDepth 20000 in
theorem c_order {m : Nat → Int → Int} {f : Nat → Int → UInt32} {a : Nat → Int → Nat} {t : zT} (hR : CA m f a t) {n : Int} (hn : zi n) {e : Int} (he : zi e) (hW : WF m f) (hX : XI m f) : zM yX3_order cX3_order 3 (some .int) 2 1 6 [vR (rf a 0 0), vI n, vI e] t (fun r t1 => r = some (vI (a_order m n e)) ∧ CP (a 0 0) (s_order m f n e) t1) := by
  refine zM.of2 [(0, vR (rf a 0 0)), (1, vI n), (2, vI e)] (by decide +kernel) rfl (Nat.le_of_ble_eq_true rfl) ?_
  obtain ⟨hn1, hn2⟩ := hn
  obtain ⟨he1, he2⟩ := he
  have hn1 := hW.n.1
  have hn2 := hW.n.2
  have h60 := hX.1.1
  have h62 := hX.1.2.1
  have h64 := hX.1.2.2
  obtain ⟨ho1, ho2, ho3⟩ := hW.2.2.2.2.1
  refine z_iload_n 1 dX3_order_0 rfl rfl ?_
  refine z_iconst 2 dX3_order_1 rfl ?_
  refine z_icmp_lt 23 5 dX3_order_2 (by decide) rfl ⟨by omega, by omega⟩ ⟨by omega, by omega⟩ (fun h2 => ?_) (fun h2 => ?_)
  · refine z_bipush 25 dX3_order_23 rfl ⟨by decide, by decide⟩ ?_
    refine z_ireturn rfl dX3_order_25 (by decide) (by decide) ?_
    refine ⟨congrArg (fun z => some (vI z)) ?_, ?_⟩
    · unfold a_order cif ord_no; rw [if_pos (by omega)]
    · have es : s_order m f n e = (m, f) := if_pos (by unfold ord_no; omega)
      rw [es]; exact CP.rf hR hX
  · refine z_iload_n 6 dX3_order_5 rfl rfl ?_
    refine z_sipush 9 dX3_order_6 rfl ⟨by decide, by decide⟩ ?_
    refine z_icmp_gt 23 12 dX3_order_9 (by decide) rfl ⟨by omega, by omega⟩ ⟨by omega, by omega⟩ (fun h9 => ?_) (fun h9 => ?_)
    · refine z_bipush 25 dX3_order_23 rfl ⟨by decide, by decide⟩ ?_
      refine z_ireturn rfl dX3_order_25 (by decide) (by decide) ?_
      refine ⟨congrArg (fun z => some (vI z)) ?_, ?_⟩
      · unfold a_order cif ord_no; rw [if_pos (by omega)]
      · have es : s_order m f n e = (m, f) := if_pos (by unfold ord_no; omega)
        rw [es]; exact CP.rf hR hX
    · refine z_iload_n 13 dX3_order_12 rfl rfl ?_
      refine z_if_lt 23 16 dX3_order_13 (by decide) rfl ⟨by omega, by omega⟩ (fun h13 => ?_) (fun h13 => ?_)
      · refine z_bipush 25 dX3_order_23 rfl ⟨by decide, by decide⟩ ?_
        refine z_ireturn rfl dX3_order_25 (by decide) (by decide) ?_
        refine ⟨congrArg (fun z => some (vI z)) ?_, ?_⟩
        · unfold a_order cif ord_no; rw [if_pos (by omega)]
        · have es : s_order m f n e = (m, f) := if_pos (by unfold ord_no; omega)
          rw [es]; exact CP.rf hR hX
      · refine z_iload_n 17 dX3_order_16 rfl rfl ?_
        refine z_ldcw 20 co_X3_284 dX3_order_17 rfl ?_
        refine z_icmp_le 26 23 dX3_order_20 (by decide) rfl ⟨by omega, by omega⟩ ⟨by omega, by omega⟩ (fun h20 => ?_) (fun h20 => ?_)
        · refine z_aload_n 27 dX3_order_26 rfl rfl ?_
          refine c_getI 30 18 hR fl_X3_143 (by decide) (show cLive m 0 0 from l0) (show _ = m 18 0 from rfl) dX3_order_27 rfl ?_
          refine z_bipush 32 dX3_order_30 rfl ⟨by decide, by decide⟩ ?_
          refine z_icmp_lt 38 35 dX3_order_32 (by decide) rfl ⟨by omega, by omega⟩ ⟨by omega, by omega⟩ (fun h32 => ?_) (fun h32 => ?_)
          · refine z_aload_n 39 dX3_order_38 rfl rfl ?_
            refine c_getL 42 4 hR fl_X3_26 (by decide) (show cLive m 0 0 from l0) dX3_order_39 rfl ?_
            refine z_aload_n 43 dX3_order_42 rfl rfl ?_
            refine c_getI 46 18 hR fl_X3_143 (by decide) (show cLive m 0 0 from l0) (show _ = m 18 0 from rfl) dX3_order_43 rfl ?_
            have hRa := hR
            refine z_new 49 nw_X3_24 (by decide) (by decide) dX3_order_46 rfl (fun q46 hq46 => ?_)
            replace hR := hR.new (kd := 0) (n := 0) hq46
            refine z_dup 50 dX3_order_49 rfl rfl ?_
            refine z_iload_n 51 dX3_order_50 rfl rfl ?_
            refine z_iload_n 52 dX3_order_51 rfl rfl ?_
            refine z_i2f 53 dX3_order_52 rfl ?_
            refine z_ldcf 55 co_X3_44 dX3_order_53 rfl ?_
            refine z_fmul 56 dX3_order_55 rfl (E8_num (by omega) (by omega)) ?_
            have hqn := sA_new (t := t) (q := q46) (kd := 0) (n := 0)
            refine z_callI 59 [_, _] la_X0_init mn_X3_285 im_X0_init rfl (c_Order_init hqn.1 hqn.2.1) rfl rfl (by decide) (Nat.le_of_ble_eq_true rfl) (by decide) (by decide) dX3_order_56 rfl (fun r0 t1 hq => ?_)
            obtain ⟨rfl, rfl⟩ := hq
            replace hR := hRa.order (n := n) (w := E8 e) (by omega) hq46
            rw [← rf_oca (a := a) (N := m 62 0) (q := q46) (s := 0) (v := 0) (by decide)]
            rw [← rf_oca (a := a) (N := m 62 0) (q := q46) (s := 4) (v := 0) (by decide)]
            rw [show vR (some q46) = vR (rf (oca a (m 62 0) q46) 14 (m 62 0)) by rw [rf_oN (by omega)]]
            have hlN : cLive (ocm m (m 62 0) n) 14 (m 62 0) := ⟨by omega, by show m 62 0 < up2 m 62 0 (m 62 0 + 1) 62 0; rw [up2_s]; omega⟩
            refine c_aast 60 63 hR (c := 1) 6 (by decide) (show _ = m 18 0 from rfl) (show cLive m 4 0 from l4) hlN rfl (by decide) ⟨by omega, by omega⟩ dX3_order_59 rfl (fun t hR => ?_)
            refine z_aload_n 61 dX3_order_60 rfl rfl ?_
            refine z_dup 62 dX3_order_61 rfl rfl ?_
            refine c_getI 65 18 hR fl_X3_143 (by decide) (show cLive m 0 0 from l0) (show _ = m 18 0 from rfl) dX3_order_62 rfl ?_
            refine z_iconst 66 dX3_order_65 rfl ?_
            refine z_iadd 67 dX3_order_66 rfl ?_
            refine c_putI 70 18 hR fl_X3_143 (by decide) (show cLive m 0 0 from l0) dX3_order_67 rfl (fun t hR => ?_)
            refine z_aload_n 71 dX3_order_70 rfl rfl ?_
            refine c_getI 74 18 hR fl_X3_143 (by decide) (show cLive m 0 0 from l0) (show _ = (m 18 0 + 1) from up2_s _ _ _ _) dX3_order_71 rfl ?_
            refine z_iconst 75 dX3_order_74 rfl ?_
            refine z_isub 76 dX3_order_75 rfl ?_
            refine z_ireturn rfl dX3_order_76 (by decide) (by decide) ?_
            have hno : ¬ ord_no m n e := by unfold ord_no; omega
            refine ⟨congrArg (fun z => some (vI z)) ?_, cp_order hX hno (if_neg (fun h => absurd h.1 (by decide))) (by omega) hR⟩
            unfold a_order cif; rw [if_neg hno]; omega
          · refine z_bipush 37 dX3_order_35 rfl ⟨by decide, by decide⟩ ?_
            refine z_ireturn rfl dX3_order_37 (by decide) (by decide) ?_
            refine ⟨congrArg (fun z => some (vI z)) ?_, ?_⟩
            · unfold a_order cif ord_no; rw [if_pos (by omega)]
            · have es : s_order m f n e = (m, f) := if_pos (by unfold ord_no; omega)
              rw [es]; exact CP.rf hR hX
        · refine z_bipush 25 dX3_order_23 rfl ⟨by decide, by decide⟩ ?_
          refine z_ireturn rfl dX3_order_25 (by decide) (by decide) ?_
          refine ⟨congrArg (fun z => some (vI z)) ?_, ?_⟩
          · unfold a_order cif ord_no; rw [if_pos (by omega)]
          · have es : s_order m f n e = (m, f) := if_pos (by unfold ord_no; omega)
            rw [es]; exact CP.rf hR hX
