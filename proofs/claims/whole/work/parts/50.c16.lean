theorem pcm_id55 {m : Nat → Int → Int} {N n k l w c : Int} {pt : Int → Int} : up2 (pcm m N n k l w c pt) 55 N 0 = pcm m N n k l w c pt := by
  have h : pcm m N n k l w c pt 55 N = 0 := (pcm_c (by decide) N).trans (up2_s _ 55 N 0)
  have e := up2_id (pcm m N n k l w c pt) 55 N
  rw [h] at e
  exact e
section PK
variable {m : Nat → Int → Int} {k l w c : Int} {pt : Int → Int} {v g z : Int} {n : Nat}
theorem pk_6 : up2 (pcm m (m 0 0) (m 0 0) k l w c pt) 55 (m 0 0) v 6 (m 0 0) = c := (up2_a _ _ _ _ (by decide) _).trans ((pcm_c (by decide) _).trans (up2_s _ 6 (m 0 0) c))
theorem pk_60 : up2 (pcm m (m 0 0) (m 0 0) k l w c pt) 55 (m 0 0) v 60 0 = m 0 0 + 1 := (up2_a _ _ _ _ (by decide) _).trans pcm_60
theorem pk_56 : up2 (pcm m (m 0 0) (m 0 0) k l w c pt) 55 (m 0 0) v 56 (m 0 0) = m 0 0 := (up2_a _ _ _ _ (by decide) _).trans pcm_56
theorem pk_50 {j : Int} (h : j ≠ m 0 0) : up2 (pcm m (m 0 0) (m 0 0) k l w c pt) 55 (m 0 0) v 50 j = m 50 j := (up2_a _ _ _ _ (by decide) _).trans ((pcm_c (by decide) _).trans (chn_j (by decide) h))
theorem pk_50N : up2 (pcm m (m 0 0) (m 0 0) k l w c pt) 55 (m 0 0) v 50 (m 0 0) = 0 := (up2_a _ _ _ _ (by decide) _).trans ((pcm_c (by decide) _).trans (up2_s _ 50 (m 0 0) 0))
theorem pk_7 {i : Int} (h : 0 ≤ i ∧ i < 9) : up2 (pcm m (m 0 0) (m 0 0) k l w c pt) 55 (m 0 0) v 7 (9 * m 0 0 + i) = pt i := by
  rw [up2_a _ _ _ _ (by decide), pcm_7, if_pos (by omega), show 9 * m 0 0 + i - 9 * m 0 0 = i by omega]
theorem pk_ok (h0 : 0 ≤ m 0 0) (hc : 0 ≤ c ∧ c ≤ 9) (hpt : ∀ i, 0 ≤ i → i < c → 0 ≤ pt i ∧ pt i < m 0 0) : (0 ≤ m 0 0 ∧ m 0 0 < up2 (pcm m (m 0 0) (m 0 0) k l w c pt) 55 (m 0 0) v 60 0) ∧ (0 ≤ up2 (pcm m (m 0 0) (m 0 0) k l w c pt) 55 (m 0 0) v 6 (m 0 0) ∧ up2 (pcm m (m 0 0) (m 0 0) k l w c pt) 55 (m 0 0) v 6 (m 0 0) ≤ 9) ∧
    ∀ i, 0 ≤ i → i < up2 (pcm m (m 0 0) (m 0 0) k l w c pt) 55 (m 0 0) v 6 (m 0 0) → 0 ≤ up2 (pcm m (m 0 0) (m 0 0) k l w c pt) 55 (m 0 0) v 7 (9 * m 0 0 + i) ∧ up2 (pcm m (m 0 0) (m 0 0) k l w c pt) 55 (m 0 0) v 7 (9 * m 0 0 + i) < up2 (pcm m (m 0 0) (m 0 0) k l w c pt) 55 (m 0 0) v 60 0 ∧ up2 (pcm m (m 0 0) (m 0 0) k l w c pt) 55 (m 0 0) v 7 (9 * m 0 0 + i) ≠ m 0 0 := by
  rw [pk_60, pk_6]
  refine ⟨⟨h0, by omega⟩, hc, fun i i0 i1 => ?_⟩
  have h := hpt i i0 i1
  rw [pk_7 (by omega)]
  exact ⟨h.1, by omega, by omega⟩
theorem pk_live (h0 : 0 ≤ m 0 0) : cLive (up2 (pcm m (m 0 0) (m 0 0) k l w c pt) 55 (m 0 0) v) 6 (m 0 0) := ⟨h0, by
  show m 0 0 < up2 (pcm m (m 0 0) (m 0 0) k l w c pt) 55 (m 0 0) v 60 0
  rw [pk_60]; omega⟩
theorem tks_live (h0 : 0 ≤ m 0 0) : cLive (tks (up2 (pcm m (m 0 0) (m 0 0) k l w c pt) 55 (m 0 0) v) (m 0 0) n) 6 (m 0 0) :=
  cLive_c (fun K hK => tks_r (by omega) (by omega) (by omega)) (pk_live h0)
theorem mkp_keep : (up2 (up2 (tks (up2 (pcm m (m 0 0) (m 0 0) k l w c pt) 55 (m 0 0) v) (m 0 0) n) 50 (m 0 0) g) 15 0 z 0 0 = m 0 0) ∧ (up2 (up2 (tks (up2 (pcm m (m 0 0) (m 0 0) k l w c pt) 55 (m 0 0) v) (m 0 0) n) 50 (m 0 0) g) 15 0 z 60 0 = m 0 0 + 1) ∧ up2 (up2 (tks (up2 (pcm m (m 0 0) (m 0 0) k l w c pt) 55 (m 0 0) v) (m 0 0) n) 50 (m 0 0) g) 15 0 z 56 (m 0 0) = m 0 0 := by
  refine ⟨?_, ?_, ?_⟩
  · rw [up2_a _ _ _ _ (by decide), up2_a _ _ _ _ (by decide), tks_r (by decide) (by decide) (by decide), up2_a _ _ _ _ (by decide)]; exact pcm_0
  · rw [up2_a _ _ _ _ (by decide), up2_a _ _ _ _ (by decide), tks_r (by decide) (by decide) (by decide)]; exact pk_60
  · rw [up2_a _ _ _ _ (by decide), up2_a _ _ _ _ (by decide), tks_r (by decide) (by decide) (by decide)]; exact pk_56
/-- the weight that is taken -/
theorem tks_wt {f : Nat → Int → UInt32} (hX : XI m f) (hc : 0 ≤ c ∧ c ≤ 9) (hpt : ∀ i, 0 ≤ i → i < c → 0 ≤ pt i ∧ pt i < m 0 0) {M : Nat → Int → Int} (hM : ∀ i, 0 ≤ i → i < c → M 7 (9 * m 0 0 + i) = pt i) : tks (up2 (pcm m (m 0 0) (m 0 0) k l w c pt) 55 (m 0 0) v) (m 0 0) c.toNat 50 (m 0 0) = wsum M (wt m) (m 0 0) c.toNat := by
  rw [tks_50, pk_50N, Int.zero_add]
  refine wsum_ext (fun i hi => ?_)
  have h := hpt i (by omega) (by omega)
  rw [pk_7 (by omega), hM i (by omega) (by omega), pk_50 (by omega)]
  exact (hX.p h.1 h.2).2.1
end PK
theorem nst.up9 {m M : Nat → Int → Int} {k l w c g n : Int} (h : nst m M k l w c g) : nst m (up2 M 9 (m 0 0) n) k l w c g := by
  obtain ⟨a1, a2, a3, a4, a5, a6⟩ := h
  refine ⟨fun K hK h7 h0 h15 h4 h8 h9 h52 h53 h54 h60 h61 hch j => ?_, fun j hj => ?_, a3, a4, a5, fun K hK j hj => ?_⟩
  · rw [up2_a _ _ _ _ h9]; exact a1 K hK h7 h0 h15 h4 h8 h9 h52 h53 h54 h60 h61 hch j
  · obtain ⟨b1, b2, b3, b4, b5, b6⟩ := a2 j hj
    exact ⟨b1, b2, b3, b4, by rw [up2_k _ _ _ _ _ hj]; exact b5, b6⟩
  · rw [up2_a _ _ _ _ (by omega)]; exact a6 K hK j hj
def lpt (m : Nat → Int → Int) (i : Int) : Int := if i < m 15 0 then m 16 i else m 7 (9 * m 0 0 + i)
theorem cp_lay {m : Nat → Int → Int} {f : Nat → Int → UInt32} {a : Nat → Int → Nat} {t : zT} {x : Nat} {k q u g : Int} (hW : WF m f) (hX : XI m f) (hok : lay_ok m k q u)
    (hg : g = tks (up2 (pcm m (m 0 0) (m 0 0) k (lay_n m u) q (m 15 0) (lpt m)) 55 (m 0 0) 0) (m 0 0) (m 15 0).toNat 50 (m 0 0) + (if k = 3 then lay_n m u else 0)) (hx : a 0 0 = x)
    (hR : CA (mkp m k (lay_n m u) q (m 15 0) (lpt m) 0 g 0) (up2 f 51 (m 0 0) 0) a t) : CP x (s_lay m k q u, f) t := by
  subst hx
  have es : s_lay m k q u = up2 (lays m k (lay_n m u) q (m 15 0).toNat) 15 0 0 := if_pos hok
  rw [es]
  obtain ⟨k1, k2, -, -, -, -, h120, -⟩ := hok
  have hn := hW.n
  obtain ⟨hp1, hp2, hp3⟩ := hW.2.2.1
  have hpt : ∀ i, 0 ≤ i → i < m 15 0 → 0 ≤ lpt m i ∧ lpt m i < m 0 0 := fun i i0 i1 => by unfold lpt; rw [if_pos i1]; exact hp3 i i0 i1
  have hM7 : ∀ i, 0 ≤ i → i < m 15 0 → mkp m k (lay_n m u) q (m 15 0) (lpt m) 0 g 0 7 (9 * m 0 0 + i) = lpt m i := fun i i0 i1 => by
    rw [mkp_7, if_pos (by omega), show 9 * m 0 0 + i - 9 * m 0 0 = i by omega]
  have hN := mkp_n (m := m) (k := k) (l := lay_n m u) (w := q) (c := m 15 0) (pt := lpt m) (v := 0) (g := g) (z := 0)
  refine CP.of hR (hN.X hX hW (by omega) (by rw [mkp_15]; exact hp1) ⟨hp1, hp2⟩ (fun i i0 i1 => by rw [hM7 i i0 i1]; exact hpt i i0 i1) ?_ (fun q => by omega) (fun j hj => ⟨up2_a _ _ _ _ (by decide) _, up2_k _ _ _ _ _ (by omega)⟩) (fun j hj => up2_a _ _ _ _ (by decide) _) ⟨fun q => by omega, fun q => by omega⟩) (eqs_p (fun K hK j => ?_) (fun K hK j => up2_a _ _ _ _ (by omega) _))
  · refine hg.trans ?_
    rw [tks_wt hX ⟨hp1, hp2⟩ hpt hM7]
    unfold wgt
    rw [hN.2.2.1.1, hN.2.2.1.2.1, hN.2.2.1.2.2.2.1]
    rw [if_neg (show ¬ k = 0 by omega), if_neg (show ¬ k = 4 by omega)]
    by_cases h3 : k = 3
    · rw [if_pos h3, if_pos h3]
    · rw [if_neg h3, if_neg h3]; omega
  · show mkp m k (lay_n m u) q (m 15 0) (lpt m) 0 g 0 K j = up2 (lays m k (lay_n m u) q (m 15 0).toNat) 15 0 0 K j
    by_cases h15 : K = 15
    · subst h15
      unfold mkp
      rw [kept_o (by decide), up_ite, up_ite, up2_a _ _ _ _ (by decide), tks_r (by decide) (by decide) (by decide), up2_a _ _ _ _ (by decide), pcm_c (by decide), chn_o rfl, lays_r (Or.inl rfl)]
    · rw [up2_a _ _ _ _ h15, lays_2]
      by_cases h9 : K = 9
      · subst h9
        rw [mkp_c (by decide) (by decide), chn_o rfl, lay2_o (by decide), np_r (by decide)]
      · exact mkp_e (S0 := np m k (lay_n m u) q) ⟨hp1, hp2⟩ (fun i i0 i1 => rfl) (fun K' _ _ _ j => rfl) hK h9 h15 j
def spt (m : Nat → Int → Int) (a b i : Int) : Int := if i < 2 then (if i = 0 then a else b) else m 7 (9 * m 0 0 + i)
theorem cp_spl {m : Nat → Int → Int} {f : Nat → Int → UInt32} {ad : Nat → Int → Nat} {t : zT} {x : Nat} {a b n g : Int} (hW : WF m f) (hX : XI m f) (hno : ¬ spl_no m a b n)
    (hg : g = tks (up2 (pcm m (m 0 0) (m 0 0) 5 (m 2 a + m 2 b - n) (m 3 a) 2 (spt m a b)) 55 (m 0 0) (m 2 a - n)) (m 0 0) 2 50 (m 0 0)) (hx : ad 0 0 = x)
    (hR : CA (mkp m 5 (m 2 a + m 2 b - n) (m 3 a) 2 (spt m a b) (m 2 a - n) g (m 15 0)) (up2 f 51 (m 0 0) 0) ad t) : CP x (s_spl m a b n, f) t := by
  subst hx
  have es : s_spl m a b n = lay2 (up2 (np m 5 (m 2 a + m 2 b - n) (m 3 a)) 9 (m 0 0) n) (m 0 0) (fun i => if i = 0 then a else b) 2 := if_neg hno
  rw [es]
  unfold spl_no free thick at hno
  have hn := hW.n
  have hpt : ∀ i, 0 ≤ i → i < 2 → 0 ≤ spt m a b i ∧ spt m a b i < m 0 0 := fun i i0 i1 => by unfold spt; rw [if_pos i1]; split <;> omega
  have hM7 : ∀ i, 0 ≤ i → i < 2 → mkp m 5 (m 2 a + m 2 b - n) (m 3 a) 2 (spt m a b) (m 2 a - n) g (m 15 0) 7 (9 * m 0 0 + i) = spt m a b i := fun i i0 i1 => by
    rw [mkp_7, if_pos (by omega), show 9 * m 0 0 + i - 9 * m 0 0 = i by omega]
  have hN := (mkp_n (m := m) (k := 5) (l := m 2 a + m 2 b - n) (w := m 3 a) (c := 2) (pt := spt m a b) (v := m 2 a - n) (g := g) (z := m 15 0)).up9 (n := n)
  have h2 := hR.up (k := 9) (by decide) (m 0 0) n
  refine CP.of h2 (hN.X hX hW (by omega) ?_ ⟨by decide, by decide⟩ (fun i i0 i1 => by rw [up2_a _ _ _ _ (by decide), hM7 i i0 i1]; exact hpt i i0 i1) ?_ (fun _ => ?_) (fun j hj => ⟨up2_a _ _ _ _ (by decide) _, up2_k _ _ _ _ _ (by omega)⟩) (fun j hj => up2_a _ _ _ _ (by decide) _) ⟨fun q => by omega, fun q => by omega⟩) (eqs_p (fun K hK j => ?_) (fun K hK j => up2_a _ _ _ _ (by omega) _))
  · rw [up2_a _ _ _ _ (by decide), mkp_15]; exact Int.le_refl _
  · have h2w := tks_wt (k := 5) (l := m 2 a + m 2 b - n) (w := m 3 a) (v := m 2 a - n) hX (c := 2) ⟨by decide, by decide⟩ hpt (M := up2 (mkp m 5 (m 2 a + m 2 b - n) (m 3 a) 2 (spt m a b) (m 2 a - n) g (m 15 0)) 9 (m 0 0) n) (fun i i0 i1 => by rw [up2_a _ _ _ _ (by decide)]; exact hM7 i i0 i1)
    refine hg.trans (h2w.trans ?_)
    unfold wgt
    rw [hN.2.2.1.1, hN.2.2.1.2.1, hN.2.2.1.2.2.2.1]
    rfl
  · have e7 : mkp m 5 (m 2 a + m 2 b - n) (m 3 a) 2 (spt m a b) (m 2 a - n) g (m 15 0) 7 (9 * m 0 0) = a := by
      have h := hM7 0 (by decide) (by decide)
      rw [Int.add_zero] at h
      rw [h]; rfl
    rw [up2_s, up2_a _ _ _ _ (by decide), up2_a _ _ _ _ (by decide), up2_a _ _ _ _ (by decide), e7, mkp_s (by decide), up2_s, mkp_c (by decide) (by decide), chn_j (by decide) (by omega)]
  · show up2 (mkp m 5 (m 2 a + m 2 b - n) (m 3 a) 2 (spt m a b) (m 2 a - n) g (m 15 0)) 9 (m 0 0) n K j = lay2 (up2 (np m 5 (m 2 a + m 2 b - n) (m 3 a)) 9 (m 0 0) n) (m 0 0) (fun i => if i = 0 then a else b) 2 K j
    by_cases h9 : K = 9
    · subst h9
      rw [lay2_o (by decide), up_ite, up_ite, mkp_c (by decide) (by decide), chn_o rfl, np_r (by decide)]
    · rw [up2_a _ _ _ _ h9]
      by_cases h15 : K = 15
      · subst h15
        rw [lay2_o (by decide), up2_a _ _ _ _ (by decide), np_r (by decide)]
        unfold mkp
        rw [kept_o (by decide), up_ite, up2_a _ _ _ _ (by decide), tks_r (by decide) (by decide) (by decide), up2_a _ _ _ _ (by decide), pcm_c (by decide), chn_o rfl]
        split
        · next e => rw [e]
        · rfl
      · exact mkp_e (pk := fun i => if i = 0 then a else b) (S0 := up2 (np m 5 (m 2 a + m 2 b - n) (m 3 a)) 9 (m 0 0) n) ⟨by decide, by decide⟩ (fun i i0 i1 => rfl) (fun K' _ h _ j => up2_a _ _ _ _ h _) hK h9 h15 j
set_option maxRecDepth 20000 in
theorem c_lay {m : Nat → Int → Int} {f : Nat → Int → UInt32} {a : Nat → Int → Nat} {t : zT} (hR : CA m f a t) {k : Int} (hk : zi k) {q : Int} (hq : zi q) {u : Int} (hu : zi u) (hW : WF m f) (hX : XI m f) : zM yX3_lay cX3_lay 6 (some .int) 3 5 47 [vR (rf a 0 0), vI k, vI q, vI u] t (fun r t1 => r = some (vI (a_lay m k q u)) ∧ CP (a 0 0) (s_lay m k q u, f) t1) := by
  refine zM.of2 [(0, vR (rf a 0 0)), (1, vI k), (2, vI q), (3, vI u)] (by decide +kernel) rfl (Nat.le_of_ble_eq_true rfl) ?_
  obtain ⟨hk1, hk2⟩ := hk
  obtain ⟨hq1, hq2⟩ := hq
  obtain ⟨hu1, hu2⟩ := hu
  have hn1 := hW.n.1
  have hn2 := hW.n.2
  have h60 := hX.1.1
  have h62 := hX.1.2.1
  have h64 := hX.1.2.2
  obtain ⟨hg1, hg2, hg3⟩ := hW.2.2.1
  have hlm := lmin_b (m := m) (n := (m 15 0).toNat) (fun i a b => by have := hg3 i a (by omega); have := hW.b this.1 this.2; omega)
  refine z_iload_n 1 dX3_lay_0 rfl rfl ?_
  refine z_iconst 2 dX3_lay_1 rfl ?_
  refine z_icmp_lt 20 5 dX3_lay_2 (by decide) rfl ⟨by omega, by omega⟩ ⟨by omega, by omega⟩ (fun h2 => ?_) (fun h2 => ?_)
  · refine z_bipush 22 dX3_lay_20 rfl ⟨by decide, by decide⟩ ?_
    refine z_ireturn rfl dX3_lay_22 (by decide) (by decide) ?_
    have hno : ¬ lay_ok m k q u := fun hh => by obtain ⟨g1, g2, g3, g4, g5, g6, g7, g8, g9, g10⟩ := hh; omega
    refine ⟨congrArg (fun z => some (vI z)) ?_, ?_⟩
    · unfold a_lay cif; rw [if_neg hno]
    · have e : s_lay m k q u = m := if_neg hno
      rw [e]; exact CP.rf hR hX
  · refine z_iload_n 6 dX3_lay_5 rfl rfl ?_
    refine z_iconst 7 dX3_lay_6 rfl ?_
    refine z_icmp_gt 20 10 dX3_lay_7 (by decide) rfl ⟨by omega, by omega⟩ ⟨by omega, by omega⟩ (fun h7 => ?_) (fun h7 => ?_)
    · refine z_bipush 22 dX3_lay_20 rfl ⟨by decide, by decide⟩ ?_
      refine z_ireturn rfl dX3_lay_22 (by decide) (by decide) ?_
      have hno : ¬ lay_ok m k q u := fun hh => by obtain ⟨g1, g2, g3, g4, g5, g6, g7, g8, g9, g10⟩ := hh; omega
      refine ⟨congrArg (fun z => some (vI z)) ?_, ?_⟩
      · unfold a_lay cif; rw [if_neg hno]
      · have e : s_lay m k q u = m := if_neg hno
        rw [e]; exact CP.rf hR hX
    · refine z_iload_n 11 dX3_lay_10 rfl rfl ?_
      refine z_iconst 12 dX3_lay_11 rfl ?_
      refine z_icmp_lt 20 15 dX3_lay_12 (by decide) rfl ⟨by omega, by omega⟩ ⟨by omega, by omega⟩ (fun h12 => ?_) (fun h12 => ?_)
      · refine z_bipush 22 dX3_lay_20 rfl ⟨by decide, by decide⟩ ?_
        refine z_ireturn rfl dX3_lay_22 (by decide) (by decide) ?_
        have hno : ¬ lay_ok m k q u := fun hh => by obtain ⟨g1, g2, g3, g4, g5, g6, g7, g8, g9, g10⟩ := hh; omega
        refine ⟨congrArg (fun z => some (vI z)) ?_, ?_⟩
        · unfold a_lay cif; rw [if_neg hno]
        · have e : s_lay m k q u = m := if_neg hno
          rw [e]; exact CP.rf hR hX
      · refine z_iload_n 16 dX3_lay_15 rfl rfl ?_
        refine z_iconst 17 dX3_lay_16 rfl ?_
        refine z_icmp_le 23 20 dX3_lay_17 (by decide) rfl ⟨by omega, by omega⟩ ⟨by omega, by omega⟩ (fun h17 => ?_) (fun h17 => ?_)
        · refine z_iload_n 24 dX3_lay_23 rfl rfl ?_
          refine z_if_lt 43 27 dX3_lay_24 (by decide) rfl ⟨by omega, by omega⟩ (fun h24 => ?_) (fun h24 => ?_)
          · refine z_bipush 45 dX3_lay_43 rfl ⟨by decide, by decide⟩ ?_
            refine z_ireturn rfl dX3_lay_45 (by decide) (by decide) ?_
            have hno : ¬ lay_ok m k q u := fun hh => by obtain ⟨g1, g2, g3, g4, g5, g6, g7, g8, g9, g10⟩ := hh; omega
            refine ⟨congrArg (fun z => some (vI z)) ?_, ?_⟩
            · unfold a_lay cif; rw [if_neg hno]
            · have e : s_lay m k q u = m := if_neg hno
              rw [e]; exact CP.rf hR hX
          · refine z_iload_n 28 dX3_lay_27 rfl rfl ?_
            refine z_sipush 31 dX3_lay_28 rfl ⟨by decide, by decide⟩ ?_
            refine z_icmp_gt 43 34 dX3_lay_31 (by decide) rfl ⟨by omega, by omega⟩ ⟨by omega, by omega⟩ (fun h31 => ?_) (fun h31 => ?_)
            · refine z_bipush 45 dX3_lay_43 rfl ⟨by decide, by decide⟩ ?_
              refine z_ireturn rfl dX3_lay_45 (by decide) (by decide) ?_
              have hno : ¬ lay_ok m k q u := fun hh => by obtain ⟨g1, g2, g3, g4, g5, g6, g7, g8, g9, g10⟩ := hh; omega
              refine ⟨congrArg (fun z => some (vI z)) ?_, ?_⟩
              · unfold a_lay cif; rw [if_neg hno]
              · have e : s_lay m k q u = m := if_neg hno
                rw [e]; exact CP.rf hR hX
            · refine z_aload_n 35 dX3_lay_34 rfl rfl ?_
              refine c_getI 38 0 hR fl_X3_40 (by decide) (show cLive m 0 0 from l0) (show _ = m 0 0 from rfl) dX3_lay_35 rfl ?_
              refine z_bipush 40 dX3_lay_38 rfl ⟨by decide, by decide⟩ ?_
              refine z_icmp_lt 46 43 dX3_lay_40 (by decide) rfl ⟨by omega, by omega⟩ ⟨by omega, by omega⟩ (fun h40 => ?_) (fun h40 => ?_)
              · refine z_iload_n 47 dX3_lay_46 rfl rfl ?_
                refine z_aload_n 48 dX3_lay_47 rfl rfl ?_
                refine c_getI 51 15 hR fl_X3_77 (by decide) (show cLive m 0 0 from l0) (show _ = m 15 0 from rfl) dX3_lay_48 rfl ?_
                refine z_callS 54 [_, _] la_X3_canHold ml_X3_80 sm_X3_canHold (c_canHold ⟨by omega, by omega⟩ ⟨by omega, by omega⟩) rfl rfl (by decide) (Nat.le_of_ble_eq_true rfl) (by decide) (by decide) dX3_lay_51 rfl (fun r t hq => ?_)
                obtain ⟨z, rfl, hz1, hz2, hz3, rfl⟩ := hq
                refine z_if_eq 66 57 dX3_lay_54 (by decide) rfl ⟨by omega, by omega⟩ (fun h54 => ?_) (fun h54 => ?_)
                · refine z_bipush 68 dX3_lay_66 rfl ⟨by decide, by decide⟩ ?_
                  refine z_ireturn rfl dX3_lay_68 (by decide) (by decide) ?_
                  have hno : ¬ lay_ok m k q u := fun hh => by obtain ⟨g1, g2, g3, g4, g5, g6, g7, g8, g9, g10⟩ := hh; unfold lay_ct at g8; first | omega | (have := hy3.mpr g9; omega)
                  refine ⟨congrArg (fun z => some (vI z)) ?_, ?_⟩
                  · unfold a_lay cif; rw [if_neg hno]
                  · have e : s_lay m k q u = m := if_neg hno
                    rw [e]; exact CP.rf hR hX
                · refine z_aload_n 58 dX3_lay_57 rfl rfl ?_
                  refine z_iload_n 59 dX3_lay_58 rfl rfl ?_
                  refine z_iload_n 60 dX3_lay_59 rfl rfl ?_
                  refine z_callV 63 [_, _] la_X3_pickedFit ml_X3_84 im_X3_pickedFit se_X3_pickedFit (hR.lv 0 0 (by decide) l0).1 (hR.lv 0 0 (by decide) l0).2.1 (by decide) rfl rfl (c_pickedFit hR ⟨by omega, by omega⟩ ⟨by omega, by omega⟩ hW hX ⟨by omega, by omega⟩ ⟨by omega, by omega⟩) rfl rfl (by decide) (Nat.le_of_ble_eq_true rfl) (by decide) (by decide) dX3_lay_60 rfl (fun r t hq => ?_)
                  obtain ⟨y, rfl, hy1, hy2, hy3, hR⟩ := hq
                  refine z_if_ne 69 66 dX3_lay_63 (by decide) rfl ⟨by omega, by omega⟩ (fun h63 => ?_) (fun h63 => ?_)
                  · refine z_aload_n 70 dX3_lay_69 rfl rfl ?_
                    refine z_callV 73 [] la_X3_shortestPicked ml_X3_87 im_X3_shortestPicked se_X3_shortestPicked (hR.lv 0 0 (by decide) l0).1 (hR.lv 0 0 (by decide) l0).2.1 (by decide) rfl rfl (c_shortestPicked hR hW hX) rfl rfl (by decide) (Nat.le_of_ble_eq_true rfl) (by decide) (by decide) dX3_lay_70 rfl (fun r t hq => ?_)
                    obtain ⟨rfl, hR⟩ := hq
                    have hzz := Int.mul_nonneg (show 0 ≤ lmin m (m 15 0).toNat by omega) (show 0 ≤ 1000 - u by omega)
                    have hzy : lmin m (m 15 0).toNat * (1000 - u) ≤ 2000 * 1000 := Int.mul_le_mul (by omega) (by omega) (by omega) (by decide)
                    refine z_sipush 76 dX3_lay_73 rfl ⟨by decide, by decide⟩ ?_
                    refine z_iload_n 77 dX3_lay_76 rfl rfl ?_
                    refine z_isub 78 dX3_lay_77 rfl ?_
                    refine z_imul 79 dX3_lay_78 rfl ?_
                    refine z_sipush 82 dX3_lay_79 rfl ⟨by decide, by decide⟩ ?_
                    refine z_idiv 83 dX3_lay_82 rfl ⟨by omega, by omega⟩ ⟨by omega, by omega⟩ (by omega) ?_
                    refine z_top (w := vI (lay_n m u)) (congrArg vI (Int.tdiv_eq_ediv_of_nonneg hzz)) ?_
                    have hln : lay_n m u = lmin m (m 15 0).toNat * (1000 - u) / 1000 := rfl
                    refine z_istore (lv' := [(4, _), (0, _), (1, _), (2, _), (3, _)]) 85 dX3_lay_83 rfl rfl rfl ?_
                    refine z_iload 87 dX3_lay_85 rfl rfl ?_
                    refine z_iconst 88 dX3_lay_87 rfl ?_
                    refine z_icmp_ge 94 91 dX3_lay_88 (by decide) rfl ⟨by omega, by omega⟩ ⟨by omega, by omega⟩ (fun h88 => ?_) (fun h88 => ?_)
                    · have hRa := hR
                      refine z_new 97 nw_X3_9 (by decide) (by decide) dX3_lay_94 rfl (fun q94 hq94 => ?_)
                      replace hR := hR.new (kd := 1) (n := 0) hq94
                      have hqn := sA_new (t := t) (q := q94) (kd := 1) (n := 0)
                      have hRb := hR
                      refine z_dup 98 dX3_lay_97 rfl rfl ?_
                      refine z_aload_n 99 dX3_lay_98 rfl rfl ?_
                      refine c_getI 102 0 hR fl_X3_40 (by decide) (show cLive m 0 0 from l0) (show _ = (m 0 0) from rfl) dX3_lay_99 rfl ?_
                      refine z_iload_n 103 dX3_lay_102 rfl rfl ?_
                      refine z_iload 105 dX3_lay_103 rfl rfl ?_
                      refine z_iload_n 106 dX3_lay_105 rfl rfl ?_
                      refine z_aload_n 107 dX3_lay_106 rfl rfl ?_
                      refine z_callV 110 [] la_X3_pickedParts ml_X3_91 im_X3_pickedParts se_X3_pickedParts (hR.lv 0 0 (by decide) l0).1 (hR.lv 0 0 (by decide) l0).2.1 (by decide) rfl rfl (c_pickedParts rfl hR hW hX) rfl rfl (by decide) (Nat.le_of_ble_eq_true rfl) (by decide) (by decide) dX3_lay_107 rfl (fun r t hq => ?_)
                      obtain ⟨qp, rfl, ⟨p1, p2, p3, p4, p5, p6⟩, hR⟩ := hq
                      have h0 := p6 q94 hqn.1
                      have hR0 := hR
                      refine z_callI 113 [_, _, _, _, _] la_X1_init mn_X3_45 im_X1_init rfl (c_Piece_init h0.1 (h0.2.1.trans hqn.2.1)) rfl rfl (by decide) (Nat.le_of_ble_eq_true rfl) (by decide) (by decide) dX3_lay_110 rfl (fun r0 t hq => ?_)
                      obtain ⟨rfl, q1, q2, q3, hPI⟩ := hq
                      have hR1 := CA.piece (pt := lpt m) (c := m 15 0) hR0 (by omega) ⟨by omega, by omega⟩ hPI ⟨p2, fun e => p1 (e ▸ hqn.1), p3, p4⟩ (fun i i0 i1 => by unfold lpt; rw [if_pos i1]; have g := hg3 i i0 i1; exact ⟨p5 i i0 i1, by omega⟩) h0.1 ⟨(h0.2.2.2.1 6).trans (hqn.2.2.2.1 6), (h0.2.2.2.1 7).trans (hqn.2.2.2.1 7), (h0.2.2.2.2.1 5).trans (hqn.2.2.2.2.1 5), h0.2.2.1.trans hqn.2.2.1⟩ (hRa.fresh hq94) (hRb.fresh p1)
                      rw [hX.1.1] at hR1
                      rw [← pcm_id55] at hR1
                      replace hR := hR1
                      clear hR1 hR0
                      rw [← rf_this (a := a) (N := m 0 0) (q := q94) (r := qp) (q1 := q1) (q2 := q2) (q3 := q3)]
                      rw [show vR (some q94) = vR (rf (pca a (m 0 0) q94 qp q1 q2 q3) 6 (m 0 0)) by rw [rf_new (by omega)]]
                      refine z_astore (lv' := [(5, _), (4, _), (0, _), (1, _), (2, _), (3, _)]) 115 dX3_lay_113 rfl rfl rfl ?_
                      have hptl : ∀ i, 0 ≤ i → i < m 15 0 → 0 ≤ lpt m i ∧ lpt m i < m 0 0 := fun i i0 i1 => by unfold lpt; rw [if_pos i1]; exact hg3 i i0 i1
                      have hok1 := pk_ok (m := m) (k := k) (l := lay_n m u) (w := q) (c := m 15 0) (pt := lpt m) (v := 0) (by omega) ⟨by omega, by omega⟩ hptl
                      refine z_aload 117 dX3_lay_115 rfl rfl ?_
                      refine z_callS 120 [_] la_X3_takeParts ml_X3_95 sm_X3_takeParts (c_takeParts hR hok1.1 hok1.2.1 pk_56 hok1.2.2) rfl rfl (by decide) (Nat.le_of_ble_eq_true rfl) (by decide) (by decide) dX3_lay_117 rfl (fun r t hq => ?_)
                      obtain ⟨rfl, hR⟩ := hq
                      rw [pk_6] at hR
                      refine z_iload_n 121 dX3_lay_120 rfl rfl ?_
                      refine z_iconst 122 dX3_lay_121 rfl ?_
                      refine z_icmp_ne 137 125 dX3_lay_122 (by decide) rfl ⟨by omega, by omega⟩ ⟨by omega, by omega⟩ (fun h122 => ?_) (fun h122 => ?_)
                      · have hX50 := up2_id (tks (up2 (pcm m (m 0 0) (m 0 0) k (lay_n m u) q (m 15 0) (lpt m)) 55 (m 0 0) 0) (m 0 0) (m 15 0).toNat) 50 (m 0 0)
                        rw [← hX50] at hR
                        refine z_aload_n 138 dX3_lay_137 rfl rfl ?_
                        refine z_iconst 139 dX3_lay_138 rfl ?_
                        refine c_putI 142 15 hR fl_X3_77 (by decide) (show cLive m 0 0 from l0) dX3_lay_139 rfl (fun t hR => ?_)
                        refine z_aload_n 143 dX3_lay_142 rfl rfl ?_
                        refine z_aload 145 dX3_lay_143 rfl rfl ?_
                        refine z_callV 148 [_] la_X3_keep ml_X3_56 im_X3_keep se_X3_keep (hR.lv 0 0 (by decide) l0).1 (hR.lv 0 0 (by decide) l0).2.1 (by decide) rfl rfl (c_keep hR ⟨by omega, by omega⟩ mkp_keep.1 mkp_keep.2.1 mkp_keep.2.2) rfl rfl (by decide) (Nat.le_of_ble_eq_true rfl) (by decide) (by decide) dX3_lay_145 rfl (fun r t hq => ?_)
                        obtain ⟨rfl, hR⟩ := hq
                        refine z_ireturn rfl dX3_lay_148 (by decide) (by decide) ?_
                        have hlk : lay_ok m k q u := ⟨by omega, by omega, by omega, by omega, by omega, by omega, by omega, by unfold lay_ct; omega, hy3.mp (by omega), by omega⟩
                        refine ⟨congrArg (fun z => some (vI z)) ?_, ?_⟩
                        · unfold a_lay cif; rw [if_pos hlk]
                        · exact cp_lay hW hX hlk (by first | (rw [if_pos (by omega)]) | (rw [if_neg (by omega)]; omega)) (pca_0 (Or.inr (by decide))) hR
                      · refine z_aload 127 dX3_lay_125 rfl rfl ?_
                        refine z_dup 128 dX3_lay_127 rfl rfl ?_
                        refine c_getI 131 50 hR fl_X3_53 (by decide) (tks_live (by omega)) (show _ = (tks (up2 (pcm m (m 0 0) (m 0 0) k (lay_n m u) q (m 15 0) (lpt m)) 55 (m 0 0) 0) (m 0 0) (m 15 0).toNat 50 (m 0 0)) from rfl) dX3_lay_128 rfl ?_
                        refine z_iload 133 dX3_lay_131 rfl rfl ?_
                        refine z_iadd 134 dX3_lay_133 rfl ?_
                        refine c_putI 137 50 hR fl_X3_53 (by decide) (tks_live (by omega)) dX3_lay_134 rfl (fun t hR => ?_)
                        refine z_aload_n 138 dX3_lay_137 rfl rfl ?_
                        refine z_iconst 139 dX3_lay_138 rfl ?_
                        refine c_putI 142 15 hR fl_X3_77 (by decide) (show cLive m 0 0 from l0) dX3_lay_139 rfl (fun t hR => ?_)
                        refine z_aload_n 143 dX3_lay_142 rfl rfl ?_
                        refine z_aload 145 dX3_lay_143 rfl rfl ?_
                        refine z_callV 148 [_] la_X3_keep ml_X3_56 im_X3_keep se_X3_keep (hR.lv 0 0 (by decide) l0).1 (hR.lv 0 0 (by decide) l0).2.1 (by decide) rfl rfl (c_keep hR ⟨by omega, by omega⟩ mkp_keep.1 mkp_keep.2.1 mkp_keep.2.2) rfl rfl (by decide) (Nat.le_of_ble_eq_true rfl) (by decide) (by decide) dX3_lay_145 rfl (fun r t hq => ?_)
                        obtain ⟨rfl, hR⟩ := hq
                        refine z_ireturn rfl dX3_lay_148 (by decide) (by decide) ?_
                        have hlk : lay_ok m k q u := ⟨by omega, by omega, by omega, by omega, by omega, by omega, by omega, by unfold lay_ct; omega, hy3.mp (by omega), by omega⟩
                        refine ⟨congrArg (fun z => some (vI z)) ?_, ?_⟩
                        · unfold a_lay cif; rw [if_pos hlk]
                        · exact cp_lay hW hX hlk (by first | (rw [if_pos (by omega)]) | (rw [if_neg (by omega)]; omega)) (pca_0 (Or.inr (by decide))) hR
                    · refine z_bipush 93 dX3_lay_91 rfl ⟨by decide, by decide⟩ ?_
                      refine z_ireturn rfl dX3_lay_93 (by decide) (by decide) ?_
                      have hno : ¬ lay_ok m k q u := fun hh => by obtain ⟨g1, g2, g3, g4, g5, g6, g7, g8, g9, g10⟩ := hh; omega
                      refine ⟨congrArg (fun z => some (vI z)) ?_, ?_⟩
                      · unfold a_lay cif; rw [if_neg hno]
                      · have e : s_lay m k q u = m := if_neg hno
                        rw [e]; exact CP.rf hR hX
                  · refine z_bipush 68 dX3_lay_66 rfl ⟨by decide, by decide⟩ ?_
                    refine z_ireturn rfl dX3_lay_68 (by decide) (by decide) ?_
                    have hno : ¬ lay_ok m k q u := fun hh => by obtain ⟨g1, g2, g3, g4, g5, g6, g7, g8, g9, g10⟩ := hh; unfold lay_ct at g8; first | omega | (have := hy3.mpr g9; omega)
                    refine ⟨congrArg (fun z => some (vI z)) ?_, ?_⟩
                    · unfold a_lay cif; rw [if_neg hno]
                    · have e : s_lay m k q u = m := if_neg hno
                      rw [e]; exact CP.rf hR hX
              · refine z_bipush 45 dX3_lay_43 rfl ⟨by decide, by decide⟩ ?_
                refine z_ireturn rfl dX3_lay_45 (by decide) (by decide) ?_
                have hno : ¬ lay_ok m k q u := fun hh => by obtain ⟨g1, g2, g3, g4, g5, g6, g7, g8, g9, g10⟩ := hh; omega
                refine ⟨congrArg (fun z => some (vI z)) ?_, ?_⟩
                · unfold a_lay cif; rw [if_neg hno]
                · have e : s_lay m k q u = m := if_neg hno
                  rw [e]; exact CP.rf hR hX
        · refine z_bipush 22 dX3_lay_20 rfl ⟨by decide, by decide⟩ ?_
          refine z_ireturn rfl dX3_lay_22 (by decide) (by decide) ?_
          have hno : ¬ lay_ok m k q u := fun hh => by obtain ⟨g1, g2, g3, g4, g5, g6, g7, g8, g9, g10⟩ := hh; omega
          refine ⟨congrArg (fun z => some (vI z)) ?_, ?_⟩
          · unfold a_lay cif; rw [if_neg hno]
          · have e : s_lay m k q u = m := if_neg hno
            rw [e]; exact CP.rf hR hX
theorem raw2 {t : zT} {q : Nat} {v1 v2 : Option Nat} (hq : q ∉ tL t) : q ∈ tL (sP (sP (sA t q 9 2) q 0 v1) q 1 v2) ∧ tK (sP (sP (sA t q 9 2) q 0 v1) q 1 v2) q = 9 ∧ tN (sP (sP (sA t q 9 2) q 0 v1) q 1 v2) q = 2 ∧ tP (sP (sP (sA t q 9 2) q 0 v1) q 1 v2) q 0 = v1 ∧ tP (sP (sP (sA t q 9 2) q 0 v1) q 1 v2) q 1 = v2 := by
  have h := sA_new (t := t) (q := q) (kd := 9) (n := 2)
  refine ⟨h.1, h.2.1, h.2.2.1, ?_, up2_s _ _ _ _⟩
  exact (up2_k _ _ _ _ _ (by decide)).trans (up2_s _ _ _ _)
theorem pcm_l2 {m : Nat → Int → Int} {N n k l w c j : Int} {pt : Int → Int} (h : 0 ≤ j ∧ j ≤ N) : cLive (pcm m N n k l w c pt) 6 j := ⟨h.1, by
  show j < pcm m N n k l w c pt 60 0
  rw [pcm_60]; omega⟩
theorem spl_id {m : Nat → Int → Int} {k l w c v : Int} {pt : Int → Int} {n : Nat} : up2 (up2 (tks (up2 (pcm m (m 0 0) (m 0 0) k l w c pt) 55 (m 0 0) v) (m 0 0) n) 50 (m 0 0) (tks (up2 (pcm m (m 0 0) (m 0 0) k l w c pt) 55 (m 0 0) v) (m 0 0) n 50 (m 0 0))) 15 0 (m 15 0) = tks (up2 (pcm m (m 0 0) (m 0 0) k l w c pt) 55 (m 0 0) v) (m 0 0) n := by
  rw [up2_id]
  have h : tks (up2 (pcm m (m 0 0) (m 0 0) k l w c pt) 55 (m 0 0) v) (m 0 0) n 15 0 = m 15 0 := by
    rw [tks_r (by decide) (by decide) (by decide), up2_a _ _ _ _ (by decide), pcm_c (by decide), chn_o rfl]
  have e := up2_id (tks (up2 (pcm m (m 0 0) (m 0 0) k l w c pt) 55 (m 0 0) v) (m 0 0) n) 15 0
  rw [h] at e
  exact e
set_option maxRecDepth 20000 in
theorem c_splice {m : Nat → Int → Int} {f : Nat → Int → UInt32} {a : Nat → Int → Nat} {t : zT} (hR : CA m f a t) {u : Int} (hu : zi u) {w : Int} (hw : zi w) {n : Int} (hn : zi n) (hW : WF m f) (hX : XI m f) : zM yX3_splice cX3_splice 9 (some .int) 2 5 40 [vR (rf a 0 0), vI u, vI w, vI n] t (fun r t1 => r = some (vI (a_spl m u w n)) ∧ CP (a 0 0) (s_spl m u w n, f) t1) := by
  refine zM.of2 [(0, vR (rf a 0 0)), (1, vI u), (2, vI w), (3, vI n)] (by decide +kernel) rfl (Nat.le_of_ble_eq_true rfl) ?_
  obtain ⟨hu1, hu2⟩ := hu
  obtain ⟨hw1, hw2⟩ := hw
  obtain ⟨hn1, hn2⟩ := hn
  have hn1 := hW.n.1
  have hn2 := hW.n.2
  have h60 := hX.1.1
  have h62 := hX.1.2.1
  have h64 := hX.1.2.2
  refine z_aload_n 1 dX3_splice_0 rfl rfl ?_
  refine z_iload_n 2 dX3_splice_1 rfl rfl ?_
  refine z_callV 5 [_] la_X3_freePiece ml_X3_70 im_X3_freePiece se_X3_freePiece (hR.lv 0 0 (by decide) l0).1 (hR.lv 0 0 (by decide) l0).2.1 (by decide) rfl rfl (c_freePiece hR ⟨by omega, by omega⟩ hW hX) rfl rfl (by decide) (Nat.le_of_ble_eq_true rfl) (by decide) (by decide) dX3_splice_2 rfl (fun r t hq => ?_)
  obtain ⟨v, rfl, hv, hR⟩ := hq
  refine z_astore (lv' := [(4, _), (0, _), (1, _), (2, _), (3, _)]) 7 dX3_splice_5 rfl rfl rfl ?_
  refine z_aload_n 8 dX3_splice_7 rfl rfl ?_
  refine z_iload_n 9 dX3_splice_8 rfl rfl ?_
  refine z_callV 12 [_] la_X3_freePiece ml_X3_70 im_X3_freePiece se_X3_freePiece (hR.lv 0 0 (by decide) l0).1 (hR.lv 0 0 (by decide) l0).2.1 (by decide) rfl rfl (c_freePiece hR ⟨by omega, by omega⟩ hW hX) rfl rfl (by decide) (Nat.le_of_ble_eq_true rfl) (by decide) (by decide) dX3_splice_9 rfl (fun r t hq => ?_)
  obtain ⟨v2, rfl, hv2, hR⟩ := hq
  refine z_astore (lv' := [(5, _), (4, _), (0, _), (1, _), (2, _), (3, _)]) 14 dX3_splice_12 rfl rfl rfl ?_
  refine z_aload 16 dX3_splice_14 rfl rfl ?_
  refine c_ifnull 31 19 dX3_splice_16 (by decide) rfl  (fun h16 => ?_) (fun h16 => ?_)
  · refine z_bipush 33 dX3_splice_31 rfl ⟨by decide, by decide⟩ ?_
    refine z_ireturn rfl dX3_splice_33 (by decide) (by decide) ?_
    have hno : spl_no m u w n := by unfold spl_no free thick; first | omega | (unfold thick at hy3; omega) | (unfold thick at hy3 hx3; omega)
    refine ⟨congrArg (fun z => some (vI z)) ?_, ?_⟩
    · unfold a_spl cif; rw [if_pos hno]
    · have e : s_spl m u w n = m := if_pos hno
      rw [e]; exact CP.rf hR hX
  · obtain rfl : u = v := by omega
    have hBu := hW.b (p := u) (by omega) (by omega)
    refine z_aload 21 dX3_splice_19 rfl rfl ?_
    refine c_ifnull 31 24 dX3_splice_21 (by decide) rfl  (fun h21 => ?_) (fun h21 => ?_)
    · refine z_bipush 33 dX3_splice_31 rfl ⟨by decide, by decide⟩ ?_
      refine z_ireturn rfl dX3_splice_33 (by decide) (by decide) ?_
      have hno : spl_no m u w n := by unfold spl_no free thick; first | omega | (unfold thick at hy3; omega) | (unfold thick at hy3 hx3; omega)
      refine ⟨congrArg (fun z => some (vI z)) ?_, ?_⟩
      · unfold a_spl cif; rw [if_pos hno]
      · have e : s_spl m u w n = m := if_pos hno
        rw [e]; exact CP.rf hR hX
    · obtain rfl : w = v2 := by omega
      have hBw := hW.b (p := w) (by omega) (by omega)
      refine z_aload 26 dX3_splice_24 rfl rfl ?_
      refine z_aload 28 dX3_splice_26 rfl rfl ?_
      refine c_acmp_ne 34 31 hR (by decide) (show u < m 60 0 by omega) (show w < m 60 0 by omega) dX3_splice_28 (by decide) rfl  (fun h28 => ?_) (fun h28 => ?_)
      · refine z_aload 36 dX3_splice_34 rfl rfl ?_
        refine z_callS 39 [_] la_X3_canBeSpliced ml_X3_131 sm_X3_canBeSpliced (c_canBeSpliced hR hW hX ⟨by omega, by omega⟩) rfl rfl (by decide) (Nat.le_of_ble_eq_true rfl) (by decide) (by decide) dX3_splice_36 rfl (fun r t hq => ?_)
        obtain ⟨y, rfl, hy1, hy2, hy3, hR⟩ := hq
        refine z_if_eq 63 42 dX3_splice_39 (by decide) rfl ⟨by omega, by omega⟩ (fun h39 => ?_) (fun h39 => ?_)
        · refine z_bipush 65 dX3_splice_63 rfl ⟨by decide, by decide⟩ ?_
          refine z_ireturn rfl dX3_splice_65 (by decide) (by decide) ?_
          have hno : spl_no m u w n := by unfold spl_no free thick; first | omega | (unfold thick at hy3; omega) | (unfold thick at hy3 hx3; omega)
          refine ⟨congrArg (fun z => some (vI z)) ?_, ?_⟩
          · unfold a_spl cif; rw [if_pos hno]
          · have e : s_spl m u w n = m := if_pos hno
            rw [e]; exact CP.rf hR hX
        · refine z_aload 44 dX3_splice_42 rfl rfl ?_
          refine z_callS 47 [_] la_X3_canBeSpliced ml_X3_131 sm_X3_canBeSpliced (c_canBeSpliced hR hW hX ⟨by omega, by omega⟩) rfl rfl (by decide) (Nat.le_of_ble_eq_true rfl) (by decide) (by decide) dX3_splice_44 rfl (fun r t hq => ?_)
          obtain ⟨x, rfl, hx1, hx2, hx3, hR⟩ := hq
          refine z_if_eq 63 50 dX3_splice_47 (by decide) rfl ⟨by omega, by omega⟩ (fun h47 => ?_) (fun h47 => ?_)
          · refine z_bipush 65 dX3_splice_63 rfl ⟨by decide, by decide⟩ ?_
            refine z_ireturn rfl dX3_splice_65 (by decide) (by decide) ?_
            have hno : spl_no m u w n := by unfold spl_no free thick; first | omega | (unfold thick at hy3; omega) | (unfold thick at hy3 hx3; omega)
            refine ⟨congrArg (fun z => some (vI z)) ?_, ?_⟩
            · unfold a_spl cif; rw [if_pos hno]
            · have e : s_spl m u w n = m := if_pos hno
              rw [e]; exact CP.rf hR hX
          · refine z_aload 52 dX3_splice_50 rfl rfl ?_
            refine c_getI 55 3 hR fl_X3_106 (by decide) (show cLive m 6 u from lp ⟨by omega, by omega⟩) (show _ = m 3 u from rfl) dX3_splice_52 rfl ?_
            refine z_aload 57 dX3_splice_55 rfl rfl ?_
            refine c_getI 60 3 hR fl_X3_106 (by decide) (show cLive m 6 w from lp ⟨by omega, by omega⟩) (show _ = m 3 w from rfl) dX3_splice_57 rfl ?_
            refine z_icmp_eq 66 63 dX3_splice_60 (by decide) rfl ⟨by omega, by omega⟩ ⟨by omega, by omega⟩ (fun h60 => ?_) (fun h60 => ?_)
            · refine z_iload_n 67 dX3_splice_66 rfl rfl ?_
              refine z_iconst 68 dX3_splice_67 rfl ?_
              refine z_icmp_lt 88 71 dX3_splice_68 (by decide) rfl ⟨by omega, by omega⟩ ⟨by omega, by omega⟩ (fun h68 => ?_) (fun h68 => ?_)
              · refine z_bipush 90 dX3_splice_88 rfl ⟨by decide, by decide⟩ ?_
                refine z_ireturn rfl dX3_splice_90 (by decide) (by decide) ?_
                have hno : spl_no m u w n := by unfold spl_no free thick; first | omega | (unfold thick at hy3; omega) | (unfold thick at hy3 hx3; omega)
                refine ⟨congrArg (fun z => some (vI z)) ?_, ?_⟩
                · unfold a_spl cif; rw [if_pos hno]
                · have e : s_spl m u w n = m := if_pos hno
                  rw [e]; exact CP.rf hR hX
              · refine z_iload_n 72 dX3_splice_71 rfl rfl ?_
                refine z_aload 74 dX3_splice_72 rfl rfl ?_
                refine c_getI 77 2 hR fl_X3_113 (by decide) (show cLive m 6 u from lp ⟨by omega, by omega⟩) (show _ = m 2 u from rfl) dX3_splice_74 rfl ?_
                refine z_aload 79 dX3_splice_77 rfl rfl ?_
                refine c_getI 82 2 hR fl_X3_113 (by decide) (show cLive m 6 w from lp ⟨by omega, by omega⟩) (show _ = m 2 w from rfl) dX3_splice_79 rfl ?_
                refine z_min 85 ⟨by omega, by omega⟩ ⟨by omega, by omega⟩ ml_X3_116 la_min1 la_math la_min2 (by omega) (Nat.le_of_ble_eq_true rfl) (by decide) (by decide) dX3_splice_82 rfl ?_
                refine z_icmp_le 91 88 dX3_splice_85 (by decide) rfl ⟨by omega, by omega⟩ ⟨by omega, by omega⟩ (fun h85 => ?_) (fun h85 => ?_)
                · refine z_aload 93 dX3_splice_91 rfl rfl ?_
                  refine c_getI 96 2 hR fl_X3_113 (by decide) (show cLive m 6 u from lp ⟨by omega, by omega⟩) (show _ = m 2 u from rfl) dX3_splice_93 rfl ?_
                  refine z_aload 98 dX3_splice_96 rfl rfl ?_
                  refine c_getI 101 2 hR fl_X3_113 (by decide) (show cLive m 6 w from lp ⟨by omega, by omega⟩) (show _ = m 2 w from rfl) dX3_splice_98 rfl ?_
                  refine z_iadd 102 dX3_splice_101 rfl ?_
                  refine z_iload_n 103 dX3_splice_102 rfl rfl ?_
                  refine z_isub 104 dX3_splice_103 rfl ?_
                  refine z_istore (lv' := [(6, _), (5, _), (4, _), (0, _), (1, _), (2, _), (3, _)]) 106 dX3_splice_104 rfl rfl rfl ?_
                  refine z_iload 108 dX3_splice_106 rfl rfl ?_
                  refine z_sipush 111 dX3_splice_108 rfl ⟨by decide, by decide⟩ ?_
                  refine z_icmp_gt 123 114 dX3_splice_111 (by decide) rfl ⟨by omega, by omega⟩ ⟨by omega, by omega⟩ (fun h111 => ?_) (fun h111 => ?_)
                  · refine z_bipush 125 dX3_splice_123 rfl ⟨by decide, by decide⟩ ?_
                    refine z_ireturn rfl dX3_splice_125 (by decide) (by decide) ?_
                    have hno : spl_no m u w n := by unfold spl_no free thick; first | omega | (unfold thick at hy3; omega) | (unfold thick at hy3 hx3; omega)
                    refine ⟨congrArg (fun z => some (vI z)) ?_, ?_⟩
                    · unfold a_spl cif; rw [if_pos hno]
                    · have e : s_spl m u w n = m := if_pos hno
                      rw [e]; exact CP.rf hR hX
                  · refine z_aload_n 115 dX3_splice_114 rfl rfl ?_
                    refine c_getI 118 0 hR fl_X3_40 (by decide) (show cLive m 0 0 from l0) (show _ = m 0 0 from rfl) dX3_splice_115 rfl ?_
                    refine z_bipush 120 dX3_splice_118 rfl ⟨by decide, by decide⟩ ?_
                    refine z_icmp_lt 126 123 dX3_splice_120 (by decide) rfl ⟨by omega, by omega⟩ ⟨by omega, by omega⟩ (fun h120 => ?_) (fun h120 => ?_)
                    · have hRa := hR
                      refine z_iconst 127 dX3_splice_126 rfl ?_
                      refine z_anew (ci := 1) 130 2 rfl (by first | decide | omega) (by decide) rfl cl_X3_9 (by decide) (by decide) dX3_splice_127 rfl (fun q127 hq127 => ?_)
                      replace hR := hR.new (kd := 9) (n := 2) hq127
                      have hn127 := sA_new (t := t) (q := q127) (kd := 9) (n := 2)
                      refine z_dup 131 dX3_splice_130 rfl rfl ?_
                      refine z_iconst 132 dX3_splice_131 rfl ?_
                      refine z_aload 134 dX3_splice_132 rfl rfl ?_
                      refine c_rast 135 hR ⟨hn127.1, hn127.2.1, hn127.2.2.1⟩ (show cLive m 6 u from lp ⟨by omega, by omega⟩) (by decide) ⟨by decide, by decide⟩ dX3_splice_134 rfl ?_
                      replace hR := hR.raw (hRa.fresh hq127) 0 (rf a 6 u)
                      refine z_dup 136 dX3_splice_135 rfl rfl ?_
                      refine z_iconst 137 dX3_splice_136 rfl ?_
                      refine z_aload 139 dX3_splice_137 rfl rfl ?_
                      refine c_rast 140 hR ⟨hn127.1, hn127.2.1, hn127.2.2.1⟩ (show cLive m 6 w from lp ⟨by omega, by omega⟩) (by decide) ⟨by decide, by decide⟩ dX3_splice_139 rfl ?_
                      replace hR := hR.raw (hRa.fresh hq127) 1 (rf a 6 w)
                      refine z_astore (lv' := [(7, _), (6, _), (5, _), (4, _), (0, _), (1, _), (2, _), (3, _)]) 142 dX3_splice_140 rfl rfl rfl ?_
                      have hRb := hR
                      refine z_new 145 nw_X3_9 (by decide) (by decide) dX3_splice_142 rfl (fun q142 hq142 => ?_)
                      replace hR := hR.new (kd := 1) (n := 0) hq142
                      refine z_dup 146 dX3_splice_145 rfl rfl ?_
                      refine z_aload_n 147 dX3_splice_146 rfl rfl ?_
                      refine c_getI 150 0 hR fl_X3_40 (by decide) (show cLive m 0 0 from l0) (show _ = m 0 0 from rfl) dX3_splice_147 rfl ?_
                      refine z_iconst 151 dX3_splice_150 rfl ?_
                      refine z_iload 153 dX3_splice_151 rfl rfl ?_
                      refine z_aload 155 dX3_splice_153 rfl rfl ?_
                      refine c_getI 158 3 hR fl_X3_106 (by decide) (show cLive m 6 u from lp ⟨by omega, by omega⟩) (show _ = m 3 u from rfl) dX3_splice_155 rfl ?_
                      refine z_aload 160 dX3_splice_158 rfl rfl ?_
                      have hR0 := hR
                      have hq2 := raw2 (v1 := rf a 6 u) (v2 := rf a 6 w) hq127
                      have hqn := sA_new (t := sP (sP (sA t q127 9 2) q127 0 (rf a 6 u)) q127 1 (rf a 6 w)) (q := q142) (kd := 1) (n := 0)
                      have hs127 := sA_old (kd := 1) (n := 0) hq2.1 hq142
                      refine z_callI 163 [_, _, _, _, _] la_X1_init mn_X3_45 im_X1_init rfl (c_Piece_init hqn.1 hqn.2.1) rfl rfl (by decide) (Nat.le_of_ble_eq_true rfl) (by decide) (by decide) dX3_splice_160 rfl (fun r0 t hq => ?_)
                      obtain ⟨rfl, q1, q2, q3, hPI⟩ := hq
                      have hR1 := CA.piece (pt := spt m u w) (c := 2) hR0 (by omega) ⟨by omega, by omega⟩ hPI ⟨hs127.1, fun e => hq142 (e ▸ hq2.1), hs127.2.1.trans hq2.2.1, hs127.2.2.1.trans hq2.2.2.1⟩ (fun i i0 i1 => by have hi : i = 0 ∨ i = 1 := (by omega); rcases hi with rfl | rfl; exact ⟨(hs127.2.2.2.2.2 0).trans hq2.2.2.2.1, by show u < m 60 0; omega⟩; exact ⟨(hs127.2.2.2.2.2 1).trans hq2.2.2.2.2, by show w < m 60 0; omega⟩) hqn.1 ⟨hqn.2.2.2.1 6, hqn.2.2.2.1 7, hqn.2.2.2.2.1 5, hqn.2.2.1⟩ (hRb.fresh hq142) (hRa.fresh hq127)
                      rw [hX.1.1] at hR1
                      replace hR1 := hR1
                      replace hR := hR1
                      clear hR1 hR0
                      rw [← rf_this (a := a) (N := m 0 0) (q := q142) (r := q127) (q1 := q1) (q2 := q2) (q3 := q3)]
                      rw [show vR (some q142) = vR (rf (pca a (m 0 0) q142 q127 q1 q2 q3) 6 (m 0 0)) by rw [rf_new (by omega)]]
                      rw [← rf_pca (a := a) (N := m 0 0) (v := u) (q := q142) (r := q127) (q1 := q1) (q2 := q2) (q3 := q3) (by omega)]
                      refine z_astore (lv' := [(8, _), (7, _), (6, _), (5, _), (4, _), (0, _), (1, _), (2, _), (3, _)]) 165 dX3_splice_163 rfl rfl rfl ?_
                      refine z_aload 167 dX3_splice_165 rfl rfl ?_
                      refine z_aload 169 dX3_splice_167 rfl rfl ?_
                      have e169 : pcm m (m 0 0) (m 0 0) 5 (m 2 u + m 2 w - n) (m 3 u) 2 (spt m u w) 2 u = m 2 u := (pcm_c (by decide) _).trans (chn_j (by decide) (by omega))
                      have hl169 : cLive (pcm m (m 0 0) (m 0 0) 5 (m 2 u + m 2 w - n) (m 3 u) 2 (spt m u w)) 6 u := pcm_l2 ⟨by omega, by omega⟩
                      refine c_getI 172 2 hR fl_X3_113 (by decide) hl169 (show _ = (m 2 u) from e169) dX3_splice_169 rfl ?_
                      refine z_iload_n 173 dX3_splice_172 rfl rfl ?_
                      refine z_isub 174 dX3_splice_173 rfl ?_
                      refine c_putI 177 55 hR fl_X3_134 (by decide) (pcm_l2 ⟨by omega, by omega⟩) dX3_splice_174 rfl (fun t hR => ?_)
                      have hptl : ∀ i, 0 ≤ i → i < 2 → 0 ≤ spt m u w i ∧ spt m u w i < m 0 0 := fun i i0 i1 => by unfold spt; rw [if_pos i1]; split <;> omega
                      have hok1 := pk_ok (m := m) (k := 5) (l := m 2 u + m 2 w - n) (w := m 3 u) (c := 2) (pt := spt m u w) (v := m 2 u - n) (by omega) ⟨by decide, by decide⟩ hptl
                      refine z_aload 179 dX3_splice_177 rfl rfl ?_
                      refine z_callS 182 [_] la_X3_takeParts ml_X3_95 sm_X3_takeParts (c_takeParts hR hok1.1 hok1.2.1 pk_56 hok1.2.2) rfl rfl (by decide) (Nat.le_of_ble_eq_true rfl) (by decide) (by decide) dX3_splice_179 rfl (fun r t hq => ?_)
                      obtain ⟨rfl, hR⟩ := hq
                      rw [pk_6] at hR
                      rw [← spl_id] at hR
                      refine z_aload_n 183 dX3_splice_182 rfl rfl ?_
                      refine z_aload 185 dX3_splice_183 rfl rfl ?_
                      refine z_callV 188 [_] la_X3_keep ml_X3_56 im_X3_keep se_X3_keep (hR.lv 0 0 (by decide) l0).1 (hR.lv 0 0 (by decide) l0).2.1 (by decide) rfl rfl (c_keep hR ⟨by omega, by omega⟩ mkp_keep.1 mkp_keep.2.1 mkp_keep.2.2) rfl rfl (by decide) (Nat.le_of_ble_eq_true rfl) (by decide) (by decide) dX3_splice_185 rfl (fun r t hq => ?_)
                      obtain ⟨rfl, hR⟩ := hq
                      refine z_ireturn rfl dX3_splice_188 (by decide) (by decide) ?_
                      have hno : ¬ spl_no m u w n := by unfold spl_no free; unfold thick at *; omega
                      refine ⟨congrArg (fun z => some (vI z)) ?_, ?_⟩
                      · unfold a_spl cif; rw [if_neg hno]
                      · exact cp_spl hW hX hno rfl (pca_0 (Or.inr (by decide))) hR
                    · refine z_bipush 125 dX3_splice_123 rfl ⟨by decide, by decide⟩ ?_
                      refine z_ireturn rfl dX3_splice_125 (by decide) (by decide) ?_
                      have hno : spl_no m u w n := by unfold spl_no free thick; first | omega | (unfold thick at hy3; omega) | (unfold thick at hy3 hx3; omega)
                      refine ⟨congrArg (fun z => some (vI z)) ?_, ?_⟩
                      · unfold a_spl cif; rw [if_pos hno]
                      · have e : s_spl m u w n = m := if_pos hno
                        rw [e]; exact CP.rf hR hX
                · refine z_bipush 90 dX3_splice_88 rfl ⟨by decide, by decide⟩ ?_
                  refine z_ireturn rfl dX3_splice_90 (by decide) (by decide) ?_
                  have hno : spl_no m u w n := by unfold spl_no free thick; first | omega | (unfold thick at hy3; omega) | (unfold thick at hy3 hx3; omega)
                  refine ⟨congrArg (fun z => some (vI z)) ?_, ?_⟩
                  · unfold a_spl cif; rw [if_pos hno]
                  · have e : s_spl m u w n = m := if_pos hno
                    rw [e]; exact CP.rf hR hX
            · refine z_bipush 65 dX3_splice_63 rfl ⟨by decide, by decide⟩ ?_
              refine z_ireturn rfl dX3_splice_65 (by decide) (by decide) ?_
              have hno : spl_no m u w n := by unfold spl_no free thick; first | omega | (unfold thick at hy3; omega) | (unfold thick at hy3 hx3; omega)
              refine ⟨congrArg (fun z => some (vI z)) ?_, ?_⟩
              · unfold a_spl cif; rw [if_pos hno]
              · have e : s_spl m u w n = m := if_pos hno
                rw [e]; exact CP.rf hR hX
      · refine z_bipush 33 dX3_splice_31 rfl ⟨by decide, by decide⟩ ?_
        refine z_ireturn rfl dX3_splice_33 (by decide) (by decide) ?_
        have hno : spl_no m u w n := by unfold spl_no free thick; first | omega | (unfold thick at hy3; omega) | (unfold thick at hy3 hx3; omega)
        refine ⟨congrArg (fun z => some (vI z)) ?_, ?_⟩
        · unfold a_spl cif; rw [if_pos hno]
        · have e : s_spl m u w n = m := if_pos hno
          rw [e]; exact CP.rf hR hX
