/-! A NEW PIECE -/
def pcm (m : Nat → Int → Int) (N n k l w c : Int) (pt : Int → Int) : Nat → Int → Int := fun K i =>
  if K = 7 ∧ 9 * N ≤ i ∧ i < 9 * N + 9 then pt (i - 9 * N)
  else if (K = 52 ∨ K = 53 ∨ K = 54) ∧ 8 * N ≤ i ∧ i < 8 * N + 8 then 0
  else up2 (up2 (up2 (up2 (up2 (up2 (up2 (up2 (up2 (up2 (up2 m 60 0 (N + 1)) 6 N c) 56 N n) 1 N k) 2 N l) 3 N w) 55 N 0) 50 N 0) 4 N 0) 8 N (-1)) 10 N (-1) K i
def pca (a : Nat → Int → Nat) (N : Int) (q r q1 q2 q3 : Nat) : Nat → Int → Nat := fun s j => if j = N then (if s = 6 then q else if s = 7 then r else if s = 8 then q1 else if s = 9 then q2 else if s = 10 then q3 else a s j) else a s j
/-- a slot that is no array of a piece -/
theorem pcm_s {m : Nat → Int → Int} {N n k l w c : Int} {pt : Int → Int} {K : Nat} (h : K ≠ 7 ∧ K ≠ 52 ∧ K ≠ 53 ∧ K ≠ 54) (i : Int) : pcm m N n k l w c pt K i = up2 (up2 (up2 (up2 (up2 (up2 (up2 (up2 (up2 (up2 (up2 m 60 0 (N + 1)) 6 N c) 56 N n) 1 N k) 2 N l) 3 N w) 55 N 0) 50 N 0) 4 N 0) 8 N (-1)) 10 N (-1) K i := by
  unfold pcm
  rw [if_neg (by omega), if_neg (by omega)]
theorem pcm_7 {m : Nat → Int → Int} {N n k l w c : Int} {pt : Int → Int} (i : Int) : pcm m N n k l w c pt 7 i = if 9 * N ≤ i ∧ i < 9 * N + 9 then pt (i - 9 * N) else m 7 i := by
  unfold pcm
  by_cases h : 9 * N ≤ i ∧ i < 9 * N + 9
  · rw [if_pos ⟨rfl, h⟩, if_pos h]
  · rw [if_neg (fun q => h q.2), if_neg (by omega), if_neg h]; rfl
theorem pcm_5 {m : Nat → Int → Int} {N n k l w c : Int} {pt : Int → Int} {K : Nat} (hK : K = 52 ∨ K = 53 ∨ K = 54) (i : Int) : pcm m N n k l w c pt K i = if 8 * N ≤ i ∧ i < 8 * N + 8 then 0 else m K i := by
  unfold pcm
  rw [if_neg (by omega)]
  by_cases h : 8 * N ≤ i ∧ i < 8 * N + 8
  · rw [if_pos ⟨hK, h⟩, if_pos h]
  · rw [if_neg (fun q => h q.2), if_neg h]
    rcases hK with rfl | rfl | rfl <;> rfl
theorem ctab_p0' : ∀ K, K < 80 → ((cTab K).1 = 0 ∧ 6 ≤ cS K ∧ cS K ≤ 10) → (cC K = 0 ∧ K ∈ [56, 1, 2, 3, 55, 50, 4, 8, 10]) ∨ (cC K = 8 ∧ cO K = 0 ∧ K ∈ [52, 53, 54]) := by decide +kernel
theorem ctab_p0 (K : Nat) (h1 : K < 80) (h2 : (cTab K).1 = 0) (h3 : 6 ≤ cS K) (h4 : cS K ≤ 10) : (cC K = 0 ∧ (K = 56 ∨ K = 1 ∨ K = 2 ∨ K = 3 ∨ K = 55 ∨ K = 50 ∨ K = 4 ∨ K = 8 ∨ K = 10)) ∨ (cC K = 8 ∧ cO K = 0 ∧ (K = 52 ∨ K = 53 ∨ K = 54)) := by
  have h := ctab_p0' K h1 ⟨h2, h3, h4⟩
  simp only [List.mem_cons, List.not_mem_nil, or_false] at h
  exact h
theorem ctab_p1 : ∀ K, K < 80 → (cTab K).1 = 1 → 6 ≤ cS K → cS K ≤ 10 → K = 51 := by decide +kernel
theorem ctab_p2 : ∀ K, K < 80 → (cTab K).1 = 2 → 6 ≤ cS K → cS K ≤ 10 → K = 7 := by decide +kernel
theorem ctab_q' : ∀ K, K < 80 → (cTab K).1 = 0 ∨ (cTab K).1 = 2 → ¬ (6 ≤ cS K ∧ cS K ≤ 10) → K ∉ [7, 52, 53, 54, 60, 6, 56, 1, 2, 3, 55, 50, 4, 8, 10] := by decide +kernel
theorem ctab_q (K : Nat) (h1 : K < 80) (h2 : (cTab K).1 = 0 ∨ (cTab K).1 = 2) (h3 : ¬ (6 ≤ cS K ∧ cS K ≤ 10)) : K ≠ 7 ∧ K ≠ 52 ∧ K ≠ 53 ∧ K ≠ 54 ∧ K ≠ 60 ∧ K ≠ 6 ∧ K ≠ 56 ∧ K ≠ 1 ∧ K ≠ 2 ∧ K ≠ 3 ∧ K ≠ 55 ∧ K ≠ 50 ∧ K ≠ 4 ∧ K ≠ 8 ∧ K ≠ 10 := by
  have h := ctab_q' K h1 h2 h3
  simp only [List.mem_cons, List.not_mem_nil, or_false, not_or] at h
  exact h
theorem ctab_r' : ∀ K, K < 80 → (((cTab K).1 = 0 ∨ (cTab K).1 = 2) ∧ 6 ≤ cS K ∧ cS K ≤ 10) → (cC K = 0 ∧ K ∉ [7, 52, 53, 54, 60, 6]) ∨ (cC K = 8 ∧ K ∈ [52, 53, 54]) ∨ (cC K = 9 ∧ K = 7 ∧ cS K = 7) := by decide +kernel
theorem ctab_q2 (K : Nat) (h1 : K < 80) (h2 : (cTab K).1 = 0 ∨ (cTab K).1 = 2) (h3 : 6 ≤ cS K ∧ cS K ≤ 10) : (cC K = 0 ∧ K ≠ 7 ∧ K ≠ 52 ∧ K ≠ 53 ∧ K ≠ 54 ∧ K ≠ 60 ∧ K ≠ 6) ∨ (cC K = 8 ∧ (K = 52 ∨ K = 53 ∨ K = 54)) ∨ (cC K = 9 ∧ K = 7 ∧ cS K = 7) := by
  have h := ctab_r' K h1 ⟨h2, h3⟩
  simp only [List.mem_cons, List.not_mem_nil, or_false, not_or] at h
  exact h
theorem CA.piece {m : Nat → Int → Int} {f : Nat → Int → UInt32} {a : Nat → Int → Nat} {t t1 : zT} (h : CA m f a t) {q r q1 q2 q3 : Nat} {n k l w c : Int} {pt : Int → Int} (h0 : 0 ≤ m 60 0) (hc : 0 ≤ c ∧ c ≤ 9)
    (hPI : PI t t1 q q1 q2 q3 n k l w (some r)) (hr : r ∈ tL t ∧ r ≠ q ∧ tK t r = 9 ∧ tN t r = c.toNat) (hpt : ∀ i, 0 ≤ i → i < c → tP t r i = rf a 6 (pt i) ∧ pt i < m 60 0) (hq : q ∈ tL t) (hq6 : tI t q 6 = 0 ∧ tI t q 7 = 0 ∧ tF t q 5 = 0 ∧ tN t q = 0)
    (hnq : ∀ s j, s < 15 → cLive m s j → a s j ≠ q) (hnr : ∀ s j, s < 15 → cLive m s j → a s j ≠ r) : CA (pcm m (m 60 0) n k l w c pt) (up2 f 51 (m 60 0) 0) (pca a (m 60 0) q r q1 q2 q3) t1 := by
  obtain ⟨⟨n1, n2, n3, n12, n13, n23⟩, ⟨m0, m1, m2, m3⟩, hsame, ⟨c1, c2, c3, c4, c5, c6, c7, c8, c9, c10, c11, c12, c13, c14, c15, c16⟩, hnew⟩ := hPI
  have hsr := hsame r hr.1 hr.2.1
  have hlive : ∀ s j, s < 15 → cLive m s j → a s j ∈ tL t := fun s j hs hl => (h.lv s j hs hl).1
  have eg : ∀ s, pca a (m 60 0) q r q1 q2 q3 s (m 60 0) = if s = 6 then q else if s = 7 then r else if s = 8 then q1 else if s = 9 then q2 else if s = 10 then q3 else a s (m 60 0) := fun s => if_pos rfl
  have e6 : pca a (m 60 0) q r q1 q2 q3 6 (m 60 0) = q := eg 6
  have e7 : pca a (m 60 0) q r q1 q2 q3 7 (m 60 0) = r := eg 7
  have e8 : pca a (m 60 0) q r q1 q2 q3 8 (m 60 0) = q1 := eg 8
  have e9 : pca a (m 60 0) q r q1 q2 q3 9 (m 60 0) = q2 := eg 9
  have e10 : pca a (m 60 0) q r q1 q2 q3 10 (m 60 0) = q3 := eg 10
  have hs5 : ∀ s, 6 ≤ s → s ≤ 10 → s = 6 ∨ s = 7 ∨ s = 8 ∨ s = 9 ∨ s = 10 := fun s _ _ => by omega
  refine CA.add (lo := 6) (hi := 10) (c := 60) (Or.inl ⟨rfl, rfl, rfl⟩) h h0 (fun s j hs hl => hsame _ (hlive s j hs hl) (hnq s j hs hl)) ?_ ?_ (fun j j0 j1 => ?_) (fun _ => ?_) (fun s j hn => ?_) (fun s s0 s1 => ?_) (fun s s' s0 s1 s0' s1' e => ?_) (fun K hK hT j i hi => ?_) (fun K hK hT j i hi => ?_) (fun K hK hT g1 g2 i hi => ?_) (fun K hK hT g1 g2 i hi => ?_) (fun K hK hT g1 g2 i hi => ?_) (fun L hL g1 g2 => ?_)
  · rw [pcm_s (by decide)]; rfl
  · intro k' hk' hk2
    rcases hk' with rfl | rfl | rfl
    · exact absurd rfl hk2
    · rw [pcm_s (by decide)]; rfl
    · rw [pcm_s (by decide)]; rfl
  · rw [pcm_s (by decide)]
    show up2 m 6 (m 60 0) c 6 j = m 6 j
    exact up2_k _ _ _ _ _ (by omega)
  · rw [pcm_s (by decide)]
    have : up2 m 6 (m 60 0) c 6 (m 60 0) = c := up2_s _ _ _ _
    show 0 ≤ up2 m 6 (m 60 0) c 6 (m 60 0) ∧ up2 m 6 (m 60 0) c 6 (m 60 0) ≤ 9
    rw [this]; exact hc
  · unfold pca
    by_cases e : j = m 60 0
    · rw [if_pos e, if_neg (fun q => hn ⟨by omega, by omega, e⟩), if_neg (fun q => hn ⟨by omega, by omega, e⟩), if_neg (fun q => hn ⟨by omega, by omega, e⟩), if_neg (fun q => hn ⟨by omega, by omega, e⟩), if_neg (fun q => hn ⟨by omega, by omega, e⟩)]
    · rw [if_neg e]
  · rcases hs5 s s0 s1 with rfl | rfl | rfl | rfl | rfl
    · rw [e6]
      exact ⟨m0, c1, c2.trans hq6.2.2.2, fun s' j' hs' hl' => hnq s' j' hs' hl'⟩
    · rw [e7]
      refine ⟨hsr.1, hsr.2.1.trans hr.2.2.1, hsr.2.2.1.trans (hr.2.2.2.trans ?_), fun s' j' hs' hl' => hnr s' j' hs' hl'⟩
      show c.toNat = (pcm m (m 60 0) n k l w c pt 6 (m 60 0)).toNat
      rw [pcm_s (by decide)]
      exact (congrArg Int.toNat (up2_s m 6 (m 60 0) c)).symm
    · rw [e8]
      obtain ⟨g1, g2, -⟩ := hnew q1 (Or.inl rfl)
      exact ⟨m1, g1, g2, fun s' j' hs' hl' e => n1 (e ▸ hlive s' j' hs' hl')⟩
    · rw [e9]
      obtain ⟨g1, g2, -⟩ := hnew q2 (Or.inr (Or.inl rfl))
      exact ⟨m2, g1, g2, fun s' j' hs' hl' e => n2 (e ▸ hlive s' j' hs' hl')⟩
    · rw [e10]
      obtain ⟨g1, g2, -⟩ := hnew q3 (Or.inr (Or.inr rfl))
      exact ⟨m3, g1, g2, fun s' j' hs' hl' e => n3 (e ▸ hlive s' j' hs' hl')⟩
  · have hqr := hr.2.1
    have x1 : q ≠ q1 := fun e => n1 (e ▸ hq)
    have x2 : q ≠ q2 := fun e => n2 (e ▸ hq)
    have x3 : q ≠ q3 := fun e => n3 (e ▸ hq)
    have y1 : r ≠ q1 := fun e => n1 (e ▸ hr.1)
    have y2 : r ≠ q2 := fun e => n2 (e ▸ hr.1)
    have y3 : r ≠ q3 := fun e => n3 (e ▸ hr.1)
    rcases hs5 s s0 s1 with rfl | rfl | rfl | rfl | rfl <;> rcases hs5 s' s0' s1' with rfl | rfl | rfl | rfl | rfl <;> simp only [e6, e7, e8, e9, e10] at e <;> first | rfl | (exfalso; first | exact hqr e | exact hqr e.symm | exact x1 e | exact x1 e.symm | exact x2 e | exact x2 e.symm | exact x3 e | exact x3 e.symm | exact y1 e | exact y1 e.symm | exact y2 e | exact y2 e.symm | exact y3 e | exact y3 e.symm | exact n12 e | exact n12 e.symm | exact n13 e | exact n13 e.symm | exact n23 e | exact n23 e.symm)
  · by_cases hg : 6 ≤ cS K ∧ cS K ≤ 10
    · have hjN : j < m 60 0 := by
        have := hi.1.2
        unfold cN at this
        rw [if_neg (by omega), if_pos (by omega)] at this
        exact this
      rcases ctab_q2 K hK hT hg with ⟨g0, g1, g2, g3, g4, g5, g6⟩ | ⟨g0, g1⟩ | ⟨g0, g1, g2⟩
      · rw [pcm_s ⟨g1, g2, g3, g4⟩, g0]
        show up2 _ 10 (m 60 0) (-1) K j = m K j
        have hj : j ≠ m 60 0 := by omega
        rw [up2_k _ _ _ _ _ hj, up2_k _ _ _ _ _ hj, up2_k _ _ _ _ _ hj, up2_k _ _ _ _ _ hj, up2_k _ _ _ _ _ hj, up2_k _ _ _ _ _ hj, up2_k _ _ _ _ _ hj, up2_k _ _ _ _ _ hj, up2_k _ _ _ _ _ hj, up2_k _ _ _ _ _ hj, up2_a _ _ _ _ g5]
      · have hl := hi.2.2.2 (by omega)
        have hl8 : ∀ j, cLn m (cS K) j = 8 := fun j => by rcases g1 with rfl | rfl | rfl <;> rfl
        rw [hl8] at hl
        have hi0 := hi.2.1
        rw [pcm_5 g1, g0]
        have hcx : cix 8 j i = 8 * j + i := rfl
        rw [hcx, if_neg (by omega)]
      · have hl := hi.2.2.2 (by omega)
        rw [g2] at hl
        have hl9 : i < ((m 6 j).toNat : Int) := hl
        have h9 := h.n9 j ⟨hi.1.1, hjN⟩
        have hi0 := hi.2.1
        rw [g0, g1, pcm_7]
        have hcx : cix 9 j i = 9 * j + i := rfl
        rw [hcx, if_neg (by omega)]
    · obtain ⟨g1, g2, g3, g4, g5, g6, g7, g8, g9, g10, g11, g12, g13, g14, g15⟩ := ctab_q K hK hT hg
      rw [pcm_s ⟨g1, g2, g3, g4⟩, up2_a _ _ _ _ g15, up2_a _ _ _ _ g14, up2_a _ _ _ _ g13, up2_a _ _ _ _ g12, up2_a _ _ _ _ g11, up2_a _ _ _ _ g10, up2_a _ _ _ _ g9, up2_a _ _ _ _ g8, up2_a _ _ _ _ g7, up2_a _ _ _ _ g6, up2_a _ _ _ _ g5]
  · by_cases hg : 6 ≤ cS K ∧ cS K ≤ 10
    · have hK51 := ctab_p1 K hK hT hg.1 hg.2
      subst hK51
      have hjN : j < m 60 0 := hi.1.2
      exact up2_k _ _ _ _ _ (by show j ≠ _; omega)
    · exact up2_a _ _ _ _ (fun e => hg (by rw [e]; decide)) _
  · rcases ctab_p0 K hK hT g1 g2 with ⟨z0, z⟩ | ⟨z0, z1, z⟩
    · have hi0 := hi.2.2.1 z0
      rw [pcm_s (by omega), z0, hi0]
      have hcx : ∀ j, cix 0 j 0 = j := fun _ => rfl
      rw [hcx]
      rcases z with rfl | rfl | rfl | rfl | rfl | rfl | rfl | rfl | rfl
      · show tI t1 (pca a (m 60 0) q r q1 q2 q3 6 (m 60 0)) 0 = _
        rw [e6, c3]; exact (up2_s _ 56 (m 60 0) n).symm
      · show tI t1 (pca a (m 60 0) q r q1 q2 q3 6 (m 60 0)) 1 = _
        rw [e6, c4]; exact (up2_s _ 1 (m 60 0) k).symm
      · show tI t1 (pca a (m 60 0) q r q1 q2 q3 6 (m 60 0)) 2 = _
        rw [e6, c5]; exact (up2_s _ 2 (m 60 0) l).symm
      · show tI t1 (pca a (m 60 0) q r q1 q2 q3 6 (m 60 0)) 3 = _
        rw [e6, c6]; exact (up2_s _ 3 (m 60 0) w).symm
      · show tI t1 (pca a (m 60 0) q r q1 q2 q3 6 (m 60 0)) 6 = _
        rw [e6, c7, hq6.1]; exact (up2_s _ 55 (m 60 0) 0).symm
      · show tI t1 (pca a (m 60 0) q r q1 q2 q3 6 (m 60 0)) 7 = _
        rw [e6, c8, hq6.2.1]; exact (up2_s _ 50 (m 60 0) 0).symm
      · show tI t1 (pca a (m 60 0) q r q1 q2 q3 6 (m 60 0)) 8 = _
        rw [e6, c9]; exact (up2_s _ 4 (m 60 0) 0).symm
      · show tI t1 (pca a (m 60 0) q r q1 q2 q3 6 (m 60 0)) 9 = _
        rw [e6, c10]; exact (up2_s _ 8 (m 60 0) (-1)).symm
      · show tI t1 (pca a (m 60 0) q r q1 q2 q3 6 (m 60 0)) 10 = _
        rw [e6, c11]; exact (up2_s _ 10 (m 60 0) (-1)).symm
    · have hl := hi.2.2.2 (by omega)
      have hi0 := hi.2.1
      rw [pcm_5 z, z0]
      have hcx : cix 8 (m 60 0) i = 8 * m 60 0 + i := rfl
      have hl8 : ∀ j, cLn (pcm m (m 60 0) n k l w c pt) (cS K) j = 8 := fun j => by rcases z with rfl | rfl | rfl <;> rfl
      rw [hl8] at hl
      rw [hcx, if_pos (by omega)]
      rcases z with rfl | rfl | rfl
      · show tI t1 (pca a (m 60 0) q r q1 q2 q3 8 (m 60 0)) _ = _
        rw [e8]; exact (hnew q1 (Or.inl rfl)).2.2 _
      · show tI t1 (pca a (m 60 0) q r q1 q2 q3 9 (m 60 0)) _ = _
        rw [e9]; exact (hnew q2 (Or.inr (Or.inl rfl))).2.2 _
      · show tI t1 (pca a (m 60 0) q r q1 q2 q3 10 (m 60 0)) _ = _
        rw [e10]; exact (hnew q3 (Or.inr (Or.inr rfl))).2.2 _
  · have hK51 := ctab_p1 K hK hT g1 g2
    subst hK51
    have hi0 : i = 0 := hi.2.2.1 rfl
    subst hi0
    show tF t1 (pca a (m 60 0) q r q1 q2 q3 6 (m 60 0)) 5 = up2 f 51 (m 60 0) 0 51 (m 60 0)
    rw [e6, c12, hq6.2.2.1, up2_s]
  · have hK7 := ctab_p2 K hK hT g1 g2
    subst hK7
    have hl : i < ((pcm m (m 60 0) n k l w c pt 6 (m 60 0)).toNat : Int) := hi.2.2.2 (by decide)
    have e6c : pcm m (m 60 0) n k l w c pt 6 (m 60 0) = c := by rw [pcm_s (by decide)]; exact up2_s m 6 (m 60 0) c
    rw [e6c] at hl
    have hi0 := hi.2.1
    show tP t1 (pca a (m 60 0) q r q1 q2 q3 7 (m 60 0)) (((0 : Nat) : Int) + i) = rf a 6 (pcm m (m 60 0) n k l w c pt 7 (9 * m 60 0 + i)) ∧ pcm m (m 60 0) n k l w c pt 7 (9 * m 60 0 + i) < m 60 0
    rw [e7, hsr.2.2.2.2.2, pcm_7, if_pos (by omega), show 9 * m 60 0 + i - 9 * m 60 0 = i by omega, show ((0 : Nat) : Int) + i = i by omega]
    exact hpt i hi0 (by omega)
  · have hLc : L = (6, 4, 7) ∨ L = (6, 11, 8) ∨ L = (6, 12, 9) ∨ L = (6, 13, 10) := by
      simp [cLinks] at hL
      rcases hL with rfl | rfl | rfl | rfl | rfl | rfl | rfl | rfl | rfl | rfl | rfl <;> first | (exfalso; revert g1 g2; decide) | decide
    rcases hLc with rfl | rfl | rfl | rfl
    · show tP t1 (pca a (m 60 0) q r q1 q2 q3 6 (m 60 0)) 4 = some (pca a (m 60 0) q r q1 q2 q3 7 (m 60 0))
      rw [e6, e7]; exact c13
    · show tP t1 (pca a (m 60 0) q r q1 q2 q3 6 (m 60 0)) 11 = some (pca a (m 60 0) q r q1 q2 q3 8 (m 60 0))
      rw [e6, e8]; exact c14
    · show tP t1 (pca a (m 60 0) q r q1 q2 q3 6 (m 60 0)) 12 = some (pca a (m 60 0) q r q1 q2 q3 9 (m 60 0))
      rw [e6, e9]; exact c15
    · show tP t1 (pca a (m 60 0) q r q1 q2 q3 6 (m 60 0)) 13 = some (pca a (m 60 0) q r q1 q2 q3 10 (m 60 0))
      rw [e6, e10]; exact c16
