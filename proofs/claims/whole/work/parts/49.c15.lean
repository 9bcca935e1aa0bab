/-! LAID OR SPLICED: the reference's way and the class's -/
def lay2 (S0 : Nat → Int → Int) (N : Int) (pk : Int → Int) : Nat → Nat → Int → Int
  | 0 => S0
  | j + 1 => putin (lay2 S0 N pk j) N (pk j)
theorem lays_2 {m : Nat → Int → Int} {kd n q : Int} (j : Nat) : lays m kd n q j = lay2 (np m kd n q) (m 0 0) (m 16) j := by
  induction j with
  | zero => rfl
  | succ j ih => show putin _ _ _ = putin _ _ _; rw [ih]
section L2
variable {S0 P : Nat → Int → Int} {N : Int} {pk : Int → Int}
theorem lay2_o {j K : Nat} (h : K ≠ 4 ∧ K ≠ 6 ∧ K ≠ 7 ∧ K ≠ 8) (i : Int) : lay2 S0 N pk j K i = S0 K i := by
  induction j with
  | zero => rfl
  | succ j ih => show putin _ _ _ _ _ = _; rw [putin_r h]; exact ih
theorem lay2_6 (h0 : S0 6 N = 0) {j : Nat} (i : Int) : lay2 S0 N pk j 6 i = if i = N then (j : Int) else S0 6 i := by
  induction j with
  | zero => show S0 6 i = _; split; (next e => rw [e]; exact h0); rfl
  | succ j ih =>
    show putin _ _ _ _ _ = _
    unfold putin
    rw [up2_a _ _ _ _ (by decide), up2_a _ _ _ _ (by decide), up_ite]
    by_cases e : i = N
    · rw [if_pos e, if_pos e]
      have e2 := ih
      rw [e, if_pos rfl] at e2
      rw [e2]; omega
    · rw [if_neg e, if_neg e, up2_a _ _ _ _ (by decide), ih, if_neg e]
theorem lay2_7 (h0 : S0 6 N = 0) {j : Nat} (i : Int) : lay2 S0 N pk j 7 i = if 9 * N ≤ i ∧ i < 9 * N + j then pk (i - 9 * N) else S0 7 i := by
  induction j with
  | zero => show S0 7 i = _; rw [if_neg (by omega)]
  | succ j ih =>
    show putin _ _ _ _ _ = _
    unfold putin
    rw [up2_a _ _ _ _ (by decide), up2_a _ _ _ _ (by decide), up2_a _ _ _ _ (by decide), up_ite, lay2_6 h0, if_pos rfl, ih]
    by_cases e : i = 9 * N + (j : Int)
    · rw [if_pos e, if_pos (by omega), e]; congr 1; omega
    · rw [if_neg e]
      by_cases e2 : 9 * N ≤ i ∧ i < 9 * N + (j : Int)
      · rw [if_pos e2, if_pos (by omega)]
      · rw [if_neg e2, if_neg (by omega)]
theorem lay2_48 {J : Nat} (hP : ∀ i : Nat, i < J → P 7 (9 * N + i) = pk i) (h4 : ∀ i, P 4 i = S0 4 i) (h8 : ∀ i, P 8 i = S0 8 i) : ∀ j : Nat, j ≤ J → (∀ i, tks P N j 4 i = lay2 S0 N pk j 4 i) ∧ ∀ i, tks P N j 8 i = lay2 S0 N pk j 8 i := by
  intro j
  induction j with
  | zero => intro _; exact ⟨h4, h8⟩
  | succ j ih =>
    intro hj
    obtain ⟨i4, i8⟩ := ih (by omega)
    have hq := hP j (by omega)
    constructor
    · intro i
      show up2 (up2 (up2 (tks P N j) 4 (P 7 (9 * N + j)) 1) 8 _ _) 50 _ _ 4 i = putin (lay2 S0 N pk j) N (pk j) 4 i
      unfold putin
      rw [up2_a _ _ _ _ (by decide), up2_a _ _ _ _ (by decide), up_ite, up2_a _ _ _ _ (by decide), up_ite, hq, i4, up2_a _ _ _ _ (by decide), up2_a _ _ _ _ (by decide)]
    · intro i
      show up2 (up2 (up2 (tks P N j) 4 _ 1) 8 (P 7 (9 * N + j)) N) 50 _ _ 8 i = putin (lay2 S0 N pk j) N (pk j) 8 i
      unfold putin
      rw [up2_a _ _ _ _ (by decide), up_ite, up_ite, hq, up2_a _ _ _ _ (by decide), up2_a _ _ _ _ (by decide), up2_a _ _ _ _ (by decide), up2_a _ _ _ _ (by decide), i8]
end L2
/-- the state that lay and splice make: v at slot 55, g the weight, z what stays picked -/
def mkp (m : Nat → Int → Int) (k l w c : Int) (pt : Int → Int) (v g z : Int) : Nat → Int → Int := kept (up2 (up2 (tks (up2 (pcm m (m 0 0) (m 0 0) k l w c pt) 55 (m 0 0) v) (m 0 0) c.toNat) 50 (m 0 0) g) 15 0 z) (m 0 0)
section MK
variable {m : Nat → Int → Int} {k l w c : Int} {pt : Int → Int} {v g z : Int}
theorem mkp_s {K : Nat} (h : K ≠ 61 ∧ K ≠ 0 ∧ K ≠ 4 ∧ K ≠ 8 ∧ K ≠ 50 ∧ K ≠ 15) (i : Int) : mkp m k l w c pt v g z K i = up2 (pcm m (m 0 0) (m 0 0) k l w c pt) 55 (m 0 0) v K i := by
  unfold mkp
  rw [kept_o ⟨h.1, h.2.1⟩, up2_a _ _ _ _ h.2.2.2.2.2, up2_a _ _ _ _ h.2.2.2.2.1, tks_r h.2.2.1 h.2.2.2.1 h.2.2.2.2.1]
theorem mkp_c {K : Nat} (h : K ≠ 61 ∧ K ≠ 0 ∧ K ≠ 4 ∧ K ≠ 8 ∧ K ≠ 50 ∧ K ≠ 15) (h2 : K ≠ 55 ∧ K ≠ 7 ∧ K ≠ 52 ∧ K ≠ 53 ∧ K ≠ 54) (i : Int) : mkp m k l w c pt v g z K i = chn m (m 0 0) (m 0 0) k l w c K i := by
  rw [mkp_s h, up2_a _ _ _ _ h2.1, pcm_c ⟨h2.2.1, h2.2.2.1, h2.2.2.2.1, h2.2.2.2.2⟩]
theorem mkp_7 (i : Int) : mkp m k l w c pt v g z 7 i = if 9 * m 0 0 ≤ i ∧ i < 9 * m 0 0 + 9 then pt (i - 9 * m 0 0) else m 7 i := by
  rw [mkp_s (by decide), up2_a _ _ _ _ (by decide), pcm_7]
theorem mkp_50 (i : Int) : mkp m k l w c pt v g z 50 i = if i = m 0 0 then g else m 50 i := by
  unfold mkp
  rw [kept_o (by decide), up2_a _ _ _ _ (by decide), up_ite]
  by_cases e : i = m 0 0
  · rw [if_pos e, if_pos e]
  · rw [if_neg e, if_neg e, tks_w e, up2_a _ _ _ _ (by decide), pcm_c (by decide), chn_j (by decide) e]
theorem mkp_n : nst m (mkp m k l w c pt v g z) k l w c g := by
  refine ⟨fun K hK h7 h0 h15 h4 h8 h9 h52 h53 h54 h60 h61 hch j => ?_, fun j hj => ?_, ?_, ?_, fun j hj => ?_, fun K hK j hj => ?_⟩
  · have hne : ∀ q : Nat, chl q = true → K ≠ q := fun q hq e => by rw [e, hq] at hch; cases hch
    rw [mkp_c ⟨h61, h0, h4, h8, hne 50 rfl, h15⟩ ⟨hne 55 rfl, h7, h52, h53, h54⟩]
    exact chn_o hch j
  · refine ⟨?_, ?_, ?_, ?_, ?_, ?_, ?_, ?_, ?_⟩
    · rw [mkp_c (by decide) (by decide)]; exact chn_j (by decide) hj
    · rw [mkp_c (by decide) (by decide)]; exact chn_j (by decide) hj
    · rw [mkp_c (by decide) (by decide)]; exact chn_j (by decide) hj
    · rw [mkp_c (by decide) (by decide)]; exact chn_j (by decide) hj
    · rw [mkp_c (by decide) (by decide)]; exact chn_j (by decide) hj
    · rw [mkp_c (by decide) (by decide)]; exact chn_j (by decide) hj
    · rw [mkp_50, if_neg hj]
    · rw [mkp_s (by decide), up2_k _ _ _ _ _ hj, pcm_c (by decide)]; exact chn_j (by decide) hj
    · rw [mkp_c (by decide) (by decide)]; exact chn_j (by decide) hj
  · refine ⟨?_, ?_, ?_, ?_, ?_, ?_, ?_⟩
    · rw [mkp_c (by decide) (by decide)]; exact up2_s _ 1 (m 0 0) k
    · rw [mkp_c (by decide) (by decide)]; exact up2_s _ 2 (m 0 0) l
    · rw [mkp_c (by decide) (by decide)]; exact up2_s _ 3 (m 0 0) w
    · rw [mkp_c (by decide) (by decide)]; exact up2_s _ 6 (m 0 0) c
    · rw [mkp_c (by decide) (by decide)]; exact up2_s _ 10 (m 0 0) (-1)
    · rw [mkp_50, if_pos rfl]
    · rw [mkp_c (by decide) (by decide)]; exact up2_s _ 56 (m 0 0) (m 0 0)
  · refine ⟨by unfold mkp kept; exact up2_s _ _ _ _, ?_, fun i => ?_⟩
    · rw [mkp_c (by decide) (by decide)]; exact up2_s m 60 0 _
    · unfold mkp kept
      rw [up2_a _ _ _ _ (show (61 : Nat) ≠ 0 by decide), up_ite, up2_a _ _ _ _ (by decide), up2_a _ _ _ _ (by decide), tks_r (by decide) (by decide) (by decide), up2_a _ _ _ _ (by decide), pcm_c (by decide), chn_o rfl]
  · rw [mkp_7, if_neg (by omega)]
  · rw [mkp_s (by omega), up2_a _ _ _ _ (by omega), pcm_5 hK, if_neg (by omega)]
theorem mkp_15 : mkp m k l w c pt v g z 15 0 = z := by
  unfold mkp
  rw [kept_o (by decide), up2_s]
/-- it is what the reference makes -/
theorem mkp_e {pk : Int → Int} (hc : 0 ≤ c ∧ c ≤ 9) (hpt : ∀ i, 0 ≤ i → i < 9 → pt i = if i < c then pk i else m 7 (9 * m 0 0 + i)) {S0 : Nat → Int → Int} (hS : ∀ K, K < 25 → K ≠ 9 → K ≠ 15 → ∀ j, S0 K j = np m k l w K j) {K : Nat} (hK : K < 25) (h9 : K ≠ 9) (h15 : K ≠ 15) (j : Int) : mkp m k l w c pt v g z K j = lay2 S0 (m 0 0) pk c.toNat K j := by
  have h06 : S0 6 (m 0 0) = 0 := (hS 6 (by decide) (by decide) (by decide) _).trans np_6
  by_cases k0 : K = 0
  · subst k0
    rw [lay2_o (by decide), hS 0 (by decide) (by decide) (by decide)]
    show up2 _ 0 0 (m 0 0 + 1) 0 j = up2 m 0 0 (m 0 0 + 1) 0 j
    rw [up_ite, up_ite]
    split
    · rfl
    · rw [up2_a _ _ _ _ (by decide), up2_a _ _ _ _ (by decide), up2_a _ _ _ _ (by decide), tks_r (by decide) (by decide) (by decide), up2_a _ _ _ _ (by decide), pcm_c (by decide), chn_o rfl]
  · by_cases k7 : K = 7
    · subst k7
      rw [lay2_7 h06, mkp_7, hS 7 (by decide) (by decide) (by decide), np_r (by decide)]
      by_cases e : 9 * m 0 0 ≤ j ∧ j < 9 * m 0 0 + 9
      · rw [if_pos e, hpt _ (by omega) (by omega)]
        by_cases e2 : j - 9 * m 0 0 < c
        · rw [if_pos e2, if_pos (by omega)]
        · rw [if_neg e2, if_neg (by omega), show 9 * m 0 0 + (j - 9 * m 0 0) = j by omega]
      · rw [if_neg e, if_neg (by omega)]
    · by_cases k48 : K = 4 ∨ K = 8
      · have hP : ∀ i : Nat, i < c.toNat → up2 (pcm m (m 0 0) (m 0 0) k l w c pt) 55 (m 0 0) v 7 (9 * m 0 0 + i) = pk i := fun i hi => by
          rw [up2_a _ _ _ _ (by decide), pcm_7, if_pos (by omega), show 9 * m 0 0 + (i : Int) - 9 * m 0 0 = i by omega, hpt _ (by omega) (by omega), if_pos (by omega)]
        have hb : ∀ K', K' = 4 ∨ K' = 8 → ∀ i, up2 (pcm m (m 0 0) (m 0 0) k l w c pt) 55 (m 0 0) v K' i = S0 K' i := fun K' hK' i => by
          rw [up2_a _ _ _ _ (by omega), pcm_c (by omega), hS K' (by omega) (by omega) (by omega), ← np_ch (c := 0) (g := 0) (by omega) (by omega) (by omega) (fun _ => rfl) i, up2_a _ _ _ _ (by omega)]
          rcases hK' with rfl | rfl <;> rfl
        have h48 := lay2_48 (S0 := S0) (pk := pk) (N := m 0 0) hP (hb 4 (Or.inl rfl)) (hb 8 (Or.inr rfl)) c.toNat (Nat.le_refl _)
        unfold mkp
        rcases k48 with rfl | rfl
        · rw [kept_o (by decide), up2_a _ _ _ _ (by decide), up2_a _ _ _ _ (by decide)]; exact h48.1 j
        · rw [kept_o (by decide), up2_a _ _ _ _ (by decide), up2_a _ _ _ _ (by decide)]; exact h48.2 j
      · by_cases k6 : K = 6
        · subst k6
          rw [lay2_6 h06, mkp_c (by decide) (by decide)]
          by_cases e : j = m 0 0
          · rw [if_pos e, e]
            exact (up2_s _ 6 (m 0 0) c).trans (by omega)
          · rw [if_neg e, chn_j (by decide) e, hS 6 (by decide) (by decide) (by decide)]
            unfold np
            rw [up2_k _ _ _ _ _ e, up2_k _ _ _ _ _ e, up2_k _ _ _ _ _ e, up2_k _ _ _ _ _ e, up2_k _ _ _ _ _ e, up2_k _ _ _ _ _ e, up2_k _ _ _ _ _ e, up2_a _ _ _ _ (by decide)]
        · rw [lay2_o (by omega), hS K hK h9 h15, mkp_c (by omega) (by omega), ← np_ch (c := c) (g := 0) hK k7 k0 (fun q => absurd q k6) j, up2_a _ _ _ _ (by omega)]
end MK
theorem wsum_ext {M m : Nat → Int → Int} {w w' : Int → Int} {q : Int} {n : Nat} (h : ∀ i : Nat, i < n → w (M 7 (9 * q + i)) = w' (m 7 (9 * q + i))) : wsum M w q n = wsum m w' q n := by
  induction n with
  | zero => rfl
  | succ n ih => show wsum M w q n + _ = wsum m w' q n + _; rw [ih (fun i a => h i (by omega)), h n (by omega)]
