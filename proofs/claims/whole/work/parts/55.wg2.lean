/-! EVERY CALL KEEPS IT -/
section WG2
variable {m : Nat → Int → Int} {f : Nat → Int → UInt32}
theorem up2_f {K k : Nat} {i v : Int} (M : Nat → Int → Int) (h : k ≠ K) : up2 M K i v k = M k := funext fun j => up2_a _ _ _ _ h j
theorem up2_fF {K k : Nat} {i : Int} {v : UInt32} (M : Nat → Int → UInt32) (h : k ≠ K) : up2 M K i v k = M k := funext fun j => up2_a _ _ _ _ h j
theorem lay2_48i {S0 : Nat → Int → Int} {N : Int} {pk : Int → Int} {j : Nat} {i : Int} : (lay2 S0 N pk j 4 i = S0 4 i ∧ lay2 S0 N pk j 8 i = S0 8 i ∧ ∀ k : Nat, k < j → pk k ≠ i) ∨ (lay2 S0 N pk j 4 i = 1 ∧ lay2 S0 N pk j 8 i = N ∧ ∃ k : Nat, k < j ∧ pk k = i) := by
  induction j with
  | zero => exact Or.inl ⟨rfl, rfl, fun k hk => absurd hk (Nat.not_lt_zero k)⟩
  | succ j ih =>
    have s4 : lay2 S0 N pk (j + 1) 4 i = if i = pk j then 1 else lay2 S0 N pk j 4 i := by
      show putin (lay2 S0 N pk j) N (pk j) 4 i = _
      unfold putin
      rw [up2_a _ _ _ _ (by decide), up_ite, up2_a _ _ _ _ (by decide), up2_a _ _ _ _ (by decide)]
    have s8 : lay2 S0 N pk (j + 1) 8 i = if i = pk j then N else lay2 S0 N pk j 8 i := by
      show putin (lay2 S0 N pk j) N (pk j) 8 i = _
      unfold putin
      rw [up_ite, up2_a _ _ _ _ (by decide), up2_a _ _ _ _ (by decide), up2_a _ _ _ _ (by decide)]
    rw [s4, s8]
    by_cases e : i = pk j
    · rw [if_pos e, if_pos e]; exact Or.inr ⟨rfl, rfl, j, Nat.lt_succ_self j, e.symm⟩
    · rw [if_neg e, if_neg e]
      rcases ih with ⟨a, b, c⟩ | ⟨a, b, k, c, d⟩
      · refine Or.inl ⟨a, b, fun k hk => ?_⟩
        by_cases e2 : k = j
        · rw [e2]; exact fun q => e q.symm
        · exact c k (by omega)
      · exact Or.inr ⟨a, b, k, by omega, d⟩
theorem np_j {k l w : Int} {K : Nat} {j : Int} (h0 : K ≠ 0) (h : j ≠ m 0 0) : np m k l w K j = m K j := by
  unfold np
  rw [up2_k _ _ _ _ _ h, up2_k _ _ _ _ _ h, up2_k _ _ _ _ _ h, up2_k _ _ _ _ _ h, up2_k _ _ _ _ _ h, up2_k _ _ _ _ _ h, up2_k _ _ _ _ _ h, up2_a _ _ _ _ h0]
theorem np_N {k l w : Int} : np m k l w 1 (m 0 0) = k ∧ np m k l w 2 (m 0 0) = l ∧ np m k l w 3 (m 0 0) = w ∧ np m k l w 4 (m 0 0) = 0 ∧ np m k l w 6 (m 0 0) = 0 ∧ np m k l w 8 (m 0 0) = -1 ∧ np m k l w 10 (m 0 0) = -1 ∧ np m k l w 0 0 = m 0 0 + 1 := by
  unfold np
  refine ⟨?_, ?_, ?_, ?_, ?_, ?_, ?_, ?_⟩ <;> simp [up2]
theorem WG.klay2 (h : WG m f) (hn : m 0 0 < 120) {k l w v z : Int} {pk : Int → Int} {c : Nat} {f1 : Nat → Int → UInt32} (hk : 0 ≤ k ∧ k ≤ 5) (hl : 1 ≤ l ∧ l ≤ 2000) (hw : 0 ≤ w ∧ w ≤ 2) (hc : c ≤ 9)
    (hpk : ∀ i : Int, 0 ≤ i → i < c → 0 ≤ pk i ∧ pk i < m 0 0 ∧ m 4 (pk i) = 0) (hpi : ∀ i j : Int, 0 ≤ i → i < c → 0 ≤ j → j < c → pk i = pk j → i = j)
    (k04 : k = 0 ∨ k = 4 → c = 0) (k1 : k = 1 → 2 ≤ c ∧ ∀ i : Int, 0 ≤ i → i < c → m 1 (pk i) = 0 ∨ m 1 (pk i) = 4) (k2 : k = 2 → 3 ≤ c ∧ ∀ i : Int, 0 ≤ i → i < c → m 1 (pk i) = 1) (k3 : k = 3 → c = 3 ∧ ∀ i : Int, 0 ≤ i → i < c → m 1 (pk i) = 2 ∨ m 1 (pk i) = 5)
    (k5 : k = 5 → c = 2 ∧ (∀ i : Int, 0 ≤ i → i < 2 → thick m (pk i)) ∧ 1 ≤ v ∧ v ≤ m 2 (pk 0) ∧ v ≤ m 2 (pk 1) ∧ l = m 2 (pk 0) + m 2 (pk 1) - v)
    (ef : ∀ K, K ≠ 5 → f1 K = f K) (ef5 : ∀ j, j ≠ m 0 0 → f1 5 j = f 5 j) (eN : ∃ e, 0 ≤ e ∧ e ≤ 80000 ∧ f1 5 (m 0 0) = E8 e) (hz : z = m 15 0 ∨ z = 0) : WG (up2 (lay2 (up2 (np m k l w) 9 (m 0 0) v) (m 0 0) pk c) 15 0 z) f1 := by
  have hN := @np_N m k l w
  have s6 : up2 (np m k l w) 9 (m 0 0) v 6 (m 0 0) = 0 := (up2_a _ _ _ _ (by decide) _).trans hN.2.2.2.2.1
  have so : ∀ K j, K ≠ 4 → K ≠ 6 → K ≠ 7 → K ≠ 8 → K ≠ 9 → K ≠ 15 → up2 (lay2 (up2 (np m k l w) 9 (m 0 0) v) (m 0 0) pk c) 15 0 z K j = np m k l w K j := fun K j h4 h6 h7 h8 h9 h15 => by
    rw [up2_a _ _ _ _ h15, lay2_o ⟨h4, h6, h7, h8⟩, up2_a _ _ _ _ h9]
  have m6 : ∀ j, up2 (lay2 (up2 (np m k l w) 9 (m 0 0) v) (m 0 0) pk c) 15 0 z 6 j = if j = m 0 0 then (c : Int) else m 6 j := fun j => by
    rw [up2_a _ _ _ _ (by decide), lay2_6 s6]
    by_cases e : j = m 0 0
    · rw [if_pos e, if_pos e]
    · rw [if_neg e, if_neg e, up2_a _ _ _ _ (by decide), np_j (by decide) e]
  have m9 : ∀ j, up2 (lay2 (up2 (np m k l w) 9 (m 0 0) v) (m 0 0) pk c) 15 0 z 9 j = if j = m 0 0 then v else m 9 j := fun j => by
    rw [up2_a _ _ _ _ (by decide), lay2_o (by decide), up_ite]
    by_cases e : j = m 0 0
    · rw [if_pos e, if_pos e]
    · rw [if_neg e, if_neg e, np_j (by decide) e]
  have m7 : ∀ i : Int, 0 ≤ i → i < c → up2 (lay2 (up2 (np m k l w) 9 (m 0 0) v) (m 0 0) pk c) 15 0 z 7 (9 * m 0 0 + i) = pk i := fun i i0 i1 => by
    rw [up2_a _ _ _ _ (by decide), lay2_7 s6, if_pos (by omega), show 9 * m 0 0 + i - 9 * m 0 0 = i by omega]
  have m48 : ∀ i, i ≠ m 0 0 → (up2 (lay2 (up2 (np m k l w) 9 (m 0 0) v) (m 0 0) pk c) 15 0 z 4 i = m 4 i ∧ up2 (lay2 (up2 (np m k l w) 9 (m 0 0) v) (m 0 0) pk c) 15 0 z 8 i = m 8 i ∧ ∀ k : Nat, k < c → pk k ≠ i) ∨ (up2 (lay2 (up2 (np m k l w) 9 (m 0 0) v) (m 0 0) pk c) 15 0 z 4 i = 1 ∧ up2 (lay2 (up2 (np m k l w) 9 (m 0 0) v) (m 0 0) pk c) 15 0 z 8 i = m 0 0 ∧ ∃ k : Nat, k < c ∧ pk k = i) := fun i hi => by
    have q := lay2_48i (S0 := up2 (np m k l w) 9 (m 0 0) v) (N := m 0 0) (pk := pk) (j := c) (i := i)
    rw [up2_a _ _ _ _ (show (4 : Nat) ≠ 15 by decide), up2_a _ _ _ _ (show (8 : Nat) ≠ 15 by decide)]
    rw [up2_a _ _ _ _ (show (4 : Nat) ≠ 9 by decide), up2_a _ _ _ _ (show (8 : Nat) ≠ 9 by decide), np_j (by decide) hi, np_j (by decide) hi] at q
    exact q
  have n48 : up2 (lay2 (up2 (np m k l w) 9 (m 0 0) v) (m 0 0) pk c) 15 0 z 4 (m 0 0) = 0 ∧ up2 (lay2 (up2 (np m k l w) 9 (m 0 0) v) (m 0 0) pk c) 15 0 z 8 (m 0 0) = -1 := by
    have q := lay2_48i (S0 := up2 (np m k l w) 9 (m 0 0) v) (N := m 0 0) (pk := pk) (j := c) (i := m 0 0)
    rw [up2_a _ _ _ _ (show (4 : Nat) ≠ 15 by decide), up2_a _ _ _ _ (show (8 : Nat) ≠ 15 by decide)]
    rw [up2_a _ _ _ _ (show (4 : Nat) ≠ 9 by decide), up2_a _ _ _ _ (show (8 : Nat) ≠ 9 by decide), hN.2.2.2.1, hN.2.2.2.2.2.1] at q
    rcases q with ⟨a, b, -⟩ | ⟨-, -, k, k1, k2⟩
    · exact ⟨a, b⟩
    · have := (hpk k (by omega) (by omega)).2.1; omega
  have x7 : ∀ j, j < 9 * m 0 0 → up2 (lay2 (up2 (np m k l w) 9 (m 0 0) v) (m 0 0) pk c) 15 0 z 7 j = m 7 j := fun j hj => by
    rw [up2_a _ _ _ _ (by decide), lay2_7 s6, if_neg (by omega), up2_a _ _ _ _ (by decide), np_r (by decide)]
  have m15 : up2 (lay2 (up2 (np m k l w) 9 (m 0 0) v) (m 0 0) pk c) 15 0 z 15 0 = z := up2_s _ _ _ _
  have h0 := h.1.1.1
  generalize up2 (lay2 (up2 (np m k l w) 9 (m 0 0) v) (m 0 0) pk c) 15 0 z = M at *
  have c1 : ∀ j, M 1 j = np m k l w 1 j := fun j => so 1 j (by decide) (by decide) (by decide) (by decide) (by decide) (by decide)
  have c2 : ∀ j, M 2 j = np m k l w 2 j := fun j => so 2 j (by decide) (by decide) (by decide) (by decide) (by decide) (by decide)
  have c3 : ∀ j, M 3 j = np m k l w 3 j := fun j => so 3 j (by decide) (by decide) (by decide) (by decide) (by decide) (by decide)
  have c10 : ∀ j, M 10 j = np m k l w 10 j := fun j => so 10 j (by decide) (by decide) (by decide) (by decide) (by decide) (by decide)
  have c0 : M 0 0 = m 0 0 + 1 := (so 0 0 (by decide) (by decide) (by decide) (by decide) (by decide) (by decide)).trans hN.2.2.2.2.2.2.2
  have c11 : ∀ i : Int, 0 ≤ i → i < c → M 1 (pk i) = m 1 (pk i) ∧ M 2 (pk i) = m 2 (pk i) := fun i i0 i1 => by
    have hh := (hpk i i0 i1).2.1
    rw [c1, c2, np_j (by decide) (by omega), np_j (by decide) (by omega)]
    exact ⟨rfl, rfl⟩
  refine h.add hn (fun K h0 h1 h2 h3 h4 h6 h7 h8 h9 h10 h15 => funext fun j => ?_) ef (fun j hj => ⟨?_, ?_, ?_, ?_, ?_, ?_⟩) x7 c0 (fun p p0 p1 => ?_) ?_ ef5 (by rw [m15]; exact hz)
  · rw [so K j h4 h6 h7 h8 h9 h15, np_r ⟨h0, h1, h2, h3, h4, h6, h8, h10⟩]
  · rw [c1, np_j (by decide) hj]
  · rw [c2, np_j (by decide) hj]
  · rw [c3, np_j (by decide) hj]
  · rw [m6, if_neg hj]
  · rw [m9, if_neg hj]
  · rw [c10, np_j (by decide) hj]
  · rcases m48 p (by omega) with ⟨a, b, -⟩ | ⟨a, b, i, i1, i2⟩
    · exact Or.inl ⟨a, b⟩
    · refine Or.inr ⟨?_, a, b⟩
      rw [← i2]; exact (hpk i (by omega) (by omega)).2.2
  · unfold WP
    rw [c1, c2, c3, c10, m6, m9, if_pos rfl, if_pos rfl, n48.1, n48.2, c0, hN.1, hN.2.1, hN.2.2.1, hN.2.2.2.2.2.2.1]
    refine ⟨⟨hk.1, hk.2, hl.1, hl.2, hw.1, hw.2, by decide, by decide, by omega, by omega, by decide, by omega, by decide, by decide⟩, eN, fun i i0 i1 => ?_, fun i j i0 i1 j0 j1 hh => ?_, fun _ i i0 i1 => ?_, fun i i0 i1 => by omega, fun hh => by have := k04 hh; omega, fun hh => ?_, fun hh => ?_, fun hh => ?_, fun hh => ?_⟩
    · rw [m7 i i0 i1]; exact ⟨(hpk i i0 i1).1, (hpk i i0 i1).2.1⟩
    · rw [m7 i i0 i1, m7 j j0 j1] at hh; exact hpi i j i0 i1 j0 j1 hh
    · rw [m7 i i0 i1]
      have hh := hpk i i0 i1
      rcases m48 (pk i) (by omega) with ⟨-, -, b⟩ | ⟨a, b, -⟩
      · have := b i.toNat (by omega)
        rw [show ((i.toNat : Nat) : Int) = i by omega] at this
        exact absurd rfl this
      · exact ⟨b, a⟩
    · obtain ⟨d1, d2⟩ := k1 hh
      refine ⟨by omega, fun i i0 i1 => ?_⟩
      rw [m7 i i0 i1, (c11 i i0 i1).1]; exact d2 i i0 i1
    · obtain ⟨d1, d2⟩ := k2 hh
      refine ⟨by omega, fun i i0 i1 => ?_⟩
      rw [m7 i i0 i1, (c11 i i0 i1).1]; exact d2 i i0 i1
    · obtain ⟨d1, d2⟩ := k3 hh
      refine ⟨by omega, fun i i0 i1 => ?_⟩
      rw [m7 i i0 i1, (c11 i i0 i1).1]; exact d2 i i0 i1
    · obtain ⟨d1, d2, d3, d4, d5, d6⟩ := k5 hh
      have e0 := m7 0 (by decide) (by omega)
      rw [Int.add_zero] at e0
      rw [e0, m7 1 (by decide) (by omega), (c11 0 (by decide) (by omega)).2, (c11 1 (by decide) (by omega)).2]
      refine ⟨by omega, fun i i0 i1 => ?_, d3, d4, d5, d6⟩
      rw [m7 i i0 (by omega)]
      have t := d2 i i0 i1
      unfold thick at t ⊢
      rw [(c11 i i0 (by omega)).1]; exact t
theorem np_id {k l w : Int} : up2 (np m k l w) 9 (m 0 0) (np m k l w 9 (m 0 0)) = np m k l w := up2_id _ _ _
theorem WG.knew (h : WG m f) {k n e : Int} (hk : k = 0 ∨ k = 4) : WG (s_new m f k n e).1 (s_new m f k n e).2 := by
  unfold s_new cif
  by_cases hno : new_no m n e
  · rw [if_pos hno]; exact h
  · rw [if_neg hno]
    unfold new_no at hno
    have h0 := h.1.1
    have e1 : np m k n 0 = up2 (lay2 (up2 (np m k n 0) 9 (m 0 0) (np m k n 0 9 (m 0 0))) (m 0 0) (fun _ => 0) 0) 15 0 (m 15 0) := by
      show _ = up2 (up2 (np m k n 0) 9 (m 0 0) (np m k n 0 9 (m 0 0))) 15 0 (m 15 0)
      rw [np_id]
      have hh := up2_id (np m k n 0) 15 0
      rw [np_r (i := 15) (by decide)] at hh
      exact hh.symm
    show WG (np m k n 0) (up2 f 5 (m 0 0) (E8 e))
    rw [e1]
    refine h.klay2 (by omega) (by omega) (by omega) (by decide) (by decide) (fun i i0 i1 => by omega) (fun i j i0 i1 => by omega) (fun _ => rfl) (fun hh => by omega) (fun hh => by omega) (fun hh => by omega) (fun hh => by omega) (fun K hK => up2_fF _ hK) (fun j hj => up2_k _ _ _ _ _ hj) ⟨e, by omega, by omega, up2_s _ _ _ _⟩ (Or.inl rfl)
theorem WG.klay (h : WG m f) {k q u : Int} : WG (s_lay m k q u) f := by
  unfold s_lay cif
  by_cases hok : lay_ok m k q u
  · rw [if_pos hok]
    obtain ⟨a1, a2, a3, a4, a5, a6, a7, a8, a9, a10⟩ := hok
    have h0 := h.1.1
    obtain ⟨p1, p2, p3⟩ := h.1.2.2.1
    have hl := lmin_b (m := m) (n := (m 15 0).toNat) (fun i i0 i1 => (h.1.b (p3 i i0 (by omega)).1 (p3 i i0 (by omega)).2).2.2.1)
    have hn : 1 ≤ lay_n m u ∧ lay_n m u ≤ 2000 := by
      unfold lay_n at a10 ⊢
      generalize lmin m (m 15 0).toNat = L at hl a10 ⊢
      have b1 : 0 ≤ L * (1000 - u) := Int.mul_nonneg (by omega) (by omega)
      have b2 : L * (1000 - u) ≤ 2000 * 1000 := Int.mul_le_mul hl.2 (by omega) (by omega) (by decide)
      omega
    rw [lays_2, ← np_id]
    unfold lay_ct at a8
    refine h.klay2 (by omega) (by omega) hn (by omega) (by omega) (fun i i0 i1 => ⟨(p3 i i0 (by omega)).1, (p3 i i0 (by omega)).2, (a9 i i0 (by omega)).1⟩) (fun i j i0 i1 j0 j1 hh => h.2.2.1 i j i0 (by omega) j0 (by omega) hh) (fun hh => by omega) (fun hh => ⟨by omega, fun i i0 i1 => ?_⟩) (fun hh => ⟨by omega, fun i i0 i1 => ?_⟩) (fun hh => ⟨by omega, fun i i0 i1 => ?_⟩) (fun hh => by omega) (fun _ _ => rfl) (fun _ _ => rfl) ⟨0, by decide, by decide, (h.2.2.2.1 _ (Int.le_refl _)).trans E8_0.symm⟩ (Or.inr rfl)
    · have t := (a9 i i0 (by omega)).2; omega
    · have t := (a9 i i0 (by omega)).2; omega
    · have t := (a9 i i0 (by omega)).2; omega
  · rw [if_neg hok]; exact h
theorem WG.kspl (h : WG m f) {a b n : Int} : WG (s_spl m a b n) f := by
  unfold s_spl cif
  by_cases hno : spl_no m a b n
  · rw [if_pos hno]; exact h
  · rw [if_neg hno]
    have h0 := h.1.1
    have e1 : putin (putin (up2 (np m 5 (m 2 a + m 2 b - n) (m 3 a)) 9 (m 0 0) n) (m 0 0) a) (m 0 0) b = up2 ((lay2 (up2 (np m 5 (m 2 a + m 2 b - n) (m 3 a)) 9 (m 0 0) n) (m 0 0) (fun i => if i = 0 then a else b) 2)) 15 0 (m 15 0) := by
      show lay2 (up2 (np m 5 (m 2 a + m 2 b - n) (m 3 a)) 9 (m 0 0) n) (m 0 0) (fun i => if i = 0 then a else b) 2 = up2 (lay2 (up2 (np m 5 (m 2 a + m 2 b - n) (m 3 a)) 9 (m 0 0) n) (m 0 0) (fun i => if i = 0 then a else b) 2) 15 0 (m 15 0)
      have hh := up2_id (lay2 (up2 (np m 5 (m 2 a + m 2 b - n) (m 3 a)) 9 (m 0 0) n) (m 0 0) (fun i => if i = 0 then a else b) 2) 15 0
      rw [show lay2 (up2 (np m 5 (m 2 a + m 2 b - n) (m 3 a)) 9 (m 0 0) n) (m 0 0) (fun i => if i = 0 then a else b) 2 15 0 = m 15 0 by rw [lay2_o (by decide), up2_a _ _ _ _ (by decide), np_r (by decide)]] at hh
      exact hh.symm
    rw [e1]
    unfold spl_no free at hno
    have hta : thick m a := by by_cases q : thick m a; exact q; exact absurd (Or.inr (Or.inr (Or.inr (Or.inl q)))) hno
    have htb : thick m b := by by_cases q : thick m b; exact q; exact absurd (Or.inr (Or.inr (Or.inr (Or.inr (Or.inl q))))) hno
    have hba := h.1.b (p := a) (by omega) (by omega)
    have hbb := h.1.b (p := b) (by omega) (by omega)
    have pk : ∀ i : Int, 0 ≤ i → i < 2 → ((if i = 0 then a else b) = a ∧ i = 0) ∨ ((if i = 0 then a else b) = b ∧ i = 1) := fun i i0 i1 => by
      by_cases e : i = 0
      · exact Or.inl ⟨if_pos e, e⟩
      · exact Or.inr ⟨if_neg e, by omega⟩
    refine h.klay2 (by omega) (by decide) ⟨by omega, by omega⟩ (by omega) (by decide) (fun i i0 i1 => ?_) (fun i j i0 i1 j0 j1 hh => ?_) (fun hh => by omega) (fun hh => by omega) (fun hh => by omega) (fun hh => by omega) (fun _ => ⟨rfl, fun i i0 i1 => ?_, by omega, ?_, ?_, rfl⟩) (fun _ _ => rfl) (fun _ _ => rfl) ⟨0, by decide, by decide, (h.2.2.2.1 _ (Int.le_refl _)).trans E8_0.symm⟩ (Or.inl rfl)
    · rcases pk i i0 (by omega) with ⟨q, -⟩ | ⟨q, -⟩ <;> (show 0 ≤ (if i = 0 then a else b) ∧ (if i = 0 then a else b) < m 0 0 ∧ m 4 (if i = 0 then a else b) = 0; rw [q]; omega)
    · rcases pk i i0 (by omega) with ⟨q, q1⟩ | ⟨q, q1⟩ <;> rcases pk j j0 (by omega) with ⟨r, r1⟩ | ⟨r, r1⟩ <;> (have hh2 : (if i = 0 then a else b) = if j = 0 then a else b := hh; rw [q, r] at hh2; omega)
    · rcases pk i i0 (by omega) with ⟨q, -⟩ | ⟨q, -⟩
      · show thick m (if i = 0 then a else b); rw [q]; exact hta
      · show thick m (if i = 0 then a else b); rw [q]; exact htb
    · show n ≤ m 2 a; omega
    · show n ≤ m 2 b; omega
theorem WG.kpick (h : WG m f) {p : Int} : WG (s_pick m p) f := by
  unfold s_pick cif
  by_cases hok : pick_ok m p
  · rw [if_pos hok]
    obtain ⟨⟨a1, a2, a3⟩, a4, a5⟩ := hok
    obtain ⟨p1, p2, p3⟩ := h.1.2.2.1
    have e15 : up2 (up2 m 16 (m 15 0) p) 15 0 (m 15 0 + 1) 15 0 = m 15 0 + 1 := up2_s _ _ _ _
    have e16 : ∀ i, up2 (up2 m 16 (m 15 0) p) 15 0 (m 15 0 + 1) 16 i = if i = m 15 0 then p else m 16 i := fun i => by rw [up2_a _ _ _ _ (by decide), up_ite]
    refine h.picks (fun k k1 k2 => (up2_f _ k1).trans (up2_f _ k2)) ⟨by omega, by omega, fun i i0 i1 => ?_⟩ (fun i j i0 i1 j0 j1 hh => ?_)
    · rw [e16]
      by_cases e : i = m 15 0
      · rw [if_pos e]; exact ⟨a1, a2⟩
      · rw [if_neg e]; exact p3 i i0 (by omega)
    · rw [e16, e16] at hh
      by_cases e : i = m 15 0
      · by_cases e2 : j = m 15 0
        · omega
        · rw [if_pos e, if_neg e2] at hh; exact absurd hh.symm (a5 j j0 (by omega))
      · by_cases e2 : j = m 15 0
        · rw [if_neg e, if_pos e2] at hh; exact absurd hh (a5 i i0 (by omega))
        · rw [if_neg e, if_neg e2] at hh; exact h.2.2.1 i j i0 (by omega) j0 (by omega) hh
  · rw [if_neg hok]; exact h
theorem WG.kdrop (h : WG m f) : WG (up2 m 15 0 0) f := by
  have e15 : up2 m 15 0 0 15 0 = 0 := up2_s _ _ _ _
  exact h.picks (fun k k1 k2 => up2_f _ k1) ⟨by omega, by omega, fun i i0 i1 => by omega⟩ (fun i j i0 i1 => by omega)
theorem unt_48 {p : Int} {n : Nat} {i : Int} : (unt m p n 4 i = (if i = p then 3 else m 4 i) ∧ unt m p n 8 i = m 8 i ∧ ∀ k : Nat, k < n → m 7 (9 * p + k) ≠ i) ∨ (unt m p n 4 i = 0 ∧ unt m p n 8 i = -1 ∧ ∃ k : Nat, k < n ∧ m 7 (9 * p + k) = i) := by
  induction n with
  | zero => exact Or.inl ⟨up_ite _ _ _ _ _, up2_a _ _ _ _ (by decide) _, fun k hk => absurd hk (Nat.not_lt_zero k)⟩
  | succ n ih =>
    have s4 : unt m p (n + 1) 4 i = if i = m 7 (9 * p + n) then 0 else unt m p n 4 i := by
      show up2 (up2 (unt m p n) 4 (m 7 (9 * p + n)) 0) 8 (m 7 (9 * p + n)) (-1) 4 i = _
      rw [up2_a _ _ _ _ (by decide), up_ite]
    have s8 : unt m p (n + 1) 8 i = if i = m 7 (9 * p + n) then -1 else unt m p n 8 i := by
      show up2 (up2 (unt m p n) 4 (m 7 (9 * p + n)) 0) 8 (m 7 (9 * p + n)) (-1) 8 i = _
      rw [up_ite, up2_a _ _ _ _ (by decide)]
    rw [s4, s8]
    by_cases e : i = m 7 (9 * p + n)
    · rw [if_pos e, if_pos e]; exact Or.inr ⟨rfl, rfl, n, Nat.lt_succ_self n, e.symm⟩
    · rw [if_neg e, if_neg e]
      rcases ih with ⟨a, b, c⟩ | ⟨a, b, k, c, d⟩
      · refine Or.inl ⟨a, b, fun k hk => ?_⟩
        by_cases e2 : k = n
        · rw [e2]; exact fun q => e q.symm
        · exact c k (by omega)
      · exact Or.inr ⟨a, b, k, by omega, d⟩
theorem WG.kunt (h : WG m f) {p : Int} : WG (s_unt m p) f := by
  unfold s_unt cif
  by_cases hno : ¬ free m p ∨ m 6 p = 0
  · rw [if_pos hno]; exact h
  · rw [if_neg hno]
    unfold free at hno
    have q0 : 0 ≤ p := by omega
    have q1 : p < m 0 0 := by omega
    have q4 : m 4 p = 0 := by omega
    have h0 := h.1.1
    have hbp := h.1.b q0 q1
    have hp := h.1.2.1 p q0 q1
    have hpart : ∀ k, 0 ≤ k → k < m 6 p → 0 ≤ m 7 (9 * p + k) ∧ m 7 (9 * p + k) < p ∧ m 8 (m 7 (9 * p + k)) = p ∧ m 4 (m 7 (9 * p + k)) = 1 := fun k k0 k1 => by
      have a := hp.2.2.1 k k0 k1
      have b := hp.2.2.2.2.1 (by omega) k k0 k1
      exact ⟨a.1, a.2, b.1, b.2⟩
    have hu := fun i => @unt_48 m p (m 6 p).toNat i
    refine h.states (fun k k4 k8 _ => funext fun j => unt_r k4 k8) (fun i i0 i1 => ⟨?_, fun h3 k k0 k1 => ?_⟩) (fun r r0 r1 => ?_) (fun r s r0 r1 s0 s1 => ?_) (fun o o0 o1 o2 => unt_r (by decide) (by decide))
    · have hb := h.1.b i0 i1
      rcases hu i with ⟨a, b, -⟩ | ⟨a, b, -⟩
      · rw [a, b]; split <;> omega
      · rw [a, b]; omega
    · have hi : i ≠ p := fun e => by
        rcases hu i with ⟨a, b, -⟩ | ⟨a, b, k', c, d⟩
        · rw [a, if_pos e] at h3; exact h3 rfl
        · have := hpart k' (by omega) (by omega); omega
      have hi3 : m 4 i ≠ 3 := fun e => by
        rcases hu i with ⟨a, b, -⟩ | ⟨a, b, k', c, d⟩
        · rw [a, if_neg hi] at h3; exact h3 e
        · have := hpart k' (by omega) (by omega); rw [d] at this; omega
      have w := h.1.2.1 i i0 i1
      obtain ⟨a1, a2⟩ := w.2.2.2.2.1 hi3 k k0 k1
      have a3 := w.2.2.1 k k0 k1
      rcases hu (m 7 (9 * i + k)) with ⟨a, b, -⟩ | ⟨a, b, k', c, d⟩
      · rw [a, b]
        by_cases e : m 7 (9 * i + k) = p
        · rw [e] at a2; omega
        · rw [if_neg e]; exact ⟨a1, a2⟩
      · have := hpart k' (by omega) (by omega); rw [d] at this; omega
    · rw [unt_r (by decide) (by decide)]
      obtain ⟨c1, c2, c3⟩ := h.1.2.2.2.1 r r0 r1
      refine ⟨c1, c2, fun hh => ?_⟩
      have c4 := c3 hh
      rcases hu (m 17 r) with ⟨a, -, -⟩ | ⟨a, b, k', c, d⟩
      · rw [a]
        by_cases e : m 17 r = p
        · rw [e] at c4; omega
        · rw [if_neg e]; exact c4
      · have := hpart k' (by omega) (by omega); rw [d] at this; omega
    · rw [unt_r (by decide) (by decide), unt_r (by decide) (by decide)]
      exact h.2.1 r s r0 r1 s0 s1
theorem WG.klose (h : WG m f) {p : Int} : WG (s_lose m p) f := by
  unfold s_lose cif
  by_cases hp : there m p
  · rw [if_pos hp]
    refine h.spots (fun k k10 _ _ _ => up2_f _ k10) (fun _ _ => rfl) (fun q q0 q1 => ?_) (fun j => h.2.2.2.2 j) (fun q i q0 q1 i0 i1 => ?_)
    · rw [up_ite]
      have hb := h.1.b q0 q1
      split <;> omega
    · rw [up_ite] at i1
      have w := (h.1.2.1 q q0 q1).2.2.2.2.2.1 i i0
      by_cases e : q = p
      · rw [if_pos e] at i1; omega
      · rw [if_neg e] at i1
        obtain ⟨a1, a2, -, -, -, -, a3⟩ := w i1
        exact ⟨a1, a2, a3⟩
  · rw [if_neg hp]; exact h
theorem WG.krow (h : WG m f) {p n : Int} : WG (s_row m p n) f := by
  unfold s_row cif
  by_cases hno : ¬ there m p ∨ n > 8 ∨ n < 0
  · rw [if_pos hno]; exact h
  · rw [if_neg hno]
    have e10 : ∀ q, rowi m p n 8 10 q = if q = p then n else m 10 q := fun q => by unfold rowi; rw [if_neg (by omega), up_ite]
    have e12 : ∀ j, rowi m p n 8 12 j = m 12 j := fun j => by unfold rowi; rw [if_neg (by omega), up2_a _ _ _ _ (by decide)]
    have e13 : ∀ j, rowi m p n 8 13 j = m 13 j := fun j => by unfold rowi; rw [if_neg (by omega), up2_a _ _ _ _ (by decide)]
    have e11 : ∀ j, rowi m p n 8 11 j = if 8 * p ≤ j ∧ j < 8 * p + 8 then 0 else m 11 j := fun j => by
      unfold rowi
      by_cases e : 8 * p ≤ j ∧ j < 8 * p + 8
      · rw [if_pos ⟨rfl, e⟩, if_pos e]
      · rw [if_neg (fun q => e q.2), if_neg e, up2_a _ _ _ _ (by decide)]
    refine h.spots (fun k k10 k11 _ _ => funext fun j => ?_) (fun _ _ => rfl) (fun q q0 q1 => ?_) (fun j => ?_) (fun q i q0 q1 i0 i1 => ?_)
    · unfold rowi; rw [if_neg (fun q => k11 q.1), up2_a _ _ _ _ k10]
    · rw [e10]
      have hb := h.1.b q0 q1
      split <;> omega
    · rw [e12, e13]; exact h.2.2.2.2 j
    · rw [e10] at i1
      rw [e11]
      have hb := h.1.b q0 q1
      by_cases e : q = p
      · rw [if_pos e] at i1
        rw [if_pos (by omega)]; omega
      · rw [if_neg e] at i1
        rw [if_neg (by omega)]
        obtain ⟨a1, a2, -, -, -, -, a3⟩ := (h.1.2.1 q q0 q1).2.2.2.2.2.1 i i0 i1
        exact ⟨a1, a2, a3⟩
theorem WG.kspot (h : WG m f) {p i fr to e : Int} : WG (s_spot m f p i fr to e).1 (s_spot m f p i fr to e).2 := by
  unfold s_spot cif
  by_cases hno : spot_no m p fr to e ∨ m 10 p < 0 ∨ i < 0 ∨ i ≥ m 10 p
  · rw [if_pos hno]; exact h
  · rw [if_neg hno]
    unfold spot_no at hno
    show WG (up2 (up2 (up2 m 11 (8 * p + i) (cif (0 ≤ e) 1 0)) 12 (8 * p + i) fr) 13 (8 * p + i) to) (up2 f 14 (8 * p + i) (E8 e))
    have ht : there m p := by by_cases q : there m p; exact q; exact absurd (Or.inl (Or.inl q)) hno
    have hno2 : ¬ (fr < 0 ∨ fr > 2000 ∨ to < 0 ∨ to > 2000 ∨ e < -1 ∨ e > 8) ∧ ¬ (m 10 p < 0 ∨ i < 0 ∨ i ≥ m 10 p) := ⟨fun q => hno (Or.inl (Or.inr q)), fun q => hno (Or.inr q)⟩
    have hbp := h.1.b ht.1 ht.2.1
    generalize hc : cif (0 ≤ e) (1 : Int) 0 = c
    have hc2 : (c = 1 ∧ 0 ≤ e) ∨ (c = 0 ∧ e < 0) := by
      unfold cif at hc
      by_cases q : 0 ≤ e
      · rw [if_pos q] at hc; exact Or.inl ⟨hc.symm, q⟩
      · rw [if_neg q] at hc; exact Or.inr ⟨hc.symm, by omega⟩
    have e11 : ∀ j, up2 (up2 (up2 m 11 (8 * p + i) c) 12 (8 * p + i) fr) 13 (8 * p + i) to 11 j = if j = 8 * p + i then c else m 11 j := fun j => by rw [up2_a _ _ _ _ (by decide), up2_a _ _ _ _ (by decide), up_ite]
    have e12 : ∀ j, up2 (up2 (up2 m 11 (8 * p + i) c) 12 (8 * p + i) fr) 13 (8 * p + i) to 12 j = if j = 8 * p + i then fr else m 12 j := fun j => by rw [up2_a _ _ _ _ (by decide), up_ite, up2_a _ _ _ _ (by decide)]
    have e13 : ∀ j, up2 (up2 (up2 m 11 (8 * p + i) c) 12 (8 * p + i) fr) 13 (8 * p + i) to 13 j = if j = 8 * p + i then to else m 13 j := fun j => by rw [up_ite, up2_a _ _ _ _ (by decide), up2_a _ _ _ _ (by decide)]
    have e10 : ∀ j, up2 (up2 (up2 m 11 (8 * p + i) c) 12 (8 * p + i) fr) 13 (8 * p + i) to 10 j = m 10 j := fun j => by rw [up2_a _ _ _ _ (by decide), up2_a _ _ _ _ (by decide), up2_a _ _ _ _ (by decide)]
    refine h.spots (fun k _ k11 k12 k13 => (up2_f _ k13).trans ((up2_f _ k12).trans (up2_f _ k11))) (fun k k14 => up2_fF _ k14) (fun q q0 q1 => ?_) (fun j => ?_) (fun q l q0 q1 l0 l1 => ?_)
    · rw [e10]
      have hb := h.1.b q0 q1
      omega
    · rw [e12, e13]
      have hj := h.2.2.2.2 j
      split <;> omega
    · rw [e10] at l1
      rw [e11, up_ite]
      obtain ⟨a1, a2, -, -, -, -, a3⟩ := (h.1.2.1 q q0 q1).2.2.2.2.2.1 l l0 l1
      by_cases e1 : 8 * q + l = 8 * p + i
      · rw [if_pos e1, if_pos e1]
        exact ⟨by omega, by omega, fun hh => ⟨e, by omega, by omega, rfl⟩⟩
      · rw [if_neg e1, if_neg e1]
        exact ⟨a1, a2, a3⟩
theorem WG.kcar (h : WG m f) {p i o k n : Int} : WG (s_car m f p i o k n).1 (s_car m f p i o k n).2 := by
  unfold s_car cif
  by_cases hno : ¬ there m p ∨ ¬ there m o ∨ m 10 p < 0 ∨ m 10 o < 0 ∨ car_no m p i o k n
  · rw [if_pos hno]; exact h
  · rw [if_neg hno]
    have hp : there m p := by by_cases q : there m p; exact q; exact absurd (Or.inl q) hno
    have ho : there m o := by by_cases q : there m o; exact q; exact absurd (Or.inr (Or.inl q)) hno
    have hc : ¬ car_no m p i o k n := fun q => hno (Or.inr (Or.inr (Or.inr (Or.inr q))))
    unfold car_no at hc
    have hbp := h.1.b hp.1 hp.2.1
    have hbo := h.1.b ho.1 ho.2.1
    have ec : ∀ K, K = 11 ∨ K = 12 ∨ K = 13 → ∀ j, cpm m p i o k n K j = if 8 * o + k ≤ j ∧ j < 8 * o + k + n then m K (8 * p + i + (j - (8 * o + k))) else m K j := fun K hK j => congrFun (if_pos hK) j
    have eo : ∀ K, ¬ (K = 11 ∨ K = 12 ∨ K = 13) → cpm m p i o k n K = m K := fun K hK => if_neg hK
    refine h.spots (fun K _ k11 k12 k13 => eo K (by omega)) (fun K k14 => if_neg k14) (fun q q0 q1 => ?_) (fun j => ?_) (fun q l q0 q1 l0 l1 => ?_)
    · show -1 ≤ cpm m p i o k n 10 q ∧ cpm m p i o k n 10 q ≤ 8
      rw [eo 10 (by decide)]
      have hb := h.1.b q0 q1
      omega
    · show 0 ≤ cpm m p i o k n 12 j ∧ cpm m p i o k n 12 j ≤ 2000 ∧ 0 ≤ cpm m p i o k n 13 j ∧ cpm m p i o k n 13 j ≤ 2000
      rw [ec 12 (by decide), ec 13 (by decide)]
      by_cases e : 8 * o + k ≤ j ∧ j < 8 * o + k + n
      · rw [if_pos e, if_pos e]; exact h.2.2.2.2 _
      · rw [if_neg e, if_neg e]; exact h.2.2.2.2 _
    · have l2 : l < cpm m p i o k n 10 q := l1
      rw [eo 10 (by decide)] at l2
      show 0 ≤ cpm m p i o k n 11 (8 * q + l) ∧ cpm m p i o k n 11 (8 * q + l) ≤ 1 ∧ (cpm m p i o k n 11 (8 * q + l) = 1 → ∃ e, 0 ≤ e ∧ e ≤ 8 ∧ cpf f 14 p i o k n (8 * q + l) = E8 e)
      rw [ec 11 (by decide)]
      unfold cpf
      by_cases e : 8 * o + k ≤ 8 * q + l ∧ 8 * q + l < 8 * o + k + n
      · rw [if_pos e, if_pos e]
        have hb := h.1.b q0 q1
        have w := (h.1.2.1 p hp.1 hp.2.1).2.2.2.2.2.1 (i + (8 * q + l - (8 * o + k))) (by omega) (by omega)
        rw [show 8 * p + (i + (8 * q + l - (8 * o + k))) = 8 * p + i + (8 * q + l - (8 * o + k)) by omega] at w
        obtain ⟨a1, a2, -, -, -, -, a3⟩ := w
        exact ⟨a1, a2, a3⟩
      · rw [if_neg e, if_neg e]
        obtain ⟨a1, a2, -, -, -, -, a3⟩ := (h.1.2.1 q q0 q1).2.2.2.2.2.1 l l0 l2
        exact ⟨a1, a2, a3⟩
theorem WG.khang (h : WG m f) {r p : Int} : WG (s_hang m r p) f := by
  unfold s_hang cif
  by_cases hok : free m p ∧ 0 ≤ r ∧ r < 6 ∧ m 17 r < 0
  · rw [if_pos hok]
    obtain ⟨⟨a1, a2, a3⟩, r0, r6, r17⟩ := hok
    have e4 : ∀ j, up2 (up2 m 17 r p) 4 p 2 4 j = if j = p then 2 else m 4 j := fun j => by rw [up_ite, up2_a _ _ _ _ (by decide)]
    have e8 : ∀ j, up2 (up2 m 17 r p) 4 p 2 8 j = m 8 j := fun j => by rw [up2_a _ _ _ _ (by decide), up2_a _ _ _ _ (by decide)]
    have e17 : ∀ j, up2 (up2 m 17 r p) 4 p 2 17 j = if j = r then p else m 17 j := fun j => by rw [up2_a _ _ _ _ (by decide), up_ite]
    have hno : ∀ s, 0 ≤ s → s < 6 → m 17 s ≠ p := fun s s0 s1 e => by
      have := (h.1.2.2.2.1 s s0 s1).2.2 (by omega); rw [e] at this; omega
    refine h.states (fun k k4 _ k17 => (up2_f _ k4).trans (up2_f _ k17)) (fun q q0 q1 => ?_) (fun s s0 s1 => ?_) (fun s u s0 s1 u0 u1 => ?_) (fun o o0 o1 o2 => ?_)
    · have hb := h.1.b q0 q1
      have w := h.1.2.1 q q0 q1
      refine ⟨?_, fun h3 k k0 k1 => ?_⟩
      · rw [e4, e8]; split <;> omega
      · rw [e4] at h3
        have h3' : m 4 q ≠ 3 := by split at h3 <;> (try subst_vars) <;> omega
        obtain ⟨c1, c2⟩ := w.2.2.2.2.1 h3' k k0 k1
        rw [e4, e8]
        refine ⟨c1, ?_⟩
        rw [if_neg (fun e => by rw [e] at c2; omega)]; exact c2
    · rw [e17]
      by_cases e : s = r
      · rw [if_pos e]
        exact ⟨by omega, a2, fun _ => by rw [e4, if_pos rfl]⟩
      · rw [if_neg e]
        obtain ⟨c1, c2, c3⟩ := h.1.2.2.2.1 s s0 s1
        refine ⟨c1, c2, fun hh => ?_⟩
        rw [e4, if_neg (hno s s0 s1)]; exact c3 hh
    · rw [e17, e17]
      by_cases e : s = r
      · by_cases e2 : u = r
        · intros; omega
        · rw [if_pos e, if_neg e2]; exact fun _ hh => absurd hh.symm (hno u u0 u1)
      · by_cases e2 : u = r
        · rw [if_neg e, if_pos e2]; exact fun _ hh => absurd hh (hno s s0 s1)
        · rw [if_neg e, if_neg e2]; exact h.2.1 s u s0 s1 u0 u1
    · rw [e17, if_neg]
      intro e
      have := ((h.1.2.2.2.2.1.2.2 o o0 o1).2.2.2.2.1 o2).1
      rw [e] at this; omega
  · rw [if_neg hok]; exact h
theorem WG.koff (h : WG m f) {r : Int} : WG (s_off m r) f := by
  unfold s_off cif
  by_cases hok : 0 ≤ r ∧ r < 6 ∧ 0 ≤ m 17 r ∧ ¬ cutfr m r
  · rw [if_pos hok]
    obtain ⟨r0, r6, r17, hcf⟩ := hok
    have hr := h.1.2.2.2.1 r r0 r6
    have e4 : ∀ j, up2 (up2 m 17 r (-1)) 4 (m 17 r) 0 4 j = if j = m 17 r then 0 else m 4 j := fun j => by rw [up_ite, up2_a _ _ _ _ (by decide)]
    have e8 : ∀ j, up2 (up2 m 17 r (-1)) 4 (m 17 r) 0 8 j = m 8 j := fun j => by rw [up2_a _ _ _ _ (by decide), up2_a _ _ _ _ (by decide)]
    have e17 : ∀ j, up2 (up2 m 17 r (-1)) 4 (m 17 r) 0 17 j = if j = r then -1 else m 17 j := fun j => by rw [up2_a _ _ _ _ (by decide), up_ite]
    have h4 := hr.2.2 r17
    refine h.states (fun k k4 _ k17 => (up2_f _ k4).trans (up2_f _ k17)) (fun q q0 q1 => ?_) (fun s s0 s1 => ?_) (fun s u s0 s1 u0 u1 => ?_) (fun o o0 o1 o2 => ?_)
    · have hb := h.1.b q0 q1
      have w := h.1.2.1 q q0 q1
      refine ⟨?_, fun h3 k k0 k1 => ?_⟩
      · rw [e4, e8]; split <;> omega
      · rw [e4] at h3
        have h3' : m 4 q ≠ 3 := by
          by_cases e : q = m 17 r
          · rw [e]; omega
          · rw [if_neg e] at h3; exact h3
        obtain ⟨c1, c2⟩ := w.2.2.2.2.1 h3' k k0 k1
        rw [e4, e8]
        refine ⟨c1, ?_⟩
        rw [if_neg (fun e => by rw [e] at c2; omega)]; exact c2
    · rw [e17]
      by_cases e : s = r
      · rw [if_pos e]
        have h0 := h.1.1
        exact ⟨by omega, by omega, fun hh => by omega⟩
      · rw [if_neg e]
        obtain ⟨c1, c2, c3⟩ := h.1.2.2.2.1 s s0 s1
        refine ⟨c1, c2, fun hh => ?_⟩
        rw [e4, if_neg (fun q => e (h.2.1 s r s0 s1 r0 r6 hh q))]; exact c3 hh
    · rw [e17, e17]
      by_cases e : s = r
      · rw [if_pos e]; intro hh; omega
      · by_cases e2 : u = r
        · rw [if_neg e, if_pos e2]; intro h1 h2; omega
        · rw [if_neg e, if_neg e2]; exact h.2.1 s u s0 s1 u0 u1
    · rw [e17, if_neg (fun e => hcf ⟨o, o0, o1, e⟩)]
  · rw [if_neg hok]; exact h
theorem WG.korder (h : WG m f) {n e : Int} : WG (s_order m f n e).1 (s_order m f n e).2 := by
  unfold s_order cif
  by_cases hno : ord_no m n e
  · rw [if_pos hno]; exact h
  · rw [if_neg hno]
    unfold ord_no at hno
    show WG (up2 (up2 (up2 (up2 m 19 (m 18 0) n) 21 (m 18 0) (-1)) 22 (m 18 0) 0) 18 0 (m 18 0 + 1)) (up2 f 20 (m 18 0) (E8 e))
    obtain ⟨w1, w2, w3⟩ := h.1.2.2.2.2.1
    have e18 : up2 (up2 (up2 (up2 m 19 (m 18 0) n) 21 (m 18 0) (-1)) 22 (m 18 0) 0) 18 0 (m 18 0 + 1) 18 0 = m 18 0 + 1 := up2_s _ _ _ _
    have e19 : ∀ j, up2 (up2 (up2 (up2 m 19 (m 18 0) n) 21 (m 18 0) (-1)) 22 (m 18 0) 0) 18 0 (m 18 0 + 1) 19 j = if j = m 18 0 then n else m 19 j := fun j => by rw [up2_a _ _ _ _ (by decide), up2_a _ _ _ _ (by decide), up2_a _ _ _ _ (by decide), up_ite]
    have e21 : ∀ j, up2 (up2 (up2 (up2 m 19 (m 18 0) n) 21 (m 18 0) (-1)) 22 (m 18 0) 0) 18 0 (m 18 0 + 1) 21 j = if j = m 18 0 then -1 else m 21 j := fun j => by rw [up2_a _ _ _ _ (by decide), up2_a _ _ _ _ (by decide), up_ite, up2_a _ _ _ _ (by decide)]
    have e22 : ∀ j, up2 (up2 (up2 (up2 m 19 (m 18 0) n) 21 (m 18 0) (-1)) 22 (m 18 0) 0) 18 0 (m 18 0 + 1) 22 j = if j = m 18 0 then 0 else m 22 j := fun j => by rw [up2_a _ _ _ _ (by decide), up_ite, up2_a _ _ _ _ (by decide), up2_a _ _ _ _ (by decide)]
    refine h.orders (fun k k18 k19 k21 k22 => (up2_f _ k18).trans ((up2_f _ k22).trans ((up2_f _ k21).trans (up2_f _ k19)))) (fun k k20 => up2_fF _ k20) ⟨by omega, by omega, fun o o0 o1 => ?_⟩
    rw [e19, e21, e22, up_ite]
    by_cases e1 : o = m 18 0
    · rw [if_pos e1, if_pos e1, if_pos e1, if_pos e1]
      exact ⟨by omega, by omega, by decide, by decide, fun hh => by omega, e, by omega, by omega, rfl⟩
    · rw [if_neg e1, if_neg e1, if_neg e1, if_neg e1]
      exact w3 o o0 (by omega)
theorem WG.kcut (h : WG m f) {o : Int} : WG (s_cut m f o (hbv m 6)) f := by
  unfold s_cut cif
  by_cases hno : o < 0 ∨ o ≥ m 18 0 ∨ 0 ≤ m 21 o
  · rw [if_pos hno]; exact h
  · rw [if_neg hno]
    have ho := h.1.2.2.2.2.1.2.2 o (by omega) (by omega)
    have hW : WF (cutup m o (ff m f (m 21) (m 22) o (hbv m 6) 6)) f := h.1.cutu (by omega) (fun h0 => by
      obtain ⟨b1, b2, b3, b4, b5, b6⟩ := (ff_b (f := f) h.1 (cr := m 21) (cp := m 22) ho.1 (fun r r0 r1 hb => (hbv_6 r0 r1).mp hb) (Nat.le_refl 6)).resolve_left (by omega)
      have hfv := (fitv_b (m := m) (f := f) (cr := m 21) (cp := m 22) (o := o) (r := ff m f (m 21) (m 22) o (hbv m 6) 6 / 10000)).2 (by omega)
      exact ⟨b3, (hbv_6 b2 b3).mp b5, by omega⟩)
    refine ⟨hW, ?_⟩
    have e : ∀ v, ∀ k, k ≠ 21 → k ≠ 22 → cutup m o v k = m k := fun v k k1 k2 => by
      unfold cutup
      split
      · rfl
      · exact (up2_f _ k2).trans (up2_f _ k1)
    rw [e _ 17 (by decide) (by decide), e _ 15 (by decide) (by decide), e _ 16 (by decide) (by decide), e _ 0 (by decide) (by decide), e _ 12 (by decide) (by decide), e _ 13 (by decide) (by decide)]
    exact h.2
theorem WG.kjoin (h : WG m f) {o : Int} : WG (s_join m o) f := by
  unfold s_join cif
  by_cases hno : join_no m o
  · rw [if_pos hno]; exact h
  · rw [if_neg hno]
    obtain ⟨w1, w2, w3⟩ := h.1.2.2.2.2.1
    have e : ∀ k, k ≠ 21 → up2 m 21 o (-1) k = m k := fun k k1 => up2_f _ k1
    refine h.orders (fun k _ _ k21 _ => up2_f _ k21) (fun _ _ => rfl) ?_
    rw [e 18 (by decide), e 19 (by decide), e 22 (by decide)]
    refine ⟨w1, w2, fun q q0 q1 => ?_⟩
    obtain ⟨c1, c2, c3, c4, c5, c6⟩ := w3 q q0 q1
    rw [up_ite]
    by_cases e1 : q = o
    · rw [if_pos e1]; exact ⟨c1, c2, by decide, by decide, fun hh => by omega, c6⟩
    · rw [if_neg e1]; exact ⟨c1, c2, c3, c4, c5, c6⟩
theorem WG.kstage (h : WG m f) {n : Int} : WG (s_stage m n) f := by
  unfold s_stage cif
  by_cases hno : stage_no m n
  · rw [if_pos hno]; exact h
  · rw [if_neg hno]
    unfold stage_no at hno
    obtain ⟨w1, w2, w3⟩ := h.1.2.2.2.2.2
    have e23 : up2 (up2 m 24 (m 23 0) n) 23 0 (m 23 0 + 1) 23 0 = m 23 0 + 1 := up2_s _ _ _ _
    refine h.stages (fun k k1 k2 => (up2_f _ k1).trans (up2_f _ k2)) ⟨by omega, by omega, fun k k0 k1 => ?_⟩
    rw [up2_a _ _ _ _ (by decide), up_ite]
    by_cases e1 : k = m 23 0
    · rw [if_pos e1]; omega
    · rw [if_neg e1]; exact w3 k k0 (by omega)
theorem WG.kunstage (h : WG m f) : WG (s_unstage m) f := by
  unfold s_unstage cif
  by_cases hno : m 23 0 = 0
  · rw [if_pos hno]; exact h
  · rw [if_neg hno]
    obtain ⟨w1, w2, w3⟩ := h.1.2.2.2.2.2
    have e23 : up2 m 23 0 (m 23 0 - 1) 23 0 = m 23 0 - 1 := up2_s _ _ _ _
    refine h.stages (fun k k1 k2 => up2_f _ k1) ⟨by omega, by omega, fun k k0 k1 => ?_⟩
    rw [up2_a _ _ _ _ (by decide)]
    exact w3 k k0 (by omega)
theorem WG.keqs {m' : Nat → Int → Int} {f' : Nat → Int → UInt32} (e : eqs m m' f f') (h : WG m f) : WG m' f' := by
  have q : ∀ k, k < 25 → k ≠ 22 → m' k = m k := fun k a b => funext (e.1 k a b)
  refine ⟨h.1.eqs e, ?_⟩
  rw [q 17 (by decide) (by decide), q 15 (by decide) (by decide), q 16 (by decide) (by decide), q 0 (by decide) (by decide), q 12 (by decide) (by decide), q 13 (by decide) (by decide), show f' 5 = f 5 from funext (e.2.2 5 (by decide))]
  exact h.2
theorem WG.kinit : WG zm0 f0 := by
  have e : ∀ k, k ≠ 17 → ∀ j, zm0 k j = 0 := fun k hk j => if_neg (fun q => hk q.1)
  have e17 : ∀ j, 0 ≤ j → j < 6 → zm0 17 j = -1 := fun j j0 j1 => if_pos ⟨rfl, j0, j1⟩
  have h0 := e 0 (by decide) 0
  have h15 := e 15 (by decide) 0
  have h18 := e 18 (by decide) 0
  have h23 := e 23 (by decide) 0
  refine ⟨⟨by omega, fun p p0 p1 => by omega, ⟨by omega, by omega, fun i i0 i1 => by omega⟩, fun r r0 r1 => ?_, ⟨by omega, by omega, fun o o0 o1 => by omega⟩, ⟨by omega, by omega, fun o o0 o1 => by omega⟩⟩, fun r s r0 r1 s0 s1 hh => ?_, fun i j i0 i1 => by omega, fun j _ => rfl, fun j => ?_⟩
  · rw [e17 r r0 r1]; exact ⟨by decide, by omega, fun hh => by omega⟩
  · rw [e17 r r0 r1] at hh; omega
  · rw [e 12 (by decide), e 13 (by decide)]; decide
end WG2
