/-! WHAT A PIECE BEARS IS AT MOST 10000 A PIECE IN IT -/
section BB
variable {m : Nat → Int → Int} {f : Nat → Int → UInt32}
theorem wsum_nn {d : Int → Int} {q : Int} {n : Nat} (h : ∀ j : Int, 0 ≤ j → j < n → 0 ≤ d (m 7 (9 * q + j))) : 0 ≤ wsum m d q n := by
  induction n with
  | zero => exact Int.le_refl 0
  | succ n ih =>
    have hn := h n (by omega) (by omega)
    have e : wsum m d q (n + 1) = wsum m d q n + d (m 7 (9 * q + n)) := rfl
    have := ih (fun j a b => h j a (by omega))
    rw [e]; omega
theorem wsum_mono {d : Int → Int} {q : Int} {n k : Nat} (hk : k ≤ n) (h : ∀ j : Int, 0 ≤ j → j < n → 0 ≤ d (m 7 (9 * q + j))) : 0 ≤ wsum m d q k ∧ wsum m d q k ≤ wsum m d q n := by
  refine ⟨wsum_nn (fun j a b => h j a (by omega)), ?_⟩
  induction n with
  | zero =>
    have : k = 0 := by omega
    subst this
    exact Int.le_refl 0
  | succ n ih =>
    have hn := h n (by omega) (by omega)
    have e : wsum m d q (n + 1) = wsum m d q n + d (m 7 (9 * q + n)) := rfl
    by_cases c : k = n + 1
    · subst c
      exact Int.le_refl _
    · have i2 := ih (by omega) (fun j a b => h j a (by omega))
      rw [e]; omega
theorem sm_IN {B0 : Int → Int → UInt32} {d : Int → Int} {p z : Int} {n : Nat} (hB : ∀ k : Int, 0 ≤ k → k < n → IN (B0 (m 7 (9 * p + k)) (plc m p k z)) (10000 * d (m 7 (9 * p + k)))) (hd : ∀ k : Int, 0 ≤ k → k < n → 0 ≤ d (m 7 (9 * p + k))) (hb : wsum m d p n ≤ 120) : ∀ k : Nat, k ≤ n → IN (sm m B0 p z k) (10000 * wsum m d p k) := by
  intro k
  induction k with
  | zero => intro _; exact IN_h.2.2.2.2
  | succ k ih =>
    intro hk
    have i := ih (by omega)
    have b := hB k (by omega) (by omega)
    have w1 := wsum_mono (m := m) (d := d) (q := p) (n := n) (k := k + 1) hk hd
    have e : wsum m d p (k + 1) = wsum m d p k + d (m 7 (9 * p + k)) := rfl
    have h := IN.add i b (by omega) (by omega)
    show IN (FP.fadd (sm m B0 p z k) (B0 (m 7 (9 * p + k)) (plc m p k z))) (10000 * wsum m d p (k + 1))
    rw [e, Int.mul_add]; exact h
/-- a share of a told spot -/
theorem share_IN (hW : WF m f) {p : Int} (h0 : 0 ≤ p) (h1 : p < m 0 0) {k : Nat} (hk : (k : Int) < m 10 p) (ht : m 11 (8 * p + k) = 1) : IN (f 14 (8 * p + k)) 1 := by
  obtain ⟨e, e0, e1, e2⟩ := ((hW.2.1 p h0 h1).2.2.2.2.2.1 k (by omega) hk).2.2.2.2.2.2 ht
  rw [e2]
  exact IN_E8 e0 (by omega) (by omega) (by decide)
theorem wr_IN (hW : WF m f) {p z : Int} (h0 : 0 ≤ p) (h1 : p < m 0 0) {v : UInt32} {n : Int} (hv : IN v n) (n0 : 0 ≤ n) (n1 : n ≤ 16777216) : ∀ k : Nat, (k : Int) ≤ m 10 p ∨ k = 0 → IN (wr m f p z v k) n := by
  intro k
  induction k with
  | zero => intro _; exact hv
  | succ k ih =>
    intro hk
    have i := ih (Or.inl (by omega))
    show IN (if m 11 (8 * p + k) = 1 ∧ m 12 (8 * p + k) ≤ z ∧ z ≤ m 13 (8 * p + k) then FP.fmul (wr m f p z v k) (f 14 (8 * p + k)) else wr m f p z v k) n
    split
    · next c => exact IN.mul i (share_IN hW h0 h1 (by omega) c.1) n0 n1
    · exact i
theorem str_IN (hW : WF m f) {p : Int} (h0 : 0 ≤ p) (h1 : p < m 0 0) : IN (f 5 p) 10000 := by
  obtain ⟨e, e0, e1, e2⟩ := (hW.2.1 p h0 h1).2.1
  rw [e2]
  exact IN_E8 e0 (by omega) (by omega) (by decide)
theorem lpart (hW : WF m f) {p k : Int} (hp : live m p) (hk : 0 ≤ k) (hk2 : k < m 6 p) : live m (m 7 (9 * p + k)) ∧ m 7 (9 * p + k) < p := by
  obtain ⟨h0, h1, h2⟩ := hp
  obtain ⟨c1, c2⟩ := (hW.parts p h0 h1).1.2 k hk hk2
  obtain ⟨o1, o2⟩ := (hW.2.1 p h0 h1).2.2.2.2.1 h2 k hk hk2
  exact ⟨⟨c1, by omega, by rw [o2]; decide⟩, c2⟩
theorem sz_1 (hW : WF m f) {p : Int} (h0 : 0 ≤ p) (h1 : p < m 0 0) : 1 ≤ sz m p := sz_pos hW (p.toNat + 1) p h0 h1 (by omega)
/-- what its parts bear, together -/
theorem sum_IN (hW : WF m f) {p z : Int} (hp : live m p) (h5 : m 1 p ≠ 5) (hz : 0 ≤ z) (hz2 : z < m 2 p) (hB : ∀ q y, live m q → q < p → 0 ≤ y → y < m 2 q → IN (B m f q y) (10000 * sz m q)) : (∀ k : Nat, (k : Int) ≤ m 6 p → IN (sm m (B m f) p z k) (10000 * wsum m (sz m) p k)) ∧ (∀ k : Nat, (k : Int) < m 6 p → IN (B m f (m 7 (9 * p + k)) (plc m p k z)) (10000 * sz m (m 7 (9 * p + k)))) ∧ wsum m (sz m) p (m 6 p).toNat + 1 = sz m p ∧ ∀ k : Nat, (k : Int) ≤ m 6 p → 0 ≤ wsum m (sz m) p k ∧ wsum m (sz m) p k ≤ 120 := by
  obtain ⟨h0, h1, h2⟩ := id hp
  have es := sz_eq (m := m) (fun q a b => (hW.parts q a b).1) h0 h1
  have hs := sz_b hW hp
  have hb := hW.b h0 h1
  have hl := fun k (a : 0 ≤ k) (b : k < m 6 p) => lpart hW hp a b
  have hpl := fun k (a : 0 ≤ k) (b : k < m 6 p) => plc_b hW h0 h1 a b hz hz2
  have hpn := fun k (a : 0 ≤ k) (b : k < m 6 p) => plc_n5 hW h0 h1 a b hz hz2 h5
  have hd : ∀ k : Int, 0 ≤ k → k < ((m 6 p).toNat : Int) → 0 ≤ sz m (m 7 (9 * p + k)) := fun k a b => by
    have l := (hl k a (by omega)).1
    have := sz_1 hW l.1 l.2.1; omega
  have hBk : ∀ k : Int, 0 ≤ k → k < ((m 6 p).toNat : Int) → IN (B m f (m 7 (9 * p + k)) (plc m p k z)) (10000 * sz m (m 7 (9 * p + k))) := fun k a b => by
    have l := hl k a (by omega)
    have n5 := hpn k a (by omega)
    exact hB _ _ l.1 l.2 n5 ((hpl k a (by omega)).resolve_left (by omega)).2
  refine ⟨fun k hk => sm_IN hBk hd (by omega) k (by omega), fun k hk => hBk k (by omega) (by omega), by omega, fun k hk => ?_⟩
  have := wsum_mono (m := m) (d := sz m) (q := p) (n := (m 6 p).toNat) (k := k) (by omega) hd
  omega
theorem bs_IN (hW : WF m f) {p z : Int} (hp : live m p) (hz : 0 ≤ z) (hz2 : z < m 2 p) (hB : ∀ q y, live m q → q < p → 0 ≤ y → y < m 2 q → IN (B m f q y) (10000 * sz m q)) : IN (bs m f (B m f) p z) (10000 * sz m p) := by
  obtain ⟨h0, h1, h2⟩ := id hp
  have hs := sz_b hW hp
  have hs1 := sz_1 hW h0 h1
  have hb := hW.b h0 h1
  obtain ⟨i1, i2, i3, i4, -⟩ := IN_h
  have st := str_IN hW h0 h1
  unfold bs
  by_cases k0 : m 1 p = 0
  · rw [if_pos k0]; exact st.le (by omega)
  · rw [if_neg k0]
    by_cases k4 : m 1 p = 4
    · rw [if_pos k4]; exact (st.mul i1 (by decide) (by decide)).le (by omega)
    · rw [if_neg k4]
      by_cases k5 : m 1 p = 5
      · rw [if_pos k5]
        have h6 := (hW.parts p h0 h1).2 k5
        have es := sz_eq (m := m) (fun q a b => (hW.parts q a b).1) h0 h1
        rw [show (m 6 p).toNat = 2 by omega] at es
        have es' : sz m p = 1 + ((0 + sz m (m 7 (9 * p + 0))) + sz m (m 7 (9 * p + 1))) := es
        have l0 := lpart hW hp (k := 0) (by decide) (by omega)
        have l1 := lpart hW hp (k := 1) (by decide) (by omega)
        have s0 := sz_1 hW l0.1.1 l0.1.2.1
        have s1 := sz_1 hW l1.1.1 l1.1.2.1
        have b0 := plc_b hW h0 h1 (k := 0) (by decide) (by omega) hz hz2
        have b1 := plc_b hW h0 h1 (k := 1) (by decide) (by omega) hz hz2
        have b5 := plc_5 hW h0 h1 hz hz2 k5
        rw [Int.add_zero] at l0 s0 b0 es'
        have B0 : 0 ≤ plc m p 0 z → IN (B m f (m 7 (9 * p)) (plc m p 0 z)) (10000 * sz m p) := fun h => (hB _ _ l0.1 l0.2 h (b0.resolve_left (by omega)).2).le (by omega)
        have B1 : 0 ≤ plc m p 1 z → IN (B m f (m 7 (9 * p + 1)) (plc m p 1 z)) (10000 * sz m p) := fun h => (hB _ _ l1.1 l1.2 h (b1.resolve_left (by omega)).2).le (by omega)
        split
        · next c => exact B1 (by omega)
        · next c =>
          split
          · exact B0 (by omega)
          · next d => exact B1 (by
              by_cases e : 0 ≤ plc m p 1 z
              · exact e
              · exact absurd (Or.inl (by omega)) d)
      · rw [if_neg k5]
        obtain ⟨c1, c2, c3, c4⟩ := sum_IN hW hp k5 hz hz2 hB
        have c := c1 (m 6 p).toNat (by omega)
        have w := c4 (m 6 p).toNat (by omega)
        split
        · exact (c.mul i2 (by omega) (by omega)).le (by omega)
        · split
          · exact (c.mul i3 (by omega) (by omega)).le (by omega)
          · exact (c.mul i4 (by omega) (by omega)).le (by omega)
theorem B_IN (hW : WF m f) : ∀ n : Nat, ∀ q z, live m q → q < n → 0 ≤ z → z < m 2 q → IN (B m f q z) (10000 * sz m q) := by
  intro n
  induction n with
  | zero => intro q z hq h; have := hq.1; omega
  | succ n ih =>
    intro q z hq hn hz hz2
    have hs := sz_b hW hq
    have hs1 := sz_1 hW hq.1 hq.2.1
    rw [B_eq hW.parts hq.1 hq.2.1]
    exact wr_IN hW hq.1 hq.2.1 (bs_IN hW hq hz hz2 (fun q' y l1 l2 y0 y1 => ih q' y l1 (by omega) y0 y1)) (by omega) (by omega) _ (by omega)
theorem B_INl (hW : WF m f) {q z : Int} (hq : live m q) (hz : 0 ≤ z) (hz2 : z < m 2 q) : IN (B m f q z) (10000 * sz m q) := B_IN hW (q.toNat + 1) q z hq (by have := hq.1; omega) hz hz2
theorem B_ok' (h : WF m f) {q z : Int} (hq : live m q) (hz : 0 ≤ z) (hz2 : z < m 2 q) : (B m f q z).toNat ≤ 1241513984 := by
  have hs := sz_b h hq
  exact (B_INl h hq hz hz2).okv (by omega)
theorem B_nums' (h : WF m f) {q z : Int} (hq : live m q) (hz : 0 ≤ z) (hz2 : z < m 2 q) :
    (m 1 q = 4 → vf_n32 (FP.fmul (f 5 q) 1056964608)) ∧
    ((m 1 q = 1 ∨ m 1 q = 2 ∨ m 1 q = 3) → ∀ k : Nat, (k : Int) < m 6 q → vf_n32 (FP.fadd (sm m (B m f) q z k) (B m f (m 7 (9 * q + k)) (plc m q k z)))) ∧
    (m 1 q = 1 → vf_n32 (FP.fmul (sm m (B m f) q z (m 6 q).toNat) 1063256064)) ∧ (m 1 q = 2 → vf_n32 (FP.fmul (sm m (B m f) q z (m 6 q).toNat) 1061158912)) ∧ (m 1 q = 3 → vf_n32 (FP.fmul (sm m (B m f) q z (m 6 q).toNat) 1059061760)) ∧
    (∀ k : Nat, (k : Int) < m 10 q → m 11 (8 * q + k) = 1 → vf_n32 (FP.fmul (wr m f q z (bs m f (B m f) q z) k) (f 14 (8 * q + k)))) := by
  have hs := sz_b h hq
  have hs1 := sz_1 h hq.1 hq.2.1
  have hb := h.b hq.1 hq.2.1
  obtain ⟨i1, i2, i3, i4, -⟩ := IN_h
  have hB : ∀ q' y, live m q' → q' < q → 0 ≤ y → y < m 2 q' → IN (B m f q' y) (10000 * sz m q') := fun q' y l _ y0 y1 => B_INl h l y0 y1
  have S := fun (h5 : m 1 q ≠ 5) => sum_IN h hq h5 hz hz2 hB
  refine ⟨fun _ => n32_fin ((str_IN h hq.1 hq.2.1).mul i1 (by decide) (by decide)).fin, fun hk k hkk => ?_, fun hk => ?_, fun hk => ?_, fun hk => ?_, fun k hk ht => ?_⟩
  · obtain ⟨c1, c2, c3, c4⟩ := S (by omega)
    have w := c4 (k + 1) (by omega)
    have c := c1 (k + 1) (by omega)
    exact n32_fin c.fin
  · obtain ⟨c1, c2, c3, c4⟩ := S (by omega)
    have w := c4 (m 6 q).toNat (by omega)
    exact n32_fin ((c1 (m 6 q).toNat (by omega)).mul i2 (by omega) (by omega)).fin
  · obtain ⟨c1, c2, c3, c4⟩ := S (by omega)
    have w := c4 (m 6 q).toNat (by omega)
    exact n32_fin ((c1 (m 6 q).toNat (by omega)).mul i3 (by omega) (by omega)).fin
  · obtain ⟨c1, c2, c3, c4⟩ := S (by omega)
    have w := c4 (m 6 q).toNat (by omega)
    exact n32_fin ((c1 (m 6 q).toNat (by omega)).mul i4 (by omega) (by omega)).fin
  · have w := wr_IN h (z := z) hq.1 hq.2.1 (bs_IN h hq hz hz2 hB) (by omega) (by omega) k (Or.inl (by omega))
    exact n32_fin (w.mul (share_IN h hq.1 hq.2.1 hk ht) (by omega) (by omega)).fin
end BB
