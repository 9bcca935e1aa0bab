/-! WHAT THE STATE KEEPS FROM CALL TO CALL -/
def WG (m : Nat → Int → Int) (f : Nat → Int → UInt32) : Prop := WF m f ∧ (∀ r s, 0 ≤ r → r < 6 → 0 ≤ s → s < 6 → 0 ≤ m 17 r → m 17 r = m 17 s → r = s) ∧ (∀ i j, 0 ≤ i → i < m 15 0 → 0 ≤ j → j < m 15 0 → m 16 i = m 16 j → i = j) ∧ (∀ j, m 0 0 ≤ j → f 5 j = 0) ∧ ∀ j, 0 ≤ m 12 j ∧ m 12 j ≤ 2000 ∧ 0 ≤ m 13 j ∧ m 13 j ≤ 2000
section WGS
variable {m m1 : Nat → Int → Int} {f f1 : Nat → Int → UInt32}
theorem E8_0 : E8 0 = 0 := by decide +kernel
theorem WG.spots (h : WG m f) (e : ∀ k, k ≠ 10 → k ≠ 11 → k ≠ 12 → k ≠ 13 → m1 k = m k) (ef : ∀ k, k ≠ 14 → f1 k = f k) (h10 : ∀ p, 0 ≤ p → p < m 0 0 → -1 ≤ m1 10 p ∧ m1 10 p ≤ 8) (h12 : ∀ j, 0 ≤ m1 12 j ∧ m1 12 j ≤ 2000 ∧ 0 ≤ m1 13 j ∧ m1 13 j ≤ 2000)
    (h11 : ∀ p i, 0 ≤ p → p < m 0 0 → 0 ≤ i → i < m1 10 p → 0 ≤ m1 11 (8 * p + i) ∧ m1 11 (8 * p + i) ≤ 1 ∧ (m1 11 (8 * p + i) = 1 → ∃ e, 0 ≤ e ∧ e ≤ 8 ∧ f1 14 (8 * p + i) = E8 e)) : WG m1 f1 := by
  obtain ⟨⟨w0, w1, w2, w3, w4, w5⟩, g1, g2, g3, g4⟩ := h
  have e0 := e 0 (by decide) (by decide) (by decide) (by decide)
  have e1 := e 1 (by decide) (by decide) (by decide) (by decide)
  have e2 := e 2 (by decide) (by decide) (by decide) (by decide)
  have e3 := e 3 (by decide) (by decide) (by decide) (by decide)
  have e4 := e 4 (by decide) (by decide) (by decide) (by decide)
  have e6 := e 6 (by decide) (by decide) (by decide) (by decide)
  have e7 := e 7 (by decide) (by decide) (by decide) (by decide)
  have e8 := e 8 (by decide) (by decide) (by decide) (by decide)
  have e9 := e 9 (by decide) (by decide) (by decide) (by decide)
  have e15 := e 15 (by decide) (by decide) (by decide) (by decide)
  have e16 := e 16 (by decide) (by decide) (by decide) (by decide)
  have e17 := e 17 (by decide) (by decide) (by decide) (by decide)
  have e18 := e 18 (by decide) (by decide) (by decide) (by decide)
  have e19 := e 19 (by decide) (by decide) (by decide) (by decide)
  have e21 := e 21 (by decide) (by decide) (by decide) (by decide)
  have e22 := e 22 (by decide) (by decide) (by decide) (by decide)
  have e23 := e 23 (by decide) (by decide) (by decide) (by decide)
  have e24 := e 24 (by decide) (by decide) (by decide) (by decide)
  have ef5 := ef 5 (by decide)
  have ef20 := ef 20 (by decide)
  refine ⟨⟨by rw [e0]; exact w0, fun p p0 p1 => ?_, by rw [e0, e15, e16]; exact w2, by rw [e17, e0, e4]; exact w3, by rw [e18, e19, e21, e17, e22, e2, ef20]; exact w4, by rw [e23, e24]; exact w5⟩, by rw [e17]; exact g1, by rw [e15, e16]; exact g2, by rw [e0, ef5]; exact g3, h12⟩
  rw [e0] at p1
  obtain ⟨⟨b1, b2, b3, b4, b5, b6, b7, b8, b9, b10, b11, b12, -, -⟩, a2, a3, a4, a5, -, a7, a8, a9, a10, a11⟩ := w1 p p0 p1
  obtain ⟨c1, c2⟩ := h10 p p0 p1
  unfold WP
  unfold thick at a11 ⊢
  rw [e0, e1, e2, e3, e4, e6, e7, e8, e9, ef5]
  refine ⟨⟨b1, b2, b3, b4, b5, b6, b7, b8, b9, b10, b11, b12, c1, c2⟩, a2, a3, a4, a5, fun i i0 i1 => ?_, a7, a8, a9, a10, a11⟩
  obtain ⟨d1, d2, d3⟩ := h11 p i p0 p1 i0 i1
  obtain ⟨q1, q2, q3, q4⟩ := h12 (8 * p + i)
  exact ⟨d1, d2, q1, q2, q3, q4, d3⟩
theorem WG.states (h : WG m f) (e : ∀ k, k ≠ 4 → k ≠ 8 → k ≠ 17 → m1 k = m k)
    (h48 : ∀ p, 0 ≤ p → p < m 0 0 → (0 ≤ m1 4 p ∧ m1 4 p ≤ 3 ∧ -1 ≤ m1 8 p ∧ m1 8 p < m 0 0) ∧ (m1 4 p ≠ 3 → ∀ k, 0 ≤ k → k < m 6 p → m1 8 (m 7 (9 * p + k)) = p ∧ m1 4 (m 7 (9 * p + k)) = 1))
    (h17 : ∀ r, 0 ≤ r → r < 6 → -1 ≤ m1 17 r ∧ m1 17 r < m 0 0 ∧ (0 ≤ m1 17 r → m1 4 (m1 17 r) = 2))
    (hi : ∀ r s, 0 ≤ r → r < 6 → 0 ≤ s → s < 6 → 0 ≤ m1 17 r → m1 17 r = m1 17 s → r = s)
    (ho : ∀ o, 0 ≤ o → o < m 18 0 → 0 ≤ m 21 o → m1 17 (m 21 o) = m 17 (m 21 o)) : WG m1 f := by
  obtain ⟨⟨w0, w1, w2, w3, w4, w5⟩, g1, g2, g3, g4⟩ := h
  have e0 := e 0 (by decide) (by decide) (by decide)
  have e1 := e 1 (by decide) (by decide) (by decide)
  have e2 := e 2 (by decide) (by decide) (by decide)
  have e3 := e 3 (by decide) (by decide) (by decide)
  have e6 := e 6 (by decide) (by decide) (by decide)
  have e7 := e 7 (by decide) (by decide) (by decide)
  have e9 := e 9 (by decide) (by decide) (by decide)
  have e10 := e 10 (by decide) (by decide) (by decide)
  have e11 := e 11 (by decide) (by decide) (by decide)
  have e12 := e 12 (by decide) (by decide) (by decide)
  have e13 := e 13 (by decide) (by decide) (by decide)
  have e15 := e 15 (by decide) (by decide) (by decide)
  have e16 := e 16 (by decide) (by decide) (by decide)
  have e18 := e 18 (by decide) (by decide) (by decide)
  have e19 := e 19 (by decide) (by decide) (by decide)
  have e21 := e 21 (by decide) (by decide) (by decide)
  have e22 := e 22 (by decide) (by decide) (by decide)
  have e23 := e 23 (by decide) (by decide) (by decide)
  have e24 := e 24 (by decide) (by decide) (by decide)
  refine ⟨⟨by rw [e0]; exact w0, fun p p0 p1 => ?_, by rw [e0, e15, e16]; exact w2, by rw [e0]; exact h17, ?_, by rw [e23, e24]; exact w5⟩, hi, by rw [e15, e16]; exact g2, by rw [e0]; exact g3, by rw [e12, e13]; exact g4⟩
  · rw [e0] at p1
    obtain ⟨⟨b1, b2, b3, b4, b5, b6, -, -, b9, b10, -, -, b13, b14⟩, a2, a3, a4, -, a6, a7, a8, a9, a10, a11⟩ := w1 p p0 p1
    obtain ⟨⟨c1, c2, c3, c4⟩, c5⟩ := h48 p p0 p1
    unfold WP
    unfold thick at a11 ⊢
    rw [e0, e1, e2, e3, e6, e7, e9, e10, e11, e12, e13]
    exact ⟨⟨b1, b2, b3, b4, b5, b6, c1, c2, b9, b10, c3, c4, b13, b14⟩, a2, a3, a4, c5, a6, a7, a8, a9, a10, a11⟩
  · rw [e18, e19, e21, e22, e2]
    refine ⟨w4.1, w4.2.1, fun o o0 o1 => ?_⟩
    obtain ⟨c1, c2, c3, c4, c5, c6⟩ := w4.2.2 o o0 o1
    refine ⟨c1, c2, c3, c4, fun hh => ?_, c6⟩
    rw [ho o o0 o1 hh]
    exact c5 hh
theorem WG.picks (h : WG m f) (e : ∀ k, k ≠ 15 → k ≠ 16 → m1 k = m k) (h2 : 0 ≤ m1 15 0 ∧ m1 15 0 ≤ 9 ∧ ∀ i, 0 ≤ i → i < m1 15 0 → 0 ≤ m1 16 i ∧ m1 16 i < m 0 0) (hi : ∀ i j, 0 ≤ i → i < m1 15 0 → 0 ≤ j → j < m1 15 0 → m1 16 i = m1 16 j → i = j) : WG m1 f := by
  obtain ⟨⟨w0, w1, w2, w3, w4, w5⟩, g1, g2, g3, g4⟩ := h
  have e0 := e 0 (by decide) (by decide)
  have e1 := e 1 (by decide) (by decide)
  have e2 := e 2 (by decide) (by decide)
  have e3 := e 3 (by decide) (by decide)
  have e4 := e 4 (by decide) (by decide)
  have e6 := e 6 (by decide) (by decide)
  have e7 := e 7 (by decide) (by decide)
  have e8 := e 8 (by decide) (by decide)
  have e9 := e 9 (by decide) (by decide)
  have e10 := e 10 (by decide) (by decide)
  have e11 := e 11 (by decide) (by decide)
  have e12 := e 12 (by decide) (by decide)
  have e13 := e 13 (by decide) (by decide)
  have e17 := e 17 (by decide) (by decide)
  have e18 := e 18 (by decide) (by decide)
  have e19 := e 19 (by decide) (by decide)
  have e21 := e 21 (by decide) (by decide)
  have e22 := e 22 (by decide) (by decide)
  have e23 := e 23 (by decide) (by decide)
  have e24 := e 24 (by decide) (by decide)
  refine ⟨⟨by rw [e0]; exact w0, fun p p0 p1 => ?_, by rw [e0]; exact h2, by rw [e17, e0, e4]; exact w3, by rw [e18, e19, e21, e17, e22, e2]; exact w4, by rw [e23, e24]; exact w5⟩, by rw [e17]; exact g1, hi, by rw [e0]; exact g3, by rw [e12, e13]; exact g4⟩
  rw [e0] at p1
  have h := w1 p p0 p1
  unfold WP thick at h ⊢
  rw [e0, e1, e2, e3, e4, e6, e7, e8, e9, e10, e11, e12, e13]
  exact h
theorem WG.orders (h : WG m f) (e : ∀ k, k ≠ 18 → k ≠ 19 → k ≠ 21 → k ≠ 22 → m1 k = m k) (ef : ∀ k, k ≠ 20 → f1 k = f k)
    (h4 : 0 ≤ m1 18 0 ∧ m1 18 0 ≤ 6 ∧ ∀ o, 0 ≤ o → o < m1 18 0 → 1 ≤ m1 19 o ∧ m1 19 o ≤ 2000 ∧ -1 ≤ m1 21 o ∧ m1 21 o ≤ 5 ∧ (0 ≤ m1 21 o → 0 ≤ m 17 (m1 21 o) ∧ 0 ≤ m1 22 o ∧ m1 22 o + m1 19 o ≤ m 2 (m 17 (m1 21 o))) ∧ ∃ e, 0 ≤ e ∧ e ≤ 800000 ∧ f1 20 o = E8 e) : WG m1 f1 := by
  obtain ⟨⟨w0, w1, w2, w3, w4, w5⟩, g1, g2, g3, g4⟩ := h
  have e0 := e 0 (by decide) (by decide) (by decide) (by decide)
  have e1 := e 1 (by decide) (by decide) (by decide) (by decide)
  have e2 := e 2 (by decide) (by decide) (by decide) (by decide)
  have e3 := e 3 (by decide) (by decide) (by decide) (by decide)
  have e4 := e 4 (by decide) (by decide) (by decide) (by decide)
  have e6 := e 6 (by decide) (by decide) (by decide) (by decide)
  have e7 := e 7 (by decide) (by decide) (by decide) (by decide)
  have e8 := e 8 (by decide) (by decide) (by decide) (by decide)
  have e9 := e 9 (by decide) (by decide) (by decide) (by decide)
  have e10 := e 10 (by decide) (by decide) (by decide) (by decide)
  have e11 := e 11 (by decide) (by decide) (by decide) (by decide)
  have e12 := e 12 (by decide) (by decide) (by decide) (by decide)
  have e13 := e 13 (by decide) (by decide) (by decide) (by decide)
  have e15 := e 15 (by decide) (by decide) (by decide) (by decide)
  have e16 := e 16 (by decide) (by decide) (by decide) (by decide)
  have e17 := e 17 (by decide) (by decide) (by decide) (by decide)
  have e23 := e 23 (by decide) (by decide) (by decide) (by decide)
  have e24 := e 24 (by decide) (by decide) (by decide) (by decide)
  have ef5 := ef 5 (by decide)
  have ef14 := ef 14 (by decide)
  refine ⟨⟨by rw [e0]; exact w0, fun p p0 p1 => ?_, by rw [e0, e15, e16]; exact w2, by rw [e17, e0, e4]; exact w3, by rw [e17, e2]; exact h4, by rw [e23, e24]; exact w5⟩, by rw [e17]; exact g1, by rw [e15, e16]; exact g2, by rw [e0, ef5]; exact g3, by rw [e12, e13]; exact g4⟩
  rw [e0] at p1
  have h := w1 p p0 p1
  unfold WP thick at h ⊢
  rw [e0, e1, e2, e3, e4, e6, e7, e8, e9, e10, e11, e12, e13, ef5, ef14]
  exact h
theorem WG.stages (h : WG m f) (e : ∀ k, k ≠ 23 → k ≠ 24 → m1 k = m k) (h5 : 0 ≤ m1 23 0 ∧ m1 23 0 ≤ 10 ∧ ∀ k, 0 ≤ k → k < m1 23 0 → 0 ≤ m1 24 k ∧ m1 24 k ≤ 8) : WG m1 f := by
  obtain ⟨⟨w0, w1, w2, w3, w4, w5⟩, g1, g2, g3, g4⟩ := h
  have e0 := e 0 (by decide) (by decide)
  have e1 := e 1 (by decide) (by decide)
  have e2 := e 2 (by decide) (by decide)
  have e3 := e 3 (by decide) (by decide)
  have e4 := e 4 (by decide) (by decide)
  have e6 := e 6 (by decide) (by decide)
  have e7 := e 7 (by decide) (by decide)
  have e8 := e 8 (by decide) (by decide)
  have e9 := e 9 (by decide) (by decide)
  have e10 := e 10 (by decide) (by decide)
  have e11 := e 11 (by decide) (by decide)
  have e12 := e 12 (by decide) (by decide)
  have e13 := e 13 (by decide) (by decide)
  have e15 := e 15 (by decide) (by decide)
  have e16 := e 16 (by decide) (by decide)
  have e17 := e 17 (by decide) (by decide)
  have e18 := e 18 (by decide) (by decide)
  have e19 := e 19 (by decide) (by decide)
  have e21 := e 21 (by decide) (by decide)
  have e22 := e 22 (by decide) (by decide)
  refine ⟨⟨by rw [e0]; exact w0, fun p p0 p1 => ?_, by rw [e0, e15, e16]; exact w2, by rw [e17, e0, e4]; exact w3, by rw [e18, e19, e21, e17, e22, e2]; exact w4, h5⟩, by rw [e17]; exact g1, by rw [e15, e16]; exact g2, by rw [e0]; exact g3, by rw [e12, e13]; exact g4⟩
  rw [e0] at p1
  have h := w1 p p0 p1
  unfold WP thick at h ⊢
  rw [e0, e1, e2, e3, e4, e6, e7, e8, e9, e10, e11, e12, e13]
  exact h
theorem WG.add (h : WG m f) (hn : m 0 0 < 120) (e : ∀ k, k ≠ 0 → k ≠ 1 → k ≠ 2 → k ≠ 3 → k ≠ 4 → k ≠ 6 → k ≠ 7 → k ≠ 8 → k ≠ 9 → k ≠ 10 → k ≠ 15 → m1 k = m k) (ef : ∀ k, k ≠ 5 → f1 k = f k)
    (ej : ∀ j, j ≠ m 0 0 → m1 1 j = m 1 j ∧ m1 2 j = m 2 j ∧ m1 3 j = m 3 j ∧ m1 6 j = m 6 j ∧ m1 9 j = m 9 j ∧ m1 10 j = m 10 j) (x7 : ∀ j, j < 9 * m 0 0 → m1 7 j = m 7 j) (x0 : m1 0 0 = m 0 0 + 1)
    (h48 : ∀ p, 0 ≤ p → p < m 0 0 → (m1 4 p = m 4 p ∧ m1 8 p = m 8 p) ∨ (m 4 p = 0 ∧ m1 4 p = 1 ∧ m1 8 p = m 0 0))
    (hN : WP m1 f1 (m 0 0)) (x5 : ∀ j, j ≠ m 0 0 → f1 5 j = f 5 j) (x15 : m1 15 0 = m 15 0 ∨ m1 15 0 = 0) : WG m1 f1 := by
  obtain ⟨⟨w0, w1, w2, w3, w4, w5⟩, g1, g2, g3, g4⟩ := h
  have e11 := e 11 (by decide) (by decide) (by decide) (by decide) (by decide) (by decide) (by decide) (by decide) (by decide) (by decide) (by decide)
  have e12 := e 12 (by decide) (by decide) (by decide) (by decide) (by decide) (by decide) (by decide) (by decide) (by decide) (by decide) (by decide)
  have e13 := e 13 (by decide) (by decide) (by decide) (by decide) (by decide) (by decide) (by decide) (by decide) (by decide) (by decide) (by decide)
  have e16 := e 16 (by decide) (by decide) (by decide) (by decide) (by decide) (by decide) (by decide) (by decide) (by decide) (by decide) (by decide)
  have e17 := e 17 (by decide) (by decide) (by decide) (by decide) (by decide) (by decide) (by decide) (by decide) (by decide) (by decide) (by decide)
  have e18 := e 18 (by decide) (by decide) (by decide) (by decide) (by decide) (by decide) (by decide) (by decide) (by decide) (by decide) (by decide)
  have e19 := e 19 (by decide) (by decide) (by decide) (by decide) (by decide) (by decide) (by decide) (by decide) (by decide) (by decide) (by decide)
  have e21 := e 21 (by decide) (by decide) (by decide) (by decide) (by decide) (by decide) (by decide) (by decide) (by decide) (by decide) (by decide)
  have e22 := e 22 (by decide) (by decide) (by decide) (by decide) (by decide) (by decide) (by decide) (by decide) (by decide) (by decide) (by decide)
  have e23 := e 23 (by decide) (by decide) (by decide) (by decide) (by decide) (by decide) (by decide) (by decide) (by decide) (by decide) (by decide)
  have e24 := e 24 (by decide) (by decide) (by decide) (by decide) (by decide) (by decide) (by decide) (by decide) (by decide) (by decide) (by decide)
  have ef14 := ef 14 (by decide)
  have ef20 := ef 20 (by decide)
  refine ⟨⟨by rw [x0]; omega, fun p p0 p1 => ?_, ⟨by omega, by omega, fun i i0 i1 => ?_⟩, fun r r0 r1 => ?_, ?_, by rw [e23, e24]; exact w5⟩, by rw [e17]; exact g1, fun i j i0 i1 j0 j1 => ?_, fun j hj => ?_, by rw [e12, e13]; exact g4⟩
  · rw [x0] at p1
    by_cases hp : p = m 0 0
    · rw [hp]; exact hN
    · have hpN : p < m 0 0 := by omega
      obtain ⟨⟨b1, b2, b3, b4, b5, b6, b7, b8, b9, b10, b11, b12, b13, b14⟩, a2, a3, a4, a5, a6, a7, a8, a9, a10, a11⟩ := w1 p p0 hpN
      obtain ⟨y1, y2, y3, y6, y9, y10⟩ := ej p hp
      have z7 : ∀ k, 0 ≤ k → k < m 6 p → m1 7 (9 * p + k) = m 7 (9 * p + k) := fun k k0 k1 => x7 _ (by omega)
      have zq : ∀ k, 0 ≤ k → k < m 6 p → m 7 (9 * p + k) ≠ m 0 0 := fun k k0 k1 => by have := a3 k k0 k1; omega
      have z70 : m 6 p = 2 → m1 7 (9 * p) = m 7 (9 * p) := fun h => x7 _ (by omega)
      unfold WP
      rw [y1, y2, y3, y6, y9, y10, e11, e12, e13, x0, x5 p hp, ef14]
      refine ⟨⟨b1, b2, b3, b4, b5, b6, ?_, ?_, b9, b10, ?_, ?_, b13, b14⟩, a2, fun k k0 k1 => ?_, fun k l k0 k1 l0 l1 => ?_, fun h4 k k0 k1 => ?_, a6, a7, fun hh => ?_, fun hh => ?_, fun hh => ?_, fun hh => ?_⟩
      · rcases h48 p p0 hpN with ⟨q1, q2⟩ | ⟨q0, q1, q2⟩ <;> omega
      · rcases h48 p p0 hpN with ⟨q1, q2⟩ | ⟨q0, q1, q2⟩ <;> omega
      · rcases h48 p p0 hpN with ⟨q1, q2⟩ | ⟨q0, q1, q2⟩ <;> omega
      · rcases h48 p p0 hpN with ⟨q1, q2⟩ | ⟨q0, q1, q2⟩ <;> omega
      · rw [z7 k k0 k1]; exact a3 k k0 k1
      · rw [z7 k k0 k1, z7 l l0 l1]; exact a4 k l k0 k1 l0 l1
      · rw [z7 k k0 k1]
        have h43 : m 4 p ≠ 3 := by rcases h48 p p0 hpN with ⟨q1, q2⟩ | ⟨q0, q1, q2⟩ <;> omega
        obtain ⟨r1, r2⟩ := a5 h43 k k0 k1
        have r3 := a3 k k0 k1
        rcases h48 _ r3.1 (by omega) with ⟨q1, q2⟩ | ⟨q0, q1, q2⟩
        · rw [q1, q2]; exact ⟨r1, r2⟩
        · omega
      · obtain ⟨c1, c2⟩ := a8 hh
        refine ⟨c1, fun k k0 k1 => ?_⟩
        rw [z7 k k0 k1, (ej _ (zq k k0 k1)).1]; exact c2 k k0 k1
      · obtain ⟨c1, c2⟩ := a9 hh
        refine ⟨c1, fun k k0 k1 => ?_⟩
        rw [z7 k k0 k1, (ej _ (zq k k0 k1)).1]; exact c2 k k0 k1
      · obtain ⟨c1, c2⟩ := a10 hh
        refine ⟨c1, fun k k0 k1 => ?_⟩
        rw [z7 k k0 k1, (ej _ (zq k k0 k1)).1]; exact c2 k k0 k1
      · obtain ⟨c1, c2, c3, c4, c5, c6⟩ := a11 hh
        have zq0 := zq 0 (by decide) (by omega)
        have zq1 := zq 1 (by decide) (by omega)
        rw [Int.add_zero] at zq0
        have z71 := z7 1 (by decide) (by omega)
        rw [z70 c1, z71, (ej _ zq0).2.1, (ej _ zq1).2.1]
        refine ⟨c1, fun k k0 k1 => ?_, c3, c4, c5, c6⟩
        unfold thick at c2 ⊢
        rw [z7 k k0 (by omega), (ej _ (zq k k0 (by omega))).1]; exact c2 k k0 k1
  · rw [e16, x0]
    have h := w2.2.2 i i0 (by omega)
    omega
  · obtain ⟨c1, c2, c3⟩ := w3 r r0 r1
    rw [e17, x0]
    refine ⟨c1, by omega, fun hh => ?_⟩
    have c4 := c3 hh
    rcases h48 _ hh c2 with ⟨q1, q2⟩ | ⟨q0, q1, q2⟩ <;> omega
  · rw [e18, e19, e21, e22, e17, ef20]
    refine ⟨w4.1, w4.2.1, fun o o0 o1 => ?_⟩
    obtain ⟨c1, c2, c3, c4, c5, c6⟩ := w4.2.2 o o0 o1
    refine ⟨c1, c2, c3, c4, fun hh => ?_, c6⟩
    have d := c5 hh
    have d2 := (w3 (m 21 o) hh (by omega)).2.1
    rw [(ej _ (by omega)).2.1]
    exact d
  · rw [e16]
    exact g2 i j i0 (by omega) j0 (by omega)
  · rw [x5 j (by omega)]
    exact g3 j (by omega)
end WGS
