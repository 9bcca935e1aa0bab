
/-! WHAT THE CALLS DO, on the state (m, f) -/
noncomputable abbrev cif {α : Sort _} (c : Prop) (a b : α) : α := @ite α c (Classical.propDecidable c) a b
abbrev zS : Type := (Nat → Int → Int) × (Nat → Int → UInt32)
def E8 (e : Int) : UInt32 := FP.fmul (FP.i2f (Int32.ofInt e)) 1040187392
theorem E8_num {e : Int} (h1 : -1 ≤ e) (h2 : e ≤ 800000) : vf_n32 (E8 e) := by
  have h : FP.Core.fIsNaN (E8 e) = false := FP.Core.fmul_out (FP.Core.i2f_fin _) (by rw [FP.Core.fin_bits32]; decide)
  unfold vf_n32
  rw [UInt32.le_iff_toNat_le, FP.Core.mask_toNat32]
  have h3 : ¬ (2139095040 < (E8 e).toNat % 2 ^ 31) := fun q => by rw [(FP.Core.isNaN_bits32 _).mpr q] at h; cases h
  show (E8 e).toNat % 2 ^ 31 ≤ 2139095040
  omega
/-- a new piece -/
def np (m : Nat → Int → Int) (k n t : Int) : Nat → Int → Int := up2 (up2 (up2 (up2 (up2 (up2 (up2 (up2 m 0 0 (m 0 0 + 1)) 1 (m 0 0) k) 2 (m 0 0) n) 3 (m 0 0) t) 4 (m 0 0) 0) 6 (m 0 0) 0) 8 (m 0 0) (-1)) 10 (m 0 0) (-1)
def new_no (m : Nat → Int → Int) (n e : Int) : Prop := n < 1 ∨ n > 2000 ∨ e < 0 ∨ e > 80000 ∨ m 0 0 = 120
noncomputable def a_new (m : Nat → Int → Int) (n e : Int) : Int := cif (new_no m n e) (-2) (m 0 0)
noncomputable def s_new (m : Nat → Int → Int) (f : Nat → Int → UInt32) (k n e : Int) : zS := cif (new_no m n e) (m, f) (np m k n 0, up2 f 5 (m 0 0) (E8 e))
def free (m : Nat → Int → Int) (p : Int) : Prop := 0 ≤ p ∧ p < m 0 0 ∧ m 4 p = 0
def there (m : Nat → Int → Int) (p : Int) : Prop := 0 ≤ p ∧ p < m 0 0 ∧ m 4 p ≠ 3
def pick_ok (m : Nat → Int → Int) (p : Int) : Prop := free m p ∧ m 15 0 < 9 ∧ ∀ i, 0 ≤ i → i < m 15 0 → m 16 i ≠ p
noncomputable def a_pick (m : Nat → Int → Int) (p : Int) : Int := cif (pick_ok m p) (m 15 0 + 1) (-2)
noncomputable def s_pick (m : Nat → Int → Int) (p : Int) : Nat → Int → Int := cif (pick_ok m p) (up2 (up2 m 16 (m 15 0) p) 15 0 (m 15 0 + 1)) m
def b_and (x z : Int) : Int := if x = 1 ∧ z = 1 then 1 else 0
def b_or (x z : Int) : Int := if x = 1 ∨ z = 1 then 1 else 0
theorem and01 {x z : Int} (hx : 0 ≤ x ∧ x ≤ 1) (hz : 0 ≤ z ∧ z ≤ 1) : Int32.ofInt x &&& Int32.ofInt z = Int32.ofInt (b_and x z) := by
  have h1 : x = 0 ∨ x = 1 := by omega
  have h2 : z = 0 ∨ z = 1 := by omega
  rcases h1 with rfl | rfl <;> rcases h2 with rfl | rfl <;> decide
theorem or01 {x z : Int} (hx : 0 ≤ x ∧ x ≤ 1) (hz : 0 ≤ z ∧ z ≤ 1) : Int32.ofInt x ||| Int32.ofInt z = Int32.ofInt (b_or x z) := by
  have h1 : x = 0 ∨ x = 1 := by omega
  have h2 : z = 0 ∨ z = 1 := by omega
  rcases h1 with rfl | rfl <;> rcases h2 with rfl | rfl <;> decide
/-- may q be a part of a new piece of this kind and twist? -/
def mayin (m : Nat → Int → Int) (k t p : Int) : Prop := m 4 p = 0 ∧ ((k = 1 ∧ (m 1 p = 0 ∨ m 1 p = 4)) ∨ (k = 2 ∧ m 1 p = 1 ∧ m 3 p = 3 - t) ∨ (k ≠ 1 ∧ k ≠ 2 ∧ (m 1 p = 2 ∨ m 1 p = 5) ∧ m 3 p = 3 - t))
/-- piece q is laid into piece p -/
def putin (m : Nat → Int → Int) (p q : Int) : Nat → Int → Int := up2 (up2 (up2 (up2 m 7 (9 * p + m 6 p) q) 6 p (m 6 p + 1)) 4 q 1) 8 q p
def thick (m : Nat → Int → Int) (p : Int) : Prop := m 1 p = 2 ∨ m 1 p = 3 ∨ m 1 p = 5
noncomputable def a_part (m : Nat → Int → Int) (p k : Int) : Int := cif (p < 0 ∨ p ≥ m 0 0 ∨ k < 0 ∨ k ≥ m 6 p) (-2) (m 7 (9 * p + k))
noncomputable def a_lose (m : Nat → Int → Int) (p : Int) : Int := cif (there m p) (cif (0 ≤ m 10 p) 1 0) (-2)
noncomputable def s_lose (m : Nat → Int → Int) (p : Int) : Nat → Int → Int := cif (there m p) (up2 m 10 p (-1)) m
def spot_no (m : Nat → Int → Int) (p fr to e : Int) : Prop := ¬ there m p ∨ fr < 0 ∨ fr > 2000 ∨ to < 0 ∨ to > 2000 ∨ e < -1 ∨ e > 8
noncomputable def a_spot (m : Nat → Int → Int) (p i fr to e : Int) : Int := cif (spot_no m p fr to e) (-2) (cif (m 10 p < 0) (-10) (cif (i < 0 ∨ i ≥ m 10 p) (-11) (m 11 (8 * p + i))))
noncomputable def s_spot (m : Nat → Int → Int) (f : Nat → Int → UInt32) (p i fr to e : Int) : zS := cif (spot_no m p fr to e ∨ m 10 p < 0 ∨ i < 0 ∨ i ≥ m 10 p) (m, f) (up2 (up2 (up2 m 11 (8 * p + i) (cif (0 ≤ e) 1 0)) 12 (8 * p + i) fr) 13 (8 * p + i) to, up2 f 14 (8 * p + i) (E8 e))
noncomputable def a_hang (m : Nat → Int → Int) (r p : Int) : Int := cif (¬ free m p) (-2) (cif (r < 0 ∨ r ≥ 6) (-11) (cif (0 ≤ m 17 r) (-2) (m 2 p)))
noncomputable def s_hang (m : Nat → Int → Int) (r p : Int) : Nat → Int → Int := cif (free m p ∧ 0 ≤ r ∧ r < 6 ∧ m 17 r < 0) (up2 (up2 m 17 r p) 4 p 2) m
def cutfr (m : Nat → Int → Int) (r : Int) : Prop := ∃ o, 0 ≤ o ∧ o < m 18 0 ∧ m 21 o = r
noncomputable def a_off (m : Nat → Int → Int) (r : Int) : Int := cif (r < 0 ∨ r ≥ 6) (-11) (cif (m 17 r < 0) (-10) (cif (cutfr m r) (-2) (m 17 r)))
noncomputable def s_off (m : Nat → Int → Int) (r : Int) : Nat → Int → Int := cif (0 ≤ r ∧ r < 6 ∧ 0 ≤ m 17 r ∧ ¬ cutfr m r) (up2 (up2 m 17 r (-1)) 4 (m 17 r) 0) m
def abv (k : Int) : Int := if k = 1 ∨ k = 4 then 0 else if k = 2 then 1 else if k = 3 ∨ k = 5 then 2 else -1
/-- is kind a one of kind k? -/
def isk (a k : Int) : Prop := a = k ∨ abv a = k ∨ abv (abv a) = k ∨ abv (abv (abv a)) = k
noncomputable def a_take (m : Nat → Int → Int) (r k : Int) : Int := cif (k < 0 ∨ k > 5) (-2) (cif (r < 0 ∨ r ≥ 6) (-11) (cif (m 17 r < 0) (-10) (cif (isk (m 1 (m 17 r)) k) (m 17 r) (-12))))
def ord_no (m : Nat → Int → Int) (n e : Int) : Prop := n < 1 ∨ n > 2000 ∨ e < 0 ∨ e > 800000 ∨ m 18 0 = 6
noncomputable def a_order (m : Nat → Int → Int) (n e : Int) : Int := cif (ord_no m n e) (-2) (m 18 0)
noncomputable def s_order (m : Nat → Int → Int) (f : Nat → Int → UInt32) (n e : Int) : zS := cif (ord_no m n e) (m, f) (up2 (up2 (up2 (up2 m 19 (m 18 0) n) 21 (m 18 0) (-1)) 22 (m 18 0) 0) 18 0 (m 18 0 + 1), up2 f 20 (m 18 0) (E8 e))
def join_no (m : Nat → Int → Int) (o : Int) : Prop := o < 0 ∨ o ≥ m 18 0 ∨ m 21 o < 0
noncomputable def a_join (m : Nat → Int → Int) (o : Int) : Int := cif (join_no m o) (-2) (10000 * m 21 o + m 22 o)
noncomputable def s_join (m : Nat → Int → Int) (o : Int) : Nat → Int → Int := cif (join_no m o) m (up2 m 21 o (-1))
def stage_no (m : Nat → Int → Int) (n : Int) : Prop := n < 0 ∨ n > 8 ∨ m 23 0 = 10
noncomputable def a_stage (m : Nat → Int → Int) (n : Int) : Int := cif (stage_no m n) (-2) (m 23 0 + 1)
noncomputable def s_stage (m : Nat → Int → Int) (n : Int) : Nat → Int → Int := cif (stage_no m n) m (up2 (up2 m 24 (m 23 0) n) 23 0 (m 23 0 + 1))
noncomputable def a_unstage (m : Nat → Int → Int) : Int := cif (m 23 0 = 0) (-2) (m 24 (m 23 0 - 1))
noncomputable def s_unstage (m : Nat → Int → Int) : Nat → Int → Int := cif (m 23 0 = 0) m (up2 m 23 0 (m 23 0 - 1))
/-! WELL-FORMED STATES -/
def WP (m : Nat → Int → Int) (f : Nat → Int → UInt32) (p : Int) : Prop :=
  (0 ≤ m 1 p ∧ m 1 p ≤ 5 ∧ 1 ≤ m 2 p ∧ m 2 p ≤ 2000 ∧ 0 ≤ m 3 p ∧ m 3 p ≤ 2 ∧ 0 ≤ m 4 p ∧ m 4 p ≤ 3 ∧ 0 ≤ m 6 p ∧ m 6 p ≤ 9 ∧ -1 ≤ m 8 p ∧ m 8 p < m 0 0 ∧ -1 ≤ m 10 p ∧ m 10 p ≤ 8) ∧
  (∃ e, 0 ≤ e ∧ e ≤ 80000 ∧ f 5 p = E8 e) ∧
  (∀ k, 0 ≤ k → k < m 6 p → 0 ≤ m 7 (9 * p + k) ∧ m 7 (9 * p + k) < p) ∧
  (∀ k l, 0 ≤ k → k < m 6 p → 0 ≤ l → l < m 6 p → m 7 (9 * p + k) = m 7 (9 * p + l) → k = l) ∧
  (m 4 p ≠ 3 → ∀ k, 0 ≤ k → k < m 6 p → m 8 (m 7 (9 * p + k)) = p ∧ m 4 (m 7 (9 * p + k)) = 1) ∧
  (∀ i, 0 ≤ i → i < m 10 p → 0 ≤ m 11 (8 * p + i) ∧ m 11 (8 * p + i) ≤ 1 ∧ 0 ≤ m 12 (8 * p + i) ∧ m 12 (8 * p + i) ≤ 2000 ∧ 0 ≤ m 13 (8 * p + i) ∧ m 13 (8 * p + i) ≤ 2000 ∧ (m 11 (8 * p + i) = 1 → ∃ e, 0 ≤ e ∧ e ≤ 8 ∧ f 14 (8 * p + i) = E8 e)) ∧
  ((m 1 p = 0 ∨ m 1 p = 4) → m 6 p = 0) ∧
  (m 1 p = 1 → 2 ≤ m 6 p ∧ ∀ k, 0 ≤ k → k < m 6 p → m 1 (m 7 (9 * p + k)) = 0 ∨ m 1 (m 7 (9 * p + k)) = 4) ∧
  (m 1 p = 2 → 3 ≤ m 6 p ∧ ∀ k, 0 ≤ k → k < m 6 p → m 1 (m 7 (9 * p + k)) = 1) ∧
  (m 1 p = 3 → m 6 p = 3 ∧ ∀ k, 0 ≤ k → k < m 6 p → m 1 (m 7 (9 * p + k)) = 2 ∨ m 1 (m 7 (9 * p + k)) = 5) ∧
  (m 1 p = 5 → m 6 p = 2 ∧ (∀ k, 0 ≤ k → k < 2 → thick m (m 7 (9 * p + k))) ∧ 1 ≤ m 9 p ∧ m 9 p ≤ m 2 (m 7 (9 * p)) ∧ m 9 p ≤ m 2 (m 7 (9 * p + 1)) ∧ m 2 p = m 2 (m 7 (9 * p)) + m 2 (m 7 (9 * p + 1)) - m 9 p)
def WF (m : Nat → Int → Int) (f : Nat → Int → UInt32) : Prop :=
  (0 ≤ m 0 0 ∧ m 0 0 ≤ 120) ∧
  (∀ p, 0 ≤ p → p < m 0 0 → WP m f p) ∧
  (0 ≤ m 15 0 ∧ m 15 0 ≤ 9 ∧ ∀ i, 0 ≤ i → i < m 15 0 → 0 ≤ m 16 i ∧ m 16 i < m 0 0) ∧
  (∀ r, 0 ≤ r → r < 6 → -1 ≤ m 17 r ∧ m 17 r < m 0 0 ∧ (0 ≤ m 17 r → m 4 (m 17 r) = 2)) ∧
  (0 ≤ m 18 0 ∧ m 18 0 ≤ 6 ∧ ∀ o, 0 ≤ o → o < m 18 0 → 1 ≤ m 19 o ∧ m 19 o ≤ 2000 ∧ -1 ≤ m 21 o ∧ m 21 o ≤ 5 ∧ (0 ≤ m 21 o → 0 ≤ m 17 (m 21 o) ∧ 0 ≤ m 22 o ∧ m 22 o + m 19 o ≤ m 2 (m 17 (m 21 o))) ∧ ∃ e, 0 ≤ e ∧ e ≤ 800000 ∧ f 20 o = E8 e) ∧
  (0 ≤ m 23 0 ∧ m 23 0 ≤ 10 ∧ ∀ k, 0 ≤ k → k < m 23 0 → 0 ≤ m 24 k ∧ m 24 k ≤ 8)
theorem WF.n {m : Nat → Int → Int} {f : Nat → Int → UInt32} (h : WF m f) : 0 ≤ m 0 0 ∧ m 0 0 ≤ 120 := h.1
theorem WF.b {m : Nat → Int → Int} {f : Nat → Int → UInt32} (h : WF m f) {p : Int} (h1 : 0 ≤ p) (h2 : p < m 0 0) : 0 ≤ m 1 p ∧ m 1 p ≤ 5 ∧ 1 ≤ m 2 p ∧ m 2 p ≤ 2000 ∧ 0 ≤ m 3 p ∧ m 3 p ≤ 2 ∧ 0 ≤ m 4 p ∧ m 4 p ≤ 3 ∧ 0 ≤ m 6 p ∧ m 6 p ≤ 9 ∧ -1 ≤ m 8 p ∧ m 8 p < m 0 0 ∧ -1 ≤ m 10 p ∧ m 10 p ≤ 8 := (h.2.1 p h1 h2).1
theorem WF.h4 {m : Nat → Int → Int} {f : Nat → Int → UInt32} (h : WF m f) : ∀ p, 0 ≤ p → p < m 0 0 → 0 ≤ m 4 p ∧ m 4 p ≤ 3 := fun p h1 h2 => ⟨(h.b h1 h2).2.2.2.2.2.2.1, (h.b h1 h2).2.2.2.2.2.2.2.1⟩

theorem zlc_0 {x z : Int} : zlc x z = 0 ↔ x = z := by unfold zlc; split <;> (try split) <;> omega
theorem zlc_i {x z : Int} : zi (zlc x z) := by unfold zlc zi; split <;> (try split) <;> omega
def prodf (m : Nat → Int → Int) : Nat → Int
  | 0 => 1
  | k + 1 => prodf m k * m 24 (k : Int)
theorem prodf_b {m : Nat → Int → Int} {n : Nat} (h : ∀ k : Int, 0 ≤ k → k < n → 0 ≤ m 24 k ∧ m 24 k ≤ 8) : 0 ≤ prodf m n ∧ prodf m n ≤ 8 ^ n := by
  induction n with
  | zero => exact ⟨show (0 : Int) ≤ 1 by decide, show (1 : Int) ≤ 1 by decide⟩
  | succ n ih =>
    obtain ⟨h1, h2⟩ := ih (fun k a b => h k a (by omega))
    obtain ⟨h3, h4⟩ := h n (by omega) (by omega)
    refine ⟨Int.mul_nonneg h1 h3, ?_⟩
    show prodf m n * m 24 n ≤ 8 ^ (n + 1)
    rw [Int.pow_succ]
    exact Int.mul_le_mul h2 h4 h3 (Int.pow_nonneg (by decide))
theorem prodf_z {m : Nat → Int → Int} {n : Nat} (hn : n ≤ 10) (h : ∀ k : Int, 0 ≤ k → k < n → 0 ≤ m 24 k ∧ m 24 k ≤ 8) : 0 ≤ prodf m n ∧ prodf m n ≤ 1073741824 := by
  obtain ⟨h1, h2⟩ := prodf_b h
  refine ⟨h1, Int.le_trans h2 ?_⟩
  have : ∀ k : Nat, k ≤ 10 → (8 : Int) ^ k ≤ 1073741824 := by decide
  exact this n hn
def low (A B : Nat) (w : Int) : Int := if w = 0 then ((A / Nat.gcd A B : Nat) : Int) else ((B / Nat.gcd A B : Nat) : Int)
/-- the new row of n spots of piece p: k of them made -/
def rowi (m : Nat → Int → Int) (p n i : Int) : Nat → Int → Int := fun k j => if k = 11 ∧ 8 * p ≤ j ∧ j < 8 * p + i then 0 else up2 m 10 p n k j
theorem rowi_0 (m : Nat → Int → Int) (p n : Int) : rowi m p n 0 = up2 m 10 p n := by
  funext k j; unfold rowi; rw [if_neg]; omega
theorem rowi_s (m : Nat → Int → Int) (p n i : Int) (hi : 0 ≤ i) : up2 (rowi m p n i) 11 (8 * p + i) 0 = rowi m p n (i + 1) := by
  funext k j
  by_cases h : k = 11 ∧ j = 8 * p + i
  · obtain ⟨rfl, rfl⟩ := h
    rw [up2_s]; unfold rowi; rw [if_pos]; omega
  · show (if k = 11 ∧ j = 8 * p + i then 0 else rowi m p n i k j) = _
    rw [if_neg h]; unfold rowi
    by_cases h2 : k = 11 ∧ 8 * p ≤ j ∧ j < 8 * p + i
    · rw [if_pos h2, if_pos (by omega)]
    · rw [if_neg h2, if_neg (by omega)]
noncomputable def a_row (m : Nat → Int → Int) (p n : Int) : Int := cif (¬ there m p ∨ n > 8) (-2) (cif (n < 0) (-13) n)
noncomputable def s_row (m : Nat → Int → Int) (p n : Int) : Nat → Int → Int := cif (¬ there m p ∨ n > 8 ∨ n < 0) m (rowi m p n 8)
