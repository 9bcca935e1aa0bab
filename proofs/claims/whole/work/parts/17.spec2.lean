
/-! more of what the calls do -/
/-- piece p is untwisted: k of its parts are free already -/
def unt (m : Nat → Int → Int) (p : Int) : Nat → Nat → Int → Int
  | 0 => up2 m 4 p 3
  | k + 1 => up2 (up2 (unt m p k) 4 (m 7 (9 * p + k)) 0) 8 (m 7 (9 * p + k)) (-1)
theorem unt_r {m : Nat → Int → Int} {p : Int} {n : Nat} {k : Nat} {j : Int} (h4 : k ≠ 4) (h8 : k ≠ 8) : unt m p n k j = m k j := by
  induction n with
  | zero => exact up2_a _ _ _ _ h4 _
  | succ n ih => show up2 _ _ _ _ _ _ = _; rw [up2_a _ _ _ _ h8, up2_a _ _ _ _ h4]; exact ih
noncomputable def a_unt (m : Nat → Int → Int) (p : Int) : Int := cif (¬ free m p ∨ m 6 p = 0) (-2) (m 6 p)
noncomputable def s_unt (m : Nat → Int → Int) (p : Int) : Nat → Int → Int := cif (¬ free m p ∨ m 6 p = 0) m (unt m p (m 6 p).toNat)
def spl_no (m : Nat → Int → Int) (a b n : Int) : Prop := ¬ free m a ∨ ¬ free m b ∨ a = b ∨ ¬ thick m a ∨ ¬ thick m b ∨ m 3 a ≠ m 3 b ∨ n < 1 ∨ n > m 2 a ∨ n > m 2 b ∨ m 2 a + m 2 b - n > 2000 ∨ m 0 0 = 120
noncomputable def a_spl (m : Nat → Int → Int) (a b n : Int) : Int := cif (spl_no m a b n) (-2) (m 0 0)
noncomputable def s_spl (m : Nat → Int → Int) (a b n : Int) : Nat → Int → Int := cif (spl_no m a b n) m (putin (putin (up2 (np m 5 (m 2 a + m 2 b - n) (m 3 a)) 9 (m 0 0) n) (m 0 0) a) (m 0 0) b)
def lmin (m : Nat → Int → Int) : Nat → Int
  | 0 => 2000
  | k + 1 => min (lmin m k) (m 2 (m 16 k))
theorem lmin_b {m : Nat → Int → Int} {n : Nat} (h : ∀ k : Int, 0 ≤ k → k < n → 1 ≤ m 2 (m 16 k)) : 1 ≤ lmin m n ∧ lmin m n ≤ 2000 := by
  induction n with
  | zero => exact ⟨show (1 : Int) ≤ 2000 by decide, show (2000 : Int) ≤ 2000 by decide⟩
  | succ n ih =>
    have h1 := ih (fun k a b => h k a (by omega))
    have h2 := h n (by omega) (by omega)
    show 1 ≤ min (lmin m n) (m 2 (m 16 n)) ∧ min (lmin m n) (m 2 (m 16 n)) ≤ 2000
    omega
def lay_n (m : Nat → Int → Int) (u : Int) : Int := lmin m (m 15 0).toNat * (1000 - u) / 1000
def lay_ct (m : Nat → Int → Int) (k : Int) : Prop := (k = 1 ∧ 2 ≤ m 15 0) ∨ (k = 2 ∧ (m 15 0 = 3 ∨ m 15 0 = 4)) ∨ (k ≠ 1 ∧ k ≠ 2 ∧ m 15 0 = 3)
def lay_ok (m : Nat → Int → Int) (k q u : Int) : Prop := 1 ≤ k ∧ k ≤ 3 ∧ 1 ≤ q ∧ q ≤ 2 ∧ 0 ≤ u ∧ u ≤ 400 ∧ m 0 0 ≠ 120 ∧ lay_ct m k ∧ (∀ i, 0 ≤ i → i < m 15 0 → mayin m k q (m 16 i)) ∧ lay_n m u ≠ 0
/-- k of what is picked is laid into the new piece -/
def lays (m : Nat → Int → Int) (kd n q : Int) : Nat → Nat → Int → Int
  | 0 => np m kd n q
  | k + 1 => putin (lays m kd n q k) (m 0 0) (m 16 k)
noncomputable def a_lay (m : Nat → Int → Int) (k q u : Int) : Int := cif (lay_ok m k q u) (m 0 0) (-2)
noncomputable def s_lay (m : Nat → Int → Int) (k q u : Int) : Nat → Int → Int := cif (lay_ok m k q u) (up2 (lays m k (lay_n m u) q (m 15 0).toNat) 15 0 0) m
theorem np_r {m : Nat → Int → Int} {k n q : Int} {i : Nat} {j : Int} (h : i ≠ 0 ∧ i ≠ 1 ∧ i ≠ 2 ∧ i ≠ 3 ∧ i ≠ 4 ∧ i ≠ 6 ∧ i ≠ 8 ∧ i ≠ 10) : np m k n q i j = m i j := by
  obtain ⟨h0, h1, h2, h3, h4, h5, h6, h7⟩ := h
  unfold np
  rw [up2_a _ _ _ _ h7, up2_a _ _ _ _ h6, up2_a _ _ _ _ h5, up2_a _ _ _ _ h4, up2_a _ _ _ _ h3, up2_a _ _ _ _ h2, up2_a _ _ _ _ h1, up2_a _ _ _ _ h0]
theorem putin_r {m : Nat → Int → Int} {p q : Int} {i : Nat} {j : Int} (h : i ≠ 4 ∧ i ≠ 6 ∧ i ≠ 7 ∧ i ≠ 8) : putin m p q i j = m i j := by
  obtain ⟨h0, h1, h2, h3⟩ := h
  unfold putin
  rw [up2_a _ _ _ _ h3, up2_a _ _ _ _ h0, up2_a _ _ _ _ h1, up2_a _ _ _ _ h2]
theorem putin_6 {m : Nat → Int → Int} {p q : Int} : putin m p q 6 p = m 6 p + 1 := by
  unfold putin
  rw [up2_a _ _ _ _ (by decide), up2_a _ _ _ _ (by decide), up2_s]
theorem np_6 {m : Nat → Int → Int} {k n q : Int} : np m k n q 6 (m 0 0) = 0 := by
  unfold np
  rw [up2_a _ _ _ _ (by decide), up2_a _ _ _ _ (by decide), up2_s]
theorem lays_6 {m : Nat → Int → Int} {kd n q : Int} {k : Nat} : lays m kd n q k 6 (m 0 0) = k := by
  induction k with
  | zero => exact np_6
  | succ k ih => show putin _ _ _ _ _ = _; rw [putin_6, ih]; omega
theorem lays_r {m : Nat → Int → Int} {kd n q : Int} {k : Nat} {i : Nat} {j : Int} (h : i = 15 ∨ i = 16) : lays m kd n q k i j = m i j := by
  induction k with
  | zero => exact np_r (by omega)
  | succ k ih => show putin _ _ _ _ _ = _; rw [putin_r (by omega)]; exact ih
def cntp (m : Nat → Int → Int) (s : Int) : Nat → Int
  | 0 => 0
  | k + 1 => cntp m s k + (if m 4 k = s then 1 else 0)
def cntc (m : Nat → Int → Int) : Nat → Int
  | 0 => 0
  | k + 1 => cntc m k + (if 0 ≤ m 21 k then 1 else 0)
theorem cntp_b {m : Nat → Int → Int} {s : Int} {n : Nat} : 0 ≤ cntp m s n ∧ cntp m s n ≤ n := by
  induction n with
  | zero => exact ⟨Int.le_refl 0, Int.le_refl 0⟩
  | succ n ih => show 0 ≤ cntp m s n + (if m 4 n = s then 1 else 0) ∧ cntp m s n + (if m 4 n = s then 1 else 0) ≤ ((n + 1 : Nat) : Int); omega
theorem cntc_b {m : Nat → Int → Int} {n : Nat} : 0 ≤ cntc m n ∧ cntc m n ≤ n := by
  induction n with
  | zero => exact ⟨Int.le_refl 0, Int.le_refl 0⟩
  | succ n ih => show 0 ≤ cntc m n + (if 0 ≤ m 21 n then 1 else 0) ∧ cntc m n + (if 0 ≤ m 21 n then 1 else 0) ≤ ((n + 1 : Nat) : Int); omega
def a_count (m : Nat → Int → Int) (w : Int) : Int := if w = 0 then m 0 0 else if 1 ≤ w ∧ w ≤ 4 then cntp m (w - 1) (m 0 0).toNat else if w = 7 then cntc m (m 18 0).toNat else if w = 5 then m 15 0 else if w = 6 then m 18 0 else if w = 8 then m 23 0 else -2
noncomputable def lenc (m : Nat → Int → Int) : Nat → Int
  | 0 => 0
  | r + 1 => lenc m r + cif (cutfr m r) (m 2 (m 17 r)) 0
noncomputable def a_pull (m : Nat → Int → Int) (l w : Int) : Int := if prodf m (m 23 0).toNat = 0 then -1 else if l < 0 ∨ l > 1000000 ∨ w < 0 ∨ w > 1 then -2 else low l.toNat (prodf m (m 23 0).toNat).toNat w
noncomputable def a_stress (m : Nat → Int → Int) (k l w : Int) : Int := if k < 0 ∨ k ≥ m 23 0 ∨ l < 0 ∨ l > 1000000 ∨ w < 0 ∨ w > 1 then -2 else if prodf m (k + 1).toNat = 0 then -1 else low l.toNat (prodf m (k + 1).toNat).toNat w
/-- the weight of piece q -/
def wsum (m : Nat → Int → Int) (w : Int → Int) (q : Int) : Nat → Int
  | 0 => 0
  | k + 1 => wsum m w q k + w (m 7 (9 * q + k))
def wgt (m : Nat → Int → Int) (w : Int → Int) (q : Int) : Int := if m 1 q = 0 then m 2 q else if m 1 q = 4 then 2 * m 2 q else if m 1 q = 3 then wsum m w q (m 6 q).toNat + m 2 q else wsum m w q (m 6 q).toNat
def wtf (m : Nat → Int → Int) : Nat → Int → Int
  | 0 => fun _ => 0
  | n + 1 => wgt m (wtf m n)
def wt (m : Nat → Int → Int) (q : Int) : Int := wtf m (q.toNat + 1) q
theorem wsum_congr {m : Nat → Int → Int} {w w' : Int → Int} {q : Int} {n : Nat} (h : ∀ k : Int, 0 ≤ k → k < n → w (m 7 (9 * q + k)) = w' (m 7 (9 * q + k))) : wsum m w q n = wsum m w' q n := by
  induction n with
  | zero => rfl
  | succ n ih => show wsum m w q n + _ = wsum m w' q n + _; rw [ih (fun k a b => h k a (by omega)), h n (by omega) (by omega)]
theorem wgt_congr {m : Nat → Int → Int} {w w' : Int → Int} {q : Int} (h : ∀ k : Int, 0 ≤ k → k < m 6 q → w (m 7 (9 * q + k)) = w' (m 7 (9 * q + k))) : wgt m w q = wgt m w' q := by
  unfold wgt
  rw [wsum_congr (w := w) (w' := w') (fun k a b => h k a (by omega))]
def partsok (m : Nat → Int → Int) (p : Int) : Prop := 0 ≤ m 6 p ∧ ∀ k, 0 ≤ k → k < m 6 p → 0 ≤ m 7 (9 * p + k) ∧ m 7 (9 * p + k) < p
theorem wtf_st {m : Nat → Int → Int} {N : Int} (hp : ∀ q, 0 ≤ q → q < N → partsok m q) : ∀ (n n' : Nat) (q : Int), 0 ≤ q → q < N → q < n → q < n' → wtf m n q = wtf m n' q := by
  intro n
  induction n with
  | zero => intro n' q h0 h1 h2; omega
  | succ n ih =>
    intro n' q h0 h1 h2 h3
    cases n' with
    | zero => omega
    | succ n' =>
      refine wgt_congr (fun k a b => ?_)
      obtain ⟨c1, c2⟩ := (hp q h0 h1).2 k a b
      exact ih n' _ c1 (by omega) (by omega) (by omega)
theorem wt_eq {m : Nat → Int → Int} {N : Int} (hp : ∀ q, 0 ≤ q → q < N → partsok m q) {q : Int} (h0 : 0 ≤ q) (h1 : q < N) : wt m q = wgt m (wt m) q := by
  show wgt m (wtf m q.toNat) q = _
  refine wgt_congr (fun k a b => ?_)
  obtain ⟨c1, c2⟩ := (hp q h0 h1).2 k a b
  exact wtf_st hp _ _ _ c1 (by omega) (by omega) (by omega)
/-- states that are alike but for what is scratch -/
def eqs (m m' : Nat → Int → Int) (f f' : Nat → Int → UInt32) : Prop := (∀ k, k < 25 → k ≠ 22 → ∀ j, m' k j = m k j) ∧ (∀ o, 0 ≤ o → o < m 18 0 → 0 ≤ m 21 o → m' 22 o = m 22 o) ∧ ∀ k, k < 25 → ∀ j, f' k j = f k j
theorem eqs.rf {m : Nat → Int → Int} {f : Nat → Int → UInt32} : eqs m m f f := ⟨fun _ _ _ _ => rfl, fun _ _ _ _ => rfl, fun _ _ _ => rfl⟩
theorem eqs.tr {m m1 m2 : Nat → Int → Int} {f f1 f2 : Nat → Int → UInt32} (h : eqs m m1 f f1) (h' : eqs m1 m2 f1 f2) : eqs m m2 f f2 :=
  ⟨fun k a b j => (h'.1 k a b j).trans (h.1 k a b j), fun o a b c => (h'.2.1 o a (by rw [h.1 18 (by decide) (by decide)]; exact b) (by rw [h.1 21 (by decide) (by decide)]; exact c)).trans (h.2.1 o a b c), fun k a j => (h'.2.2 k a j).trans (h.2.2 k a j)⟩
theorem eqs.up {m : Nat → Int → Int} {f : Nat → Int → UInt32} {k : Nat} (hk : 25 ≤ k) (j v : Int) : eqs m (up2 m k j v) f f := ⟨fun i a _ _ => up2_a _ _ _ _ (by omega) _, fun _ _ _ _ => up2_a _ _ _ _ (by omega) _, fun _ _ _ => rfl⟩
theorem eqs.upf {m : Nat → Int → Int} {f : Nat → Int → UInt32} {k : Nat} (hk : 25 ≤ k) (j : Int) (v : UInt32) : eqs m m f (up2 f k j v) := ⟨fun _ _ _ _ => rfl, fun _ _ _ _ => rfl, fun i a _ => up2_a _ _ _ _ (by omega) _⟩
noncomputable def a_of (m : Nat → Int → Int) (p w : Int) : Int := cif (p < 0 ∨ p ≥ m 0 0) (-2) (if w = 0 then m 1 p else if w = 1 then m 2 p else if w = 2 then m 3 p else if w = 3 then m 4 p else if w = 4 then m 6 p else if w = 5 then wt m p else if w = 6 then m 8 p else if w = 7 then m 10 p else -2)
/-- what carry does -/
def cpi (m : Nat → Int → Int) (k : Nat) (p i o q n : Int) : Int → Int := fun j => if 8 * o + q ≤ j ∧ j < 8 * o + q + n then m k (8 * p + i + (j - (8 * o + q))) else m k j
def cpf (f : Nat → Int → UInt32) (k : Nat) (p i o q n : Int) : Int → UInt32 := fun j => if 8 * o + q ≤ j ∧ j < 8 * o + q + n then f k (8 * p + i + (j - (8 * o + q))) else f k j
def cpm (m : Nat → Int → Int) (p i o q n : Int) : Nat → Int → Int := fun k => if k = 11 ∨ k = 12 ∨ k = 13 then cpi m k p i o q n else m k
def cpmf (f : Nat → Int → UInt32) (p i o q n : Int) : Nat → Int → UInt32 := fun k => if k = 14 then cpf f k p i o q n else f k
def told (m : Nat → Int → Int) (p : Int) : Nat → Int
  | 0 => 0
  | k + 1 => told m p k + (if m 11 (8 * p + k) = 1 then 1 else 0)
def car_no (m : Nat → Int → Int) (p i o k n : Int) : Prop := i < 0 ∨ k < 0 ∨ n < 0 ∨ i + n > m 10 p ∨ k + n > m 10 o
noncomputable def a_car (m : Nat → Int → Int) (p i o k n : Int) : Int := cif (¬ there m p ∨ ¬ there m o) (-2) (cif (m 10 p < 0 ∨ m 10 o < 0) (-10) (cif (car_no m p i o k n) (-11) (told (cpm m p i o k n) o (m 10 o).toNat)))
noncomputable def s_car (m : Nat → Int → Int) (f : Nat → Int → UInt32) (p i o k n : Int) : zS := cif (¬ there m p ∨ ¬ there m o ∨ m 10 p < 0 ∨ m 10 o < 0 ∨ car_no m p i o k n) (m, f) (cpm m p i o k n, cpmf f p i o k n)
