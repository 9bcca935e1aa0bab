
/-! BEARING -/
/-- the share of k spots of piece p at place x, on v -/
def wr (m : Nat → Int → Int) (f : Nat → Int → UInt32) (p x : Int) (v : UInt32) : Nat → UInt32
  | 0 => v
  | k + 1 => if m 11 (8 * p + k) = 1 ∧ m 12 (8 * p + k) ≤ x ∧ x ≤ m 13 (8 * p + k) then FP.fmul (wr m f p x v k) (f 14 (8 * p + k)) else wr m f p x v k
/-- the place on part k of piece p that is at its place z; -1: none -/
def plc (m : Nat → Int → Int) (p k z : Int) : Int :=
  if m 1 p = 5 then (if 0 ≤ (if k = 0 then z else z - m 2 (m 7 (9 * p)) + m 9 p) ∧ (if k = 0 then z else z - m 2 (m 7 (9 * p)) + m 9 p) < m 2 (m 7 (9 * p + k)) then (if k = 0 then z else z - m 2 (m 7 (9 * p)) + m 9 p) else -1)
  else z * m 2 (m 7 (9 * p + k)) / m 2 p
def sm (m : Nat → Int → Int) (bv : Int → Int → UInt32) (p x : Int) : Nat → UInt32
  | 0 => 0
  | k + 1 => FP.fadd (sm m bv p x k) (bv (m 7 (9 * p + k)) (plc m p k x))
def bs (m : Nat → Int → Int) (f : Nat → Int → UInt32) (bv : Int → Int → UInt32) (p x : Int) : UInt32 :=
  if m 1 p = 0 then f 5 p
  else if m 1 p = 4 then FP.fmul (f 5 p) 1056964608
  else if m 1 p = 5 then
    (if plc m p 0 x < 0 then bv (m 7 (9 * p + 1)) (plc m p 1 x)
    else if plc m p 1 x < 0 ∨ ¬ (zfc (FP.fcmp (bv (m 7 (9 * p)) (plc m p 0 x)) (bv (m 7 (9 * p + 1)) (plc m p 1 x))) CmpOp.l < 0) then bv (m 7 (9 * p)) (plc m p 0 x)
    else bv (m 7 (9 * p + 1)) (plc m p 1 x))
  else if m 1 p = 1 then FP.fmul (sm m bv p x (m 6 p).toNat) 1063256064
  else if m 1 p = 2 then FP.fmul (sm m bv p x (m 6 p).toNat) 1061158912
  else FP.fmul (sm m bv p x (m 6 p).toNat) 1059061760
def Bf (m : Nat → Int → Int) (f : Nat → Int → UInt32) : Nat → Int → Int → UInt32
  | 0 => fun _ _ => 0
  | n + 1 => fun p x => wr m f p x (bs m f (Bf m f n) p x) (m 10 p).toNat
/-- what piece p bears at place x -/
def B (m : Nat → Int → Int) (f : Nat → Int → UInt32) (p x : Int) : UInt32 := Bf m f (p.toNat + 1) p x
theorem sm_congr {m : Nat → Int → Int} {b1 b2 : Int → Int → UInt32} {p x : Int} {n : Nat} (h : ∀ k : Int, 0 ≤ k → k < n → b1 (m 7 (9 * p + k)) (plc m p k x) = b2 (m 7 (9 * p + k)) (plc m p k x)) : sm m b1 p x n = sm m b2 p x n := by
  induction n with
  | zero => rfl
  | succ n ih => show FP.fadd (sm m b1 p x n) _ = FP.fadd (sm m b2 p x n) _; rw [ih (fun k a b => h k a (by omega)), h n (by omega) (by omega)]
theorem bs_congr {m : Nat → Int → Int} {f : Nat → Int → UInt32} {b1 b2 : Int → Int → UInt32} {p x : Int} (h5 : m 1 p = 5 → m 6 p = 2) (h : ∀ k : Int, 0 ≤ k → k < m 6 p → b1 (m 7 (9 * p + k)) (plc m p k x) = b2 (m 7 (9 * p + k)) (plc m p k x)) : bs m f b1 p x = bs m f b2 p x := by
  unfold bs
  have hs := sm_congr (m := m) (b1 := b1) (b2 := b2) (p := p) (x := x) (n := (m 6 p).toNat) (fun k a b => h k a (by omega))
  by_cases h5' : m 1 p = 5
  · have h0 := h 0 (by omega) (by rw [h5 h5']; decide)
    have h1 := h 1 (by omega) (by rw [h5 h5']; decide)
    rw [Int.add_zero] at h0
    rw [h0, h1, hs]
  · simp only [if_neg h5', hs]
theorem Bf_st {m : Nat → Int → Int} {f : Nat → Int → UInt32} {N : Int} (hp : ∀ q, 0 ≤ q → q < N → partsok m q ∧ (m 1 q = 5 → m 6 q = 2)) : ∀ (n n' : Nat) (q z : Int), 0 ≤ q → q < N → q < n → q < n' → Bf m f n q z = Bf m f n' q z := by
  intro n
  induction n with
  | zero => intro n' q z h0 h1 h2; omega
  | succ n ih =>
    intro n' q z h0 h1 h2 h3
    cases n' with
    | zero => omega
    | succ n' =>
      show wr m f q z (bs m f (Bf m f n) q z) _ = wr m f q z (bs m f (Bf m f n') q z) _
      rw [bs_congr (hp q h0 h1).2 (fun k a b => by
        obtain ⟨c1, c2⟩ := (hp q h0 h1).1.2 k a b
        exact ih n' _ _ c1 (by omega) (by omega) (by omega))]
theorem B_eq {m : Nat → Int → Int} {f : Nat → Int → UInt32} {N : Int} (hp : ∀ q, 0 ≤ q → q < N → partsok m q ∧ (m 1 q = 5 → m 6 q = 2)) {q : Int} (h0 : 0 ≤ q) (h1 : q < N) (z : Int) : B m f q z = wr m f q z (bs m f (B m f) q z) (m 10 q).toNat := by
  show wr m f q z (bs m f (Bf m f q.toNat) q z) _ = _
  rw [bs_congr (b2 := B m f) (hp q h0 h1).2 (fun k a b => by
    obtain ⟨c1, c2⟩ := (hp q h0 h1).1.2 k a b
    exact Bf_st hp _ _ _ _ c1 (by omega) (by omega) (by omega))]
theorem WF.parts {m : Nat → Int → Int} {f : Nat → Int → UInt32} (h : WF m f) : ∀ q, 0 ≤ q → q < m 0 0 → partsok m q ∧ (m 1 q = 5 → m 6 q = 2) := fun q a b =>
  ⟨⟨(h.b a b).2.2.2.2.2.2.2.2.1, (h.2.1 q a b).2.2.1⟩, fun e => ((h.2.1 q a b).2.2.2.2.2.2.2.2.2.2 e).1⟩
def live (m : Nat → Int → Int) (q : Int) : Prop := 0 ≤ q ∧ q < m 0 0 ∧ m 4 q ≠ 3
/-- a place of a laid or spliced piece lies on its parts -/
theorem plc_b {m : Nat → Int → Int} {f : Nat → Int → UInt32} (h : WF m f) {q k z : Int} (h0 : 0 ≤ q) (h1 : q < m 0 0) (hk : 0 ≤ k) (hk2 : k < m 6 q) (hz : 0 ≤ z) (hz2 : z < m 2 q) : plc m q k z = -1 ∨ (0 ≤ plc m q k z ∧ plc m q k z < m 2 (m 7 (9 * q + k))) := by
  unfold plc
  by_cases h5 : m 1 q = 5
  · rw [if_pos h5]
    generalize (if k = 0 then z else z - m 2 (m 7 (9 * q)) + m 9 q) = w
    by_cases hh : 0 ≤ w ∧ w < m 2 (m 7 (9 * q + k))
    · rw [if_pos hh]; exact Or.inr hh
    · rw [if_neg hh]; exact Or.inl rfl
  · rw [if_neg h5]
    obtain ⟨c1, c2⟩ := (h.parts q h0 h1).1.2 k hk hk2
    have hb := h.b c1 (by omega)
    refine Or.inr ⟨Int.ediv_nonneg (Int.mul_nonneg hz (by omega)) (by omega), ?_⟩
    refine Int.ediv_lt_of_lt_mul (by omega) ?_
    rw [Int.mul_comm z]
    exact Int.mul_lt_mul_of_pos_left hz2 (by omega)
theorem plc_n5 {m : Nat → Int → Int} {f : Nat → Int → UInt32} (h : WF m f) {q k z : Int} (h0 : 0 ≤ q) (h1 : q < m 0 0) (hk : 0 ≤ k) (hk2 : k < m 6 q) (hz : 0 ≤ z) (hz2 : z < m 2 q) (h5 : m 1 q ≠ 5) : 0 ≤ plc m q k z := by
  rcases plc_b h h0 h1 hk hk2 hz hz2 with e | e
  · unfold plc at e
    rw [if_neg h5] at e
    obtain ⟨c1, c2⟩ := (h.parts q h0 h1).1.2 k hk hk2
    have hb := h.b c1 (by omega)
    have hb2 := h.b h0 h1
    have := Int.ediv_nonneg (Int.mul_nonneg hz (show 0 ≤ m 2 (m 7 (9 * q + k)) by omega)) (show 0 ≤ m 2 q by omega)
    omega
  · exact e.1
/-- one of a splice's parts is at each of its places -/
theorem plc_5 {m : Nat → Int → Int} {f : Nat → Int → UInt32} (h : WF m f) {q z : Int} (h0 : 0 ≤ q) (h1 : q < m 0 0) (hz : 0 ≤ z) (hz2 : z < m 2 q) (h5 : m 1 q = 5) : 0 ≤ plc m q 0 z ∨ 0 ≤ plc m q 1 z := by
  obtain ⟨-, -, c1, c2, c3, c4⟩ := (h.2.1 q h0 h1).2.2.2.2.2.2.2.2.2.2 h5
  unfold plc
  simp only [if_pos h5, if_true, Int.add_zero]
  rw [if_neg (show ¬ (1 : Int) = 0 by decide)]
  by_cases hh : z < m 2 (m 7 (9 * q))
  · left; rw [if_pos ⟨hz, hh⟩]; exact hz
  · right; rw [if_pos (by omega)]; omega
def up0 {α : Type} (f : Int → α) (k : Int) (v : α) : Int → α := fun j => if j = k then v else f j
/-! HOW MANY PIECES ARE IN A PIECE -/
def szf (m : Nat → Int → Int) : Nat → Int → Int
  | 0 => fun _ => 0
  | n + 1 => fun q => 1 + wsum m (szf m n) q (m 6 q).toNat
def sz (m : Nat → Int → Int) (q : Int) : Int := szf m (q.toNat + 1) q
theorem szf_st {m : Nat → Int → Int} {N : Int} (hp : ∀ q, 0 ≤ q → q < N → partsok m q) : ∀ (n n' : Nat) (q : Int), 0 ≤ q → q < N → q < n → q < n' → szf m n q = szf m n' q := by
  intro n
  induction n with
  | zero => intro n' q h0 h1 h2; omega
  | succ n ih =>
    intro n' q h0 h1 h2 h3
    cases n' with
    | zero => omega
    | succ n' =>
      show 1 + wsum m (szf m n) q _ = 1 + wsum m (szf m n') q _
      rw [wsum_congr (w := szf m n) (w' := szf m n') (fun k a b => by
        obtain ⟨c1, c2⟩ := (hp q h0 h1).2 k a (by omega)
        exact ih n' _ c1 (by omega) (by omega) (by omega))]
theorem sz_eq {m : Nat → Int → Int} {N : Int} (hp : ∀ q, 0 ≤ q → q < N → partsok m q) {q : Int} (h0 : 0 ≤ q) (h1 : q < N) : sz m q = 1 + wsum m (sz m) q (m 6 q).toNat := by
  show 1 + wsum m (szf m q.toNat) q _ = _
  rw [wsum_congr (w := szf m q.toNat) (w' := sz m) (fun k a b => by
    obtain ⟨c1, c2⟩ := (hp q h0 h1).2 k a (by omega)
    exact szf_st hp _ _ _ c1 (by omega) (by omega) (by omega))]
/-- a sum over the pieces below n, each with its weight -/
def swp (d w : Int → Int) : Nat → Int
  | 0 => 0
  | n + 1 => swp d w n + w n * d n
theorem swp_out {d w : Int → Int} {y : Int} {n : Nat} (h : (n : Int) ≤ y) (v : Int) : swp d (up0 w y v) n = swp d w n := by
  induction n with
  | zero => rfl
  | succ n ih =>
    show swp d (up0 w y v) n + up0 w y v n * d n = swp d w n + w n * d n
    rw [ih (by omega), show up0 w y v n = w n from if_neg (by omega)]
theorem swp_set {d w : Int → Int} {y : Int} {n : Nat} (h0 : 0 ≤ y) (h : y < n) (hw : w y = 0) : swp d (up0 w y 1) n = swp d w n + d y := by
  induction n with
  | zero => omega
  | succ n ih =>
    show swp d (up0 w y 1) n + up0 w y 1 n * d n = swp d w n + w n * d n + d y
    by_cases e : y = n
    · rw [swp_out (by omega), show up0 w y 1 n = 1 from if_pos e.symm, ← e, hw]; omega
    · rw [ih (by omega), show up0 w y 1 n = w n from if_neg (by omega)]; omega
def wadd (m : Nat → Int → Int) (w : Int → Int) (q : Int) : Nat → Int → Int
  | 0 => w
  | k + 1 => up0 (wadd m w q k) (m 7 (9 * q + k)) 1
theorem wadd_e {m : Nat → Int → Int} {w : Int → Int} {q : Int} {n : Nat} (y : Int) : (wadd m w q n y = 1 ∧ ∃ k : Nat, k < n ∧ m 7 (9 * q + k) = y) ∨ (wadd m w q n y = w y ∧ ∀ k : Nat, k < n → m 7 (9 * q + k) ≠ y) := by
  induction n with
  | zero => exact Or.inr ⟨rfl, fun k hk => absurd hk (Nat.not_lt_zero k)⟩
  | succ n ih =>
    by_cases e : y = m 7 (9 * q + n)
    · exact Or.inl ⟨if_pos e, n, Nat.lt_succ_self n, e.symm⟩
    · have h : wadd m w q (n + 1) y = wadd m w q n y := if_neg e
      rw [h]
      rcases ih with ⟨a, k, b, c⟩ | ⟨a, b⟩
      · exact Or.inl ⟨a, k, by omega, c⟩
      · refine Or.inr ⟨a, fun k hk => ?_⟩
        by_cases e2 : k = n
        · rw [e2]; exact fun z => e z.symm
        · exact b k (by omega)
theorem swp_add {m : Nat → Int → Int} {d w : Int → Int} {q : Int} {N : Nat} : ∀ n : Nat, (∀ k : Nat, k < n → 0 ≤ m 7 (9 * q + k) ∧ m 7 (9 * q + k) < N ∧ w (m 7 (9 * q + k)) = 0) → (∀ k l : Nat, k < n → l < n → m 7 (9 * q + k) = m 7 (9 * q + l) → k = l) → swp d (wadd m w q n) N = swp d w N + wsum m d q n := by
  intro n
  induction n with
  | zero => intro _ _; show _ = _ + 0; rw [Int.add_zero]; rfl
  | succ n ih =>
    intro h1 h2
    obtain ⟨a, b, c⟩ := h1 n (Nat.lt_succ_self n)
    show swp d (up0 (wadd m w q n) (m 7 (9 * q + n)) 1) N = swp d w N + (wsum m d q n + d (m 7 (9 * q + n)))
    have hw : wadd m w q n (m 7 (9 * q + n)) = 0 := by
      rcases wadd_e (m := m) (w := w) (q := q) (n := n) (m 7 (9 * q + n)) with ⟨-, k, k1, k2⟩ | ⟨e, -⟩
      · have := h2 k n (by omega) (Nat.lt_succ_self n) k2; omega
      · rw [e]; exact c
    rw [swp_set a b hw, ih (fun k hk => h1 k (by omega)) (fun k l hk hl => h2 k l (by omega) (by omega))]
    omega
section SZ
variable {m : Nat → Int → Int} {f : Nat → Int → UInt32}
theorem sz_sweep (hW : WF m f) {p : Int} (hp : p < m 0 0) : ∀ n : Nat, (n : Int) ≤ p + 1 → ∀ w : Int → Int, (∀ y, w y = 0 ∨ w y = 1) → (∀ y : Int, 0 ≤ y → y < n → w y = 1 → m 4 y ≠ 3 ∧ (y = p ∨ (n : Int) ≤ m 8 y)) → swp (sz m) w n ≤ n := by
  intro n
  induction n with
  | zero => intro _ w _ _; exact Int.le_refl 0
  | succ n ih =>
    intro hn w h01 hv
    show swp (sz m) w n + w n * sz m n ≤ ((n + 1 : Nat) : Int)
    rcases h01 n with e | e
    · have := ih (by omega) w h01 (fun y y0 y1 y2 => by
        have := hv y y0 (by omega) y2
        exact ⟨this.1, by omega⟩)
      rw [e]; omega
    · obtain ⟨v1, v2⟩ := hv n (by omega) (by omega) e
      have hq : (n : Int) < m 0 0 := by omega
      have wq := hW.2.1 n (by omega) hq
      have hb := hW.b (p := (n : Int)) (by omega) hq
      have hpart : ∀ k : Nat, k < (m 6 n).toNat → 0 ≤ m 7 (9 * (n : Int) + k) ∧ m 7 (9 * (n : Int) + k) < n ∧ m 8 (m 7 (9 * (n : Int) + k)) = n ∧ m 4 (m 7 (9 * (n : Int) + k)) = 1 := fun k hk => by
        have a := wq.2.2.1 k (by omega) (by omega)
        have b := wq.2.2.2.2.1 v1 k (by omega) (by omega)
        exact ⟨a.1, a.2, b.1, b.2⟩
      have hw0 : ∀ k : Nat, k < (m 6 n).toNat → w (m 7 (9 * (n : Int) + k)) = 0 := fun k hk => by
        obtain ⟨a, b, c, d⟩ := hpart k hk
        rcases h01 (m 7 (9 * (n : Int) + k)) with z | z
        · exact z
        · have hh := hv (m 7 (9 * (n : Int) + k)) a (by omega) z
          rcases hh.2 with y | y <;> omega
      rw [e, Int.one_mul, sz_eq (fun q a b => (hW.parts q a b).1) (show 0 ≤ (n : Int) by omega) hq]
      have hs := swp_add (m := m) (d := sz m) (w := w) (q := (n : Int)) (N := n) (m 6 n).toNat (fun k hk => ⟨(hpart k hk).1, (hpart k hk).2.1, hw0 k hk⟩) (fun k l hk hl hh => by
        have := wq.2.2.2.1 k l (by omega) (by omega) (by omega) (by omega) hh
        omega)
      have hi := ih (by omega) (wadd m w n (m 6 n).toNat) (fun y => by
        rcases wadd_e (m := m) (w := w) (q := (n : Int)) (n := (m 6 n).toNat) y with ⟨a, -⟩ | ⟨a, -⟩
        · exact Or.inr a
        · rw [a]; exact h01 y) (fun y y0 y1 y2 => by
        rcases wadd_e (m := m) (w := w) (q := (n : Int)) (n := (m 6 n).toNat) y with ⟨a, k, k1, k2⟩ | ⟨a, -⟩
        · obtain ⟨z1, z2, z3, z4⟩ := hpart k k1
          rw [k2] at z3 z4
          exact ⟨by omega, by omega⟩
        · rw [a] at y2
          have := hv y y0 (by omega) y2
          exact ⟨this.1, by omega⟩)
      omega
theorem sz_b (hW : WF m f) {p : Int} (hp : live m p) : sz m p ≤ 120 := by
  obtain ⟨h0, h1, h2⟩ := hp
  have hn := hW.n
  have hz : ∀ n : Nat, (n : Int) ≤ p → swp (sz m) (fun y => if y = p then 1 else 0) n = 0 := fun n => by
    induction n with
    | zero => intro _; rfl
    | succ n ih =>
      intro hh
      show swp (sz m) (fun y => if y = p then 1 else 0) n + (if (n : Int) = p then 1 else 0) * sz m n = 0
      rw [ih (by omega), if_neg (by omega)]; omega
  have h := sz_sweep hW h1 (p.toNat + 1) (by omega) (fun y => if y = p then 1 else 0) (fun y => by
    by_cases e : y = p
    · exact Or.inr (if_pos e)
    · exact Or.inl (if_neg e)) (fun y y0 y1 y2 => by
    by_cases e : y = p
    · exact ⟨by rw [e]; exact h2, Or.inl e⟩
    · have z : (if y = p then (1 : Int) else 0) = 1 := y2
      rw [if_neg e] at z; omega)
  have e : swp (sz m) (fun y => if y = p then 1 else 0) (p.toNat + 1) = swp (sz m) (fun y => if y = p then 1 else 0) p.toNat + (if (p.toNat : Int) = p then 1 else 0) * sz m p.toNat := rfl
  rw [e, hz _ (by omega), if_pos (by omega), show ((p.toNat : Nat) : Int) = p by omega] at h
  omega
theorem wsum_ge {d : Int → Int} {q : Int} {c : Int} {n : Nat} (h : ∀ k : Int, 0 ≤ k → k < n → c ≤ d (m 7 (9 * q + k))) : c * n ≤ wsum m d q n := by
  induction n with
  | zero => show c * 0 ≤ 0; omega
  | succ n ih =>
    have h1 := ih (fun k a b => h k a (by omega))
    have h2 := h n (by omega) (by omega)
    show c * ((n + 1 : Nat) : Int) ≤ wsum m d q n + d (m 7 (9 * q + n))
    rw [show c * ((n + 1 : Nat) : Int) = c * n + c by rw [Int.natCast_add, Int.mul_add]; show c * n + c * 1 = _; rw [Int.mul_one]]
    omega
theorem sz_pos (hW : WF m f) : ∀ n : Nat, ∀ p : Int, 0 ≤ p → p < m 0 0 → p < n → 1 ≤ sz m p := by
  intro n
  induction n with
  | zero => intro p h0 h1 h2; omega
  | succ n ih =>
    intro p h0 h1 h2
    rw [sz_eq (fun q a b => (hW.parts q a b).1) h0 h1]
    have h := wsum_ge (m := m) (d := sz m) (q := p) (c := 0) (n := (m 6 p).toNat) (fun k a b => by
      obtain ⟨c1, c2⟩ := (hW.parts p h0 h1).1.2 k a (by omega)
      have := ih _ c1 (by omega) (by omega); omega)
    omega
end SZ
/-! FLOATS, BY THEIR VALUES: v32 counts by 2^-149 -/
section FLT
def v32 (a : UInt32) : Int := FP.Core.zval FP.Core.b32 (FP.Core.val32 a)
theorem n32_of {a : UInt32} (h : FP.Core.fIsNaN a = false) : vf_n32 a := by
  unfold vf_n32
  rw [UInt32.le_iff_toNat_le, FP.Core.mask_toNat32]
  have h1 : ¬ (2139095040 < a.toNat % 2 ^ 31) := fun q => by rw [(FP.Core.isNaN_bits32 a).mpr q] at h; cases h
  show a.toNat % 2 ^ 31 ≤ 2139095040
  omega
theorem FFin.nn {a : UInt32} (h : FP.Core.FFin a) : FP.Core.fIsNaN a = false := by
  refine (FP.Core.notNaN_iff32 a).mpr ?_
  obtain ⟨s, c, q, e⟩ := h
  rw [e]; exact fun z => by cases z
theorem n32_fin {a : UInt32} (h : FP.Core.FFin a) : vf_n32 a := n32_of (FFin.nn h)
/-- not below nought, and at most N -/
def IB (a : UInt32) (N : Int) : Prop := a.toNat < 2139095040 ∧ v32 a ≤ N
theorem IB.fin {a : UInt32} {N : Int} (h : IB a N) : FP.Core.FFin a := by
  have h1 := h.1
  rw [FP.Core.fin_bits32]; omega
theorem IB.nn {a : UInt32} {N : Int} (h : IB a N) : FP.Core.val32 a ≠ .nan := (FP.Core.notNaN_iff32 a).mp (FFin.nn h.fin)
theorem IB.ge {a : UInt32} {N : Int} (h : IB a N) : 0 ≤ v32 a := FP.Core.zval_nonneg32 h.nn (by have := h.1; omega)
theorem IB.sgn {a : UInt32} {N : Int} (h : IB a N) : FP.Core.sgn (FP.Core.val32 a) = false := by
  rw [FP.Core.sgn_bits32 h.nn]; exact decide_eq_false (by have := h.1; omega)
theorem IB.le {a : UInt32} {N K : Int} (h : IB a N) (hK : N ≤ K) : IB a K := ⟨h.1, Int.le_trans h.2 hK⟩
/-- what is rounded and no greater than a number -/
theorem IB.of_round {x V : UInt32} {c : Nat} {q : Int} (h : FP.Core.val32 x = FP.Core.round FP.Core.b32 (.fin false c q)) (hV : FP.Core.FFin V) (hle : v32 x ≤ v32 V) : IB x (v32 V) := by
  have hn : FP.Core.val32 x ≠ .nan := by rw [h]; exact FP.Core.roundRatio_ne_nan _ _ _ _ _
  have hs : FP.Core.sgn (FP.Core.val32 x) = false := by rw [h]; exact FP.Core.sgn_roundRatio _ _ _ _ _
  have hb : x.toNat < 2 ^ 31 := by
    have e := FP.Core.sgn_bits32 hn
    rw [hs] at e
    have := of_decide_eq_false e.symm
    omega
  have hf : FP.Core.FFin x := by
    cases hx : FP.Core.val32 x with
    | nan => exact absurd hx hn
    | inf s =>
      exfalso
      have e1 : v32 x = ((FP.Core.b32.tails * 2 ^ (FP.Core.b32.exps - 2) : Nat) : Int) := by
        unfold v32 FP.Core.zval
        rw [hs, hx]; rfl
      have e2 := FP.Core.FFin.zval_lt hV
      have e3 : v32 V ≤ (FP.Core.zmag FP.Core.b32 (FP.Core.val32 V) : Int) := by
        unfold v32 FP.Core.zval FP.Core.signed
        split <;> omega
      omega
    | fin s c q => exact ⟨s, c, q, hx⟩
  have h2 := (FP.Core.fin_bits32 x).mp hf
  exact ⟨by omega, hle⟩
theorem IB.add {a b V : UInt32} {N K : Int} (ha : IB a N) (hb : IB b K) (hV : FP.Core.FFin V) (h : N + K ≤ v32 V) : IB (FP.fadd a b) (v32 V) := by
  obtain ⟨s, c, q, ea⟩ := ha.fin
  obtain ⟨t, d, r, eb⟩ := hb.fin
  have fa := FP.Core.val32_fits a
  have fb := FP.Core.val32_fits b
  have sa := ha.sgn
  have sb := hb.sgn
  have za : v32 a = FP.Core.zval FP.Core.b32 (.fin s c q) := by unfold v32; rw [ea]
  have zb : v32 b = FP.Core.zval FP.Core.b32 (.fin t d r) := by unfold v32; rw [eb]
  rw [ea] at fa sa
  rw [eb] at fb sb
  have hs : s = false := sa
  have ht : t = false := sb
  obtain ⟨sg, n, e, h1, h2, h3⟩ := FP.Core.sum_units fa fb
  have hsum := FP.Core.val32_fadd a b
  rw [ea, eb, h1] at hsum
  have hsg : sg = false := by
    subst hs; subst ht
    have h4 : FP.Core.sgn (FP.Core.exactSum (.fin false c q) (.fin false d r)) = sg := by rw [h1]; rfl
    rw [← h4]
    show FP.Core.sumSign false false (FP.Core.sumUnits false c q false d r (min q r)) = false
    unfold FP.Core.sumSign FP.Core.sumUnits FP.Core.signed
    simp only [Bool.false_eq_true, if_false, Bool.and_self]
    split
    · rfl
    · exact decide_eq_false (by omega)
  subst hsg
  have hle : v32 (FP.fadd a b) ≤ v32 V := by
    unfold v32
    rw [hsum]
    refine FP.Core.zval_round_le FP.Core.good_b32 (e0 := FP.Core.b32.qmin) (FP.Core.val32_fits V) ((FP.Core.notNaN_iff32 V).mp (FFin.nn hV)) (Int.le_refl _) h2 ?_
    rw [h3, ← za, ← zb, Int.sub_self]
    show v32 a + v32 b ≤ v32 V * ((1 : Nat) : Int)
    have := ha.2
    have := hb.2
    omega
  exact IB.of_round hsum hV hle
theorem IB.mul {a b V : UInt32} {N K : Int} (ha : IB a N) (hb : IB b K) (hV : FP.Core.FFin V) (h : N * K ≤ v32 V * (FP.Core.one32 : Int)) : IB (FP.fmul a b) (v32 V) := by
  obtain ⟨s, c, q, ea⟩ := ha.fin
  obtain ⟨t, d, r, eb⟩ := hb.fin
  have fa := FP.Core.val32_fits a
  have fb := FP.Core.val32_fits b
  have sa := ha.sgn
  have sb := hb.sgn
  have za : v32 a = FP.Core.zval FP.Core.b32 (.fin s c q) := by unfold v32; rw [ea]
  have zb : v32 b = FP.Core.zval FP.Core.b32 (.fin t d r) := by unfold v32; rw [eb]
  rw [ea] at fa sa
  rw [eb] at fb sb
  have hs : s = false := sa
  have ht : t = false := sb
  obtain ⟨h1, h2, h3⟩ := FP.Core.product_units fa fb
  have hm := FP.Core.val32_fmul a b
  rw [ea, eb, h1] at hm
  subst hs; subst ht
  have hq : FP.Core.b32.qmin - 2 * FP.Core.b32.qmin = -FP.Core.b32.qmin := by omega
  have hqn : 2 * FP.Core.b32.qmin ≤ FP.Core.b32.qmin := by have := FP.Core.qmin_b32; omega
  have hle : v32 (FP.fmul a b) ≤ v32 V := by
    unfold v32
    rw [hm]
    refine FP.Core.zval_round_le FP.Core.good_b32 (e0 := 2 * FP.Core.b32.qmin) (FP.Core.val32_fits V) ((FP.Core.notNaN_iff32 V).mp (FFin.nn hV)) hqn h2 ?_
    rw [h3, hq, FP.Core.pow_qmin32]
    have e1 : v32 a = (FP.Core.zmag FP.Core.b32 (.fin false c q) : Int) := za
    have e2 : v32 b = (FP.Core.zmag FP.Core.b32 (.fin false d r) : Int) := zb
    show ((FP.Core.zmag FP.Core.b32 (.fin false c q) * FP.Core.zmag FP.Core.b32 (.fin false d r) : Nat) : Int) ≤ v32 V * (FP.Core.one32 : Int)
    rw [Int.natCast_mul, ← e1, ← e2]
    exact Int.le_trans (Int.mul_le_mul ha.2 hb.2 hb.ge (Int.le_trans ha.ge ha.2)) h
  exact IB.of_round hm hV hle
/-- whole numbers -/
def fI (n : Int) : UInt32 := FP.i2f (Int32.ofInt n)
theorem fI_v {n : Int} (h0 : 0 ≤ n) (h1 : n ≤ 16777216) : v32 (fI n) = n * (FP.Core.one32 : Int) := by
  have e : (Int32.ofInt n).toInt = n := zi_toInt ⟨by omega, by omega⟩
  have h := FP.Core.i2f_int (a := Int32.ofInt n) (by rw [e]; omega)
  rw [e] at h
  exact FP.Core.FInt_zval h
theorem fI_fin {n : Int} : FP.Core.FFin (fI n) := FP.Core.i2f_fin _
theorem fI_IB {n : Int} (h0 : 0 ≤ n) (h1 : n ≤ 16777216) : IB (fI n) (n * (FP.Core.one32 : Int)) := by
  have e : (Int32.ofInt n).toInt = n := zi_toInt ⟨by omega, by omega⟩
  have h := FP.Core.val32_i2f (Int32.ofInt n)
  rw [e] at h
  have hd : FP.Core.ofInt n = .fin false n.natAbs 0 := by
    unfold FP.Core.ofInt
    rw [decide_eq_false (by omega)]
  rw [hd] at h
  rw [← fI_v h0 h1]
  exact IB.of_round h fI_fin (Int.le_refl _)
/-- at most n -/
def IN (a : UInt32) (n : Int) : Prop := IB a (n * (FP.Core.one32 : Int))
theorem IN.le {a : UInt32} {n k : Int} (h : IN a n) (hk : n ≤ k) : IN a k := IB.le h (Int.mul_le_mul_of_nonneg_right hk (Int.natCast_nonneg _))
theorem IN.add {a b : UInt32} {n k : Int} (ha : IN a n) (hb : IN b k) (h0 : 0 ≤ n + k) (h1 : n + k ≤ 16777216) : IN (FP.fadd a b) (n + k) := by
  unfold IN
  rw [← fI_v h0 h1]
  exact IB.add ha hb fI_fin (by rw [fI_v h0 h1, Int.add_mul]; exact Int.le_refl _)
theorem IN.mul {a b : UInt32} {n : Int} (ha : IN a n) (hb : IN b 1) (h0 : 0 ≤ n) (h1 : n ≤ 16777216) : IN (FP.fmul a b) n := by
  unfold IN
  rw [← fI_v h0 h1]
  refine IB.mul ha hb fI_fin ?_
  rw [fI_v h0 h1, Int.one_mul]; exact Int.le_refl _
theorem v32_8 : v32 1040187392 * 8 = (FP.Core.one32 : Int) := by unfold v32; decide +kernel
theorem IB_8 : IB 1040187392 (v32 1040187392) := ⟨by decide, Int.le_refl _⟩
theorem IN_E8 {e n : Int} (h0 : 0 ≤ e) (h1 : e ≤ 800000) (h : e ≤ 8 * n) (hn : n ≤ 16777216) : IN (E8 e) n := by
  unfold IN
  have n0 : 0 ≤ n := by omega
  rw [← fI_v n0 hn]
  refine IB.mul (fI_IB h0 (by omega)) IB_8 fI_fin ?_
  rw [fI_v n0 hn]
  have h8 := v32_8
  generalize v32 1040187392 = K at h8 ⊢
  have hK : 0 ≤ K * (FP.Core.one32 : Int) := by
    have : 0 ≤ (FP.Core.one32 : Int) := Int.natCast_nonneg _
    exact Int.mul_nonneg (by omega) this
  have e1 : n * (FP.Core.one32 : Int) * (FP.Core.one32 : Int) = (8 * n) * (K * (FP.Core.one32 : Int)) := by
    rw [← h8]; simp only [Int.mul_assoc, Int.mul_left_comm, Int.mul_comm]
  have e2 : e * (FP.Core.one32 : Int) * K = e * (K * (FP.Core.one32 : Int)) := by rw [Int.mul_assoc, Int.mul_comm (FP.Core.one32 : Int) K]
  rw [e1, e2]
  exact Int.mul_le_mul_of_nonneg_right h hK
theorem IN_h : IN 1056964608 1 ∧ IN 1063256064 1 ∧ IN 1061158912 1 ∧ IN 1059061760 1 ∧ IN 0 0 := by
  unfold IN IB v32
  refine ⟨⟨by decide, ?_⟩, ⟨by decide, ?_⟩, ⟨by decide, ?_⟩, ⟨by decide, ?_⟩, ⟨by decide, ?_⟩⟩ <;> decide +kernel
theorem unI {a : UInt32} (h : a.toNat < 2139095040) : v32 a = (FP.Core.unitsOf FP.Core.b32 a.toNat : Int) := by
  have hI : IB a (v32 a) := ⟨h, Int.le_refl _⟩
  have e := FP.Core.zmag_bits32 hI.nn
  unfold v32 FP.Core.zval
  rw [hI.sgn, e, Nat.mod_eq_of_lt (by omega)]; rfl
theorem IN.okv {a : UInt32} {n : Int} (h : IN a n) (hn : n ≤ 2097152) : a.toNat ≤ 1241513984 := by
  have h2 := (IN.le h hn).2
  have e : (2097152 : Int) * (FP.Core.one32 : Int) = v32 1241513984 := by unfold v32; decide +kernel
  rw [e, unI h.1, unI (by decide)] at h2
  have h3 : FP.Core.unitsOf FP.Core.b32 a.toNat ≤ FP.Core.unitsOf FP.Core.b32 (1241513984 : UInt32).toNat := by omega
  exact FP.Core.unitsOf_le_iff.mp h3
end FLT
/-! WHAT A PIECE BEARS IS AT MOST 10000 A PIECE IN IT -/
section BB
variable {m : Nat → Int → Int} {f : Nat → Int → UInt32}
theorem wsum_nn {d : Int → Int} {q : Int} {n : Nat} (h : ∀ j : Int, 0 ≤ j → j < n → 0 ≤ d (m 7 (9 * q + j))) : 0 ≤ wsum m d q n := by
  induction n with
  | zero => exact Int.le_refl 0
  | succ n ih =>
    have hn := h n (by omega) (by omega)
    have e : wsum m d q (n + 1) = wsum m d q n + d (m 7 (9 * q + n)) := rfl
    have := ih (fun j a b => h j a (by omega))
    rw [e]; omega
theorem wsum_mono {d : Int → Int} {q : Int} {n k : Nat} (hk : k ≤ n) (h : ∀ j : Int, 0 ≤ j → j < n → 0 ≤ d (m 7 (9 * q + j))) : 0 ≤ wsum m d q k ∧ wsum m d q k ≤ wsum m d q n := by
  refine ⟨wsum_nn (fun j a b => h j a (by omega)), ?_⟩
  induction n with
  | zero =>
    have : k = 0 := by omega
    subst this
    exact Int.le_refl 0
  | succ n ih =>
    have hn := h n (by omega) (by omega)
    have e : wsum m d q (n + 1) = wsum m d q n + d (m 7 (9 * q + n)) := rfl
    by_cases c : k = n + 1
    · subst c
      exact Int.le_refl _
    · have i2 := ih (by omega) (fun j a b => h j a (by omega))
      rw [e]; omega
theorem sm_IN {B0 : Int → Int → UInt32} {d : Int → Int} {p z : Int} {n : Nat} (hB : ∀ k : Int, 0 ≤ k → k < n → IN (B0 (m 7 (9 * p + k)) (plc m p k z)) (10000 * d (m 7 (9 * p + k)))) (hd : ∀ k : Int, 0 ≤ k → k < n → 0 ≤ d (m 7 (9 * p + k))) (hb : wsum m d p n ≤ 120) : ∀ k : Nat, k ≤ n → IN (sm m B0 p z k) (10000 * wsum m d p k) := by
  intro k
  induction k with
  | zero => intro _; exact IN_h.2.2.2.2
  | succ k ih =>
    intro hk
    have i := ih (by omega)
    have b := hB k (by omega) (by omega)
    have w1 := wsum_mono (m := m) (d := d) (q := p) (n := n) (k := k + 1) hk hd
    have e : wsum m d p (k + 1) = wsum m d p k + d (m 7 (9 * p + k)) := rfl
    have h := IN.add i b (by omega) (by omega)
    show IN (FP.fadd (sm m B0 p z k) (B0 (m 7 (9 * p + k)) (plc m p k z))) (10000 * wsum m d p (k + 1))
    rw [e, Int.mul_add]; exact h
/-- a share of a told spot -/
theorem share_IN (hW : WF m f) {p : Int} (h0 : 0 ≤ p) (h1 : p < m 0 0) {k : Nat} (hk : (k : Int) < m 10 p) (ht : m 11 (8 * p + k) = 1) : IN (f 14 (8 * p + k)) 1 := by
  obtain ⟨e, e0, e1, e2⟩ := ((hW.2.1 p h0 h1).2.2.2.2.2.1 k (by omega) hk).2.2.2.2.2.2 ht
  rw [e2]
  exact IN_E8 e0 (by omega) (by omega) (by decide)
theorem wr_IN (hW : WF m f) {p z : Int} (h0 : 0 ≤ p) (h1 : p < m 0 0) {v : UInt32} {n : Int} (hv : IN v n) (n0 : 0 ≤ n) (n1 : n ≤ 16777216) : ∀ k : Nat, (k : Int) ≤ m 10 p ∨ k = 0 → IN (wr m f p z v k) n := by
  intro k
  induction k with
  | zero => intro _; exact hv
  | succ k ih =>
    intro hk
    have i := ih (Or.inl (by omega))
    show IN (if m 11 (8 * p + k) = 1 ∧ m 12 (8 * p + k) ≤ z ∧ z ≤ m 13 (8 * p + k) then FP.fmul (wr m f p z v k) (f 14 (8 * p + k)) else wr m f p z v k) n
    split
    · next c => exact IN.mul i (share_IN hW h0 h1 (by omega) c.1) n0 n1
    · exact i
theorem str_IN (hW : WF m f) {p : Int} (h0 : 0 ≤ p) (h1 : p < m 0 0) : IN (f 5 p) 10000 := by
  obtain ⟨e, e0, e1, e2⟩ := (hW.2.1 p h0 h1).2.1
  rw [e2]
  exact IN_E8 e0 (by omega) (by omega) (by decide)
theorem lpart (hW : WF m f) {p k : Int} (hp : live m p) (hk : 0 ≤ k) (hk2 : k < m 6 p) : live m (m 7 (9 * p + k)) ∧ m 7 (9 * p + k) < p := by
  obtain ⟨h0, h1, h2⟩ := hp
  obtain ⟨c1, c2⟩ := (hW.parts p h0 h1).1.2 k hk hk2
  obtain ⟨o1, o2⟩ := (hW.2.1 p h0 h1).2.2.2.2.1 h2 k hk hk2
  exact ⟨⟨c1, by omega, by rw [o2]; decide⟩, c2⟩
theorem sz_1 (hW : WF m f) {p : Int} (h0 : 0 ≤ p) (h1 : p < m 0 0) : 1 ≤ sz m p := sz_pos hW (p.toNat + 1) p h0 h1 (by omega)
/-- what its parts bear, together -/
theorem sum_IN (hW : WF m f) {p z : Int} (hp : live m p) (h5 : m 1 p ≠ 5) (hz : 0 ≤ z) (hz2 : z < m 2 p) (hB : ∀ q y, live m q → q < p → 0 ≤ y → y < m 2 q → IN (B m f q y) (10000 * sz m q)) : (∀ k : Nat, (k : Int) ≤ m 6 p → IN (sm m (B m f) p z k) (10000 * wsum m (sz m) p k)) ∧ (∀ k : Nat, (k : Int) < m 6 p → IN (B m f (m 7 (9 * p + k)) (plc m p k z)) (10000 * sz m (m 7 (9 * p + k)))) ∧ wsum m (sz m) p (m 6 p).toNat + 1 = sz m p ∧ ∀ k : Nat, (k : Int) ≤ m 6 p → 0 ≤ wsum m (sz m) p k ∧ wsum m (sz m) p k ≤ 120 := by
  obtain ⟨h0, h1, h2⟩ := id hp
  have es := sz_eq (m := m) (fun q a b => (hW.parts q a b).1) h0 h1
  have hs := sz_b hW hp
  have hb := hW.b h0 h1
  have hl := fun k (a : 0 ≤ k) (b : k < m 6 p) => lpart hW hp a b
  have hpl := fun k (a : 0 ≤ k) (b : k < m 6 p) => plc_b hW h0 h1 a b hz hz2
  have hpn := fun k (a : 0 ≤ k) (b : k < m 6 p) => plc_n5 hW h0 h1 a b hz hz2 h5
  have hd : ∀ k : Int, 0 ≤ k → k < ((m 6 p).toNat : Int) → 0 ≤ sz m (m 7 (9 * p + k)) := fun k a b => by
    have l := (hl k a (by omega)).1
    have := sz_1 hW l.1 l.2.1; omega
  have hBk : ∀ k : Int, 0 ≤ k → k < ((m 6 p).toNat : Int) → IN (B m f (m 7 (9 * p + k)) (plc m p k z)) (10000 * sz m (m 7 (9 * p + k))) := fun k a b => by
    have l := hl k a (by omega)
    have n5 := hpn k a (by omega)
    exact hB _ _ l.1 l.2 n5 ((hpl k a (by omega)).resolve_left (by omega)).2
  refine ⟨fun k hk => sm_IN hBk hd (by omega) k (by omega), fun k hk => hBk k (by omega) (by omega), by omega, fun k hk => ?_⟩
  have := wsum_mono (m := m) (d := sz m) (q := p) (n := (m 6 p).toNat) (k := k) (by omega) hd
  omega
theorem bs_IN (hW : WF m f) {p z : Int} (hp : live m p) (hz : 0 ≤ z) (hz2 : z < m 2 p) (hB : ∀ q y, live m q → q < p → 0 ≤ y → y < m 2 q → IN (B m f q y) (10000 * sz m q)) : IN (bs m f (B m f) p z) (10000 * sz m p) := by
  obtain ⟨h0, h1, h2⟩ := id hp
  have hs := sz_b hW hp
  have hs1 := sz_1 hW h0 h1
  have hb := hW.b h0 h1
  obtain ⟨i1, i2, i3, i4, -⟩ := IN_h
  have st := str_IN hW h0 h1
  unfold bs
  by_cases k0 : m 1 p = 0
  · rw [if_pos k0]; exact st.le (by omega)
  · rw [if_neg k0]
    by_cases k4 : m 1 p = 4
    · rw [if_pos k4]; exact (st.mul i1 (by decide) (by decide)).le (by omega)
    · rw [if_neg k4]
      by_cases k5 : m 1 p = 5
      · rw [if_pos k5]
        have h6 := (hW.parts p h0 h1).2 k5
        have es := sz_eq (m := m) (fun q a b => (hW.parts q a b).1) h0 h1
        rw [show (m 6 p).toNat = 2 by omega] at es
        have es' : sz m p = 1 + ((0 + sz m (m 7 (9 * p + 0))) + sz m (m 7 (9 * p + 1))) := es
        have l0 := lpart hW hp (k := 0) (by decide) (by omega)
        have l1 := lpart hW hp (k := 1) (by decide) (by omega)
        have s0 := sz_1 hW l0.1.1 l0.1.2.1
        have s1 := sz_1 hW l1.1.1 l1.1.2.1
        have b0 := plc_b hW h0 h1 (k := 0) (by decide) (by omega) hz hz2
        have b1 := plc_b hW h0 h1 (k := 1) (by decide) (by omega) hz hz2
        have b5 := plc_5 hW h0 h1 hz hz2 k5
        rw [Int.add_zero] at l0 s0 b0 es'
        have B0 : 0 ≤ plc m p 0 z → IN (B m f (m 7 (9 * p)) (plc m p 0 z)) (10000 * sz m p) := fun h => (hB _ _ l0.1 l0.2 h (b0.resolve_left (by omega)).2).le (by omega)
        have B1 : 0 ≤ plc m p 1 z → IN (B m f (m 7 (9 * p + 1)) (plc m p 1 z)) (10000 * sz m p) := fun h => (hB _ _ l1.1 l1.2 h (b1.resolve_left (by omega)).2).le (by omega)
        split
        · next c => exact B1 (by omega)
        · next c =>
          split
          · exact B0 (by omega)
          · next d => exact B1 (by
              by_cases e : 0 ≤ plc m p 1 z
              · exact e
              · exact absurd (Or.inl (by omega)) d)
      · rw [if_neg k5]
        obtain ⟨c1, c2, c3, c4⟩ := sum_IN hW hp k5 hz hz2 hB
        have c := c1 (m 6 p).toNat (by omega)
        have w := c4 (m 6 p).toNat (by omega)
        split
        · exact (c.mul i2 (by omega) (by omega)).le (by omega)
        · split
          · exact (c.mul i3 (by omega) (by omega)).le (by omega)
          · exact (c.mul i4 (by omega) (by omega)).le (by omega)
theorem B_IN (hW : WF m f) : ∀ n : Nat, ∀ q z, live m q → q < n → 0 ≤ z → z < m 2 q → IN (B m f q z) (10000 * sz m q) := by
  intro n
  induction n with
  | zero => intro q z hq h; have := hq.1; omega
  | succ n ih =>
    intro q z hq hn hz hz2
    have hs := sz_b hW hq
    have hs1 := sz_1 hW hq.1 hq.2.1
    rw [B_eq hW.parts hq.1 hq.2.1]
    exact wr_IN hW hq.1 hq.2.1 (bs_IN hW hq hz hz2 (fun q' y l1 l2 y0 y1 => ih q' y l1 (by omega) y0 y1)) (by omega) (by omega) _ (by omega)
theorem B_INl (hW : WF m f) {q z : Int} (hq : live m q) (hz : 0 ≤ z) (hz2 : z < m 2 q) : IN (B m f q z) (10000 * sz m q) := B_IN hW (q.toNat + 1) q z hq (by have := hq.1; omega) hz hz2
theorem B_ok' (h : WF m f) {q z : Int} (hq : live m q) (hz : 0 ≤ z) (hz2 : z < m 2 q) : (B m f q z).toNat ≤ 1241513984 := by
  have hs := sz_b h hq
  exact (B_INl h hq hz hz2).okv (by omega)
theorem B_nums' (h : WF m f) {q z : Int} (hq : live m q) (hz : 0 ≤ z) (hz2 : z < m 2 q) :
    (m 1 q = 4 → vf_n32 (FP.fmul (f 5 q) 1056964608)) ∧
    ((m 1 q = 1 ∨ m 1 q = 2 ∨ m 1 q = 3) → ∀ k : Nat, (k : Int) < m 6 q → vf_n32 (FP.fadd (sm m (B m f) q z k) (B m f (m 7 (9 * q + k)) (plc m q k z)))) ∧
    (m 1 q = 1 → vf_n32 (FP.fmul (sm m (B m f) q z (m 6 q).toNat) 1063256064)) ∧ (m 1 q = 2 → vf_n32 (FP.fmul (sm m (B m f) q z (m 6 q).toNat) 1061158912)) ∧ (m 1 q = 3 → vf_n32 (FP.fmul (sm m (B m f) q z (m 6 q).toNat) 1059061760)) ∧
    (∀ k : Nat, (k : Int) < m 10 q → m 11 (8 * q + k) = 1 → vf_n32 (FP.fmul (wr m f q z (bs m f (B m f) q z) k) (f 14 (8 * q + k)))) := by
  have hs := sz_b h hq
  have hs1 := sz_1 h hq.1 hq.2.1
  have hb := h.b hq.1 hq.2.1
  obtain ⟨i1, i2, i3, i4, -⟩ := IN_h
  have hB : ∀ q' y, live m q' → q' < q → 0 ≤ y → y < m 2 q' → IN (B m f q' y) (10000 * sz m q') := fun q' y l _ y0 y1 => B_INl h l y0 y1
  have S := fun (h5 : m 1 q ≠ 5) => sum_IN h hq h5 hz hz2 hB
  refine ⟨fun _ => n32_fin ((str_IN h hq.1 hq.2.1).mul i1 (by decide) (by decide)).fin, fun hk k hkk => ?_, fun hk => ?_, fun hk => ?_, fun hk => ?_, fun k hk ht => ?_⟩
  · obtain ⟨c1, c2, c3, c4⟩ := S (by omega)
    have w := c4 (k + 1) (by omega)
    have c := c1 (k + 1) (by omega)
    exact n32_fin c.fin
  · obtain ⟨c1, c2, c3, c4⟩ := S (by omega)
    have w := c4 (m 6 q).toNat (by omega)
    exact n32_fin ((c1 (m 6 q).toNat (by omega)).mul i2 (by omega) (by omega)).fin
  · obtain ⟨c1, c2, c3, c4⟩ := S (by omega)
    have w := c4 (m 6 q).toNat (by omega)
    exact n32_fin ((c1 (m 6 q).toNat (by omega)).mul i3 (by omega) (by omega)).fin
  · obtain ⟨c1, c2, c3, c4⟩ := S (by omega)
    have w := c4 (m 6 q).toNat (by omega)
    exact n32_fin ((c1 (m 6 q).toNat (by omega)).mul i4 (by omega) (by omega)).fin
  · have w := wr_IN h (z := z) hq.1 hq.2.1 (bs_IN h hq hz hz2 hB) (by omega) (by omega) k (Or.inl (by omega))
    exact n32_fin (w.mul (share_IN h hq.1 hq.2.1 hk ht) (by omega) (by omega)).fin
end BB
/-- WHAT THE NUMBERS ARE (proved below, with the floats) -/
theorem B_nums {m : Nat → Int → Int} {f : Nat → Int → UInt32} (h : WF m f) {q z : Int} (hq : live m q) (hz : 0 ≤ z) (hz2 : z < m 2 q) :
    (m 1 q = 4 → vf_n32 (FP.fmul (f 5 q) 1056964608)) ∧
    ((m 1 q = 1 ∨ m 1 q = 2 ∨ m 1 q = 3) → ∀ k : Nat, (k : Int) < m 6 q → vf_n32 (FP.fadd (sm m (B m f) q z k) (B m f (m 7 (9 * q + k)) (plc m q k z)))) ∧
    (m 1 q = 1 → vf_n32 (FP.fmul (sm m (B m f) q z (m 6 q).toNat) 1063256064)) ∧ (m 1 q = 2 → vf_n32 (FP.fmul (sm m (B m f) q z (m 6 q).toNat) 1061158912)) ∧ (m 1 q = 3 → vf_n32 (FP.fmul (sm m (B m f) q z (m 6 q).toNat) 1059061760)) ∧
    (∀ k : Nat, (k : Int) < m 10 q → m 11 (8 * q + k) = 1 → vf_n32 (FP.fmul (wr m f q z (bs m f (B m f) q z) k) (f 14 (8 * q + k)))) := B_nums' h hq hz hz2
/-- the places told -/
def s30 (m : Nat → Int → Int) (pl : Int → Int) : Nat → Int → Int := fun k j => if k = 30 then pl j else m k j
def s31 (f : Nat → Int → UInt32) (be : Int → UInt32) : Nat → Int → UInt32 := fun k j => if k = 31 then be j else f k j
theorem s30_0 (m : Nat → Int → Int) : s30 m (m 30) = m := by
  funext k j; unfold s30; split
  · next h => rw [h]
  · rfl
theorem s31_0 (f : Nat → Int → UInt32) : s31 f (f 31) = f := by
  funext k j; unfold s31; split
  · next h => rw [h]
  · rfl
theorem s30_u (m : Nat → Int → Int) (pl : Int → Int) (j v : Int) : up2 (s30 m pl) 30 j v = s30 m (up0 pl j v) := by
  funext k i; unfold up2 s30 up0
  by_cases hk : k = 30
  · subst hk; simp
  · simp [hk]
theorem s31_u (f : Nat → Int → UInt32) (be : Int → UInt32) (j : Int) (v : UInt32) : up2 (s31 f be) 31 j v = s31 f (up0 be j v) := by
  funext k i; unfold up2 s31 up0
  by_cases hk : k = 31
  · subst hk; simp
  · simp [hk]
theorem eqs_3 {m : Nat → Int → Int} {f : Nat → Int → UInt32} {pl : Int → Int} {be : Int → UInt32} : eqs m (s30 m pl) f (s31 f be) := ⟨fun i a _ _ => if_neg (by omega), fun _ _ _ _ => rfl, fun i a _ => if_neg (by omega)⟩
/-- the places are told down to piece q -/
def TP (m : Nat → Int → Int) (p x : Int) (pl : Int → Int) (q : Int) : Prop := pl p = x ∧ (∀ r, 0 ≤ r → r ≤ p → pl r = -1 ∨ (0 ≤ pl r ∧ pl r < m 2 r ∧ m 4 r ≠ 3)) ∧ ∀ r, q < r → 0 ≤ r → r ≤ p → 0 ≤ pl r → ∀ k, 0 ≤ k → k < m 6 r → pl (m 7 (9 * r + k)) = plc m r k (pl r)
theorem TP.step {m : Nat → Int → Int} {f : Nat → Int → UInt32} (hW : WF m f) {p x q k : Int} {pl : Int → Int} (hp : p < m 0 0) (h : TP m p x pl q) (hq : 0 ≤ q) (hqp : q ≤ p) (h0 : 0 ≤ pl q) (hk : 0 ≤ k) (hk2 : k < m 6 q) (h4 : ∀ j, 0 ≤ j → j < k → pl (m 7 (9 * q + j)) = plc m q j (pl q)) :
    TP m p x (up0 pl (m 7 (9 * q + k)) (plc m q k (pl q))) q ∧ up0 pl (m 7 (9 * q + k)) (plc m q k (pl q)) q = pl q ∧ ∀ j, 0 ≤ j → j < k + 1 → up0 pl (m 7 (9 * q + k)) (plc m q k (pl q)) (m 7 (9 * q + j)) = plc m q j (pl q) := by
  obtain ⟨t1, t2, t3⟩ := h
  have hWq := hW.2.1 q hq (by omega)
  obtain ⟨c1, c2⟩ := hWq.2.2.1 k hk hk2
  obtain ⟨-, l2, l3⟩ := (t2 q hq hqp).resolve_left (by omega)
  obtain ⟨o1, o2⟩ := hWq.2.2.2.2.1 l3 k hk hk2
  have hb := plc_b hW hq (by omega) hk hk2 h0 l2
  refine ⟨⟨?_, fun r r0 r1 => ?_, fun r r0 r1 r2 r3 j j0 j1 => ?_⟩, ?_, fun j j0 j1 => ?_⟩
  · unfold up0; rw [if_neg (by omega)]; exact t1
  · unfold up0
    by_cases hr : r = m 7 (9 * q + k)
    · rw [if_pos hr, hr, o2]; rcases hb with hb | hb
      · exact Or.inl hb
      · exact Or.inr ⟨hb.1, hb.2, by decide⟩
    · rw [if_neg hr]; exact t2 r r0 r1
  · have hne : r ≠ m 7 (9 * q + k) := by omega
    have e1 : up0 pl (m 7 (9 * q + k)) (plc m q k (pl q)) r = pl r := if_neg hne
    rw [e1] at r3 ⊢
    obtain ⟨-, -, l5⟩ := (t2 r r1 r2).resolve_left (by omega)
    have o3 := ((hW.2.1 r r1 (by omega)).2.2.2.2.1 l5 j j0 j1).1
    have hne2 : m 7 (9 * r + j) ≠ m 7 (9 * q + k) := fun e => by rw [e, o1] at o3; omega
    unfold up0; rw [if_neg hne2]
    exact t3 r r0 r1 r2 r3 j j0 j1
  · exact if_neg (by omega)
  · unfold up0
    by_cases hj : j = k
    · subst hj; rw [if_pos rfl]
    · rw [if_neg (fun e => hj (hWq.2.2.2.1 j k j0 (by omega) hk hk2 e))]
      exact h4 j j0 (by omega)
theorem TP.next {m : Nat → Int → Int} {p x q : Int} {pl : Int → Int} (h : TP m p x pl q) (hq : pl q < 0 ∨ ∀ j, 0 ≤ j → j < m 6 q → pl (m 7 (9 * q + j)) = plc m q j (pl q)) : TP m p x pl (q - 1) := by
  refine ⟨h.1, h.2.1, fun r r0 r1 r2 r3 j j0 j1 => ?_⟩
  by_cases hr : r = q
  · subst hr
    rcases hq with hq | hq
    · omega
    · exact hq j j0 j1
  · exact h.2.2 r (by omega) r1 r2 r3 j j0 j1

theorem Bf_eqs {m m' : Nat → Int → Int} {f f' : Nat → Int → UInt32} (h : eqs m m' f f') : ∀ n, Bf m' f' n = Bf m f n := by
  have e : ∀ k, k < 25 → k ≠ 22 → m' k = m k := fun k a b => funext (h.1 k a b)
  have ef : ∀ k, k < 25 → f' k = f k := fun k a => funext (h.2.2 k a)
  have hplc : ∀ p k z, plc m' p k z = plc m p k z := fun p k z => by unfold plc; rw [e 1 (by decide) (by decide), e 2 (by decide) (by decide), e 7 (by decide) (by decide), e 9 (by decide) (by decide)]
  have hwr : ∀ p z v k, wr m' f' p z v k = wr m f p z v k := fun p z v k => by
    induction k with
    | zero => rfl
    | succ k ih => unfold wr; rw [ih, e 11 (by decide) (by decide), e 12 (by decide) (by decide), e 13 (by decide) (by decide), ef 14 (by decide)]
  have hsm : ∀ b p z k, sm m' b p z k = sm m b p z k := fun b p z k => by
    induction k with
    | zero => rfl
    | succ k ih => unfold sm; rw [ih, hplc, e 7 (by decide) (by decide)]
  have hbs : ∀ b p z, bs m' f' b p z = bs m f b p z := fun b p z => by
    unfold bs; simp only [hplc, hsm]; rw [e 1 (by decide) (by decide), e 6 (by decide) (by decide), e 7 (by decide) (by decide), ef 5 (by decide)]
  intro n
  induction n with
  | zero => rfl
  | succ n ih =>
    funext p z
    show wr m' f' p z (bs m' f' (Bf m' f' n) p z) (m' 10 p).toNat = wr m f p z (bs m f (Bf m f n) p z) (m 10 p).toNat
    rw [hwr, hbs, ih, e 10 (by decide) (by decide)]
theorem B_eqs {m m' : Nat → Int → Int} {f f' : Nat → Int → UInt32} (h : eqs m m' f f') : B m' f' = B m f := by
  funext p z; show Bf m' f' _ p z = Bf m f _ p z; rw [Bf_eqs h]
theorem WF.eqs {m m' : Nat → Int → Int} {f f' : Nat → Int → UInt32} (h : eqs m m' f f') (hW : WF m f) : WF m' f' := by
  have e : ∀ k, k < 25 → k ≠ 22 → m' k = m k := fun k a b => funext (h.1 k a b)
  have ef : ∀ k, k < 25 → f' k = f k := fun k a => funext (h.2.2 k a)
  have e0 := e 0 (by decide) (by decide)
  have hP : ∀ p, WP m' f' p ↔ WP m f p := fun p => by
    unfold WP thick
    rw [e0, e 1 (by decide) (by decide), e 2 (by decide) (by decide), e 3 (by decide) (by decide), e 4 (by decide) (by decide), e 6 (by decide) (by decide), e 7 (by decide) (by decide), e 8 (by decide) (by decide), e 9 (by decide) (by decide), e 10 (by decide) (by decide), e 11 (by decide) (by decide), e 12 (by decide) (by decide), e 13 (by decide) (by decide), ef 5 (by decide), ef 14 (by decide)]
  obtain ⟨w1, w2, w3, w4, w5, w6⟩ := hW
  refine ⟨by rw [e0]; exact w1, fun p a b => (hP p).mpr (w2 p a (by rw [← e0]; exact b)), ?_, ?_, ?_, ?_⟩
  · rw [e0, e 15 (by decide) (by decide), e 16 (by decide) (by decide)]; exact w3
  · rw [e0, e 17 (by decide) (by decide), e 4 (by decide) (by decide)]; exact w4
  · rw [e 18 (by decide) (by decide), e 19 (by decide) (by decide), e 21 (by decide) (by decide), e 17 (by decide) (by decide), e 2 (by decide) (by decide), ef 20 (by decide)]
    refine ⟨w5.1, w5.2.1, fun o a b => ?_⟩
    obtain ⟨c1, c2, c3, c4, c5, c6⟩ := w5.2.2 o a b
    refine ⟨c1, c2, c3, c4, fun hh => ?_, c6⟩
    rw [h.2.1 o a b hh]
    exact c5 hh
  · rw [e 23 (by decide) (by decide), e 24 (by decide) (by decide)]; exact w6
/-- the least of the first places of piece p, and where -/
def wk (m : Nat → Int → Int) (f : Nat → Int → UInt32) (p : Int) : Nat → Int
  | 0 => 0
  | k + 1 => if zfc (FP.fcmp (B m f p ((k : Int) + 1)) (B m f p (wk m f p k))) CmpOp.g < 0 then (k : Int) + 1 else wk m f p k
/-- the weakest place -/
def weak (m : Nat → Int → Int) (f : Nat → Int → UInt32) (p : Int) : Int := wk m f p (m 2 p - 1).toNat
def leastv (m : Nat → Int → Int) (f : Nat → Int → UInt32) (p : Int) : UInt32 := B m f p (weak m f p)
theorem wk_b {m : Nat → Int → Int} {f : Nat → Int → UInt32} {p : Int} {n : Nat} : 0 ≤ wk m f p n ∧ wk m f p n ≤ n := by
  induction n with
  | zero => exact ⟨Int.le_refl 0, Int.le_refl 0⟩
  | succ n ih => unfold wk; split <;> omega
theorem zfc_i {o : Option Ordering} {c : CmpOp} : zi (zfc o c) := by
  unfold zfc
  have h1 := Int32.le_toInt (Op.cmpValue o c)
  have h2 := Int32.toInt_lt (Op.cmpValue o c)
  exact ⟨by omega, by omega⟩
