/-! HOW MANY PIECES ARE IN A PIECE -/
def szf (m : Nat → Int → Int) : Nat → Int → Int
  | 0 => fun _ => 0
  | n + 1 => fun q => 1 + wsum m (szf m n) q (m 6 q).toNat
def sz (m : Nat → Int → Int) (q : Int) : Int := szf m (q.toNat + 1) q
theorem szf_st {m : Nat → Int → Int} {N : Int} (hp : ∀ q, 0 ≤ q → q < N → partsok m q) : ∀ (n n' : Nat) (q : Int), 0 ≤ q → q < N → q < n → q < n' → szf m n q = szf m n' q := by
  intro n
  induction n with
  | zero => intro n' q h0 h1 h2; omega
  | succ n ih =>
    intro n' q h0 h1 h2 h3
    cases n' with
    | zero => omega
    | succ n' =>
      show 1 + wsum m (szf m n) q _ = 1 + wsum m (szf m n') q _
      rw [wsum_congr (w := szf m n) (w' := szf m n') (fun k a b => by
        obtain ⟨c1, c2⟩ := (hp q h0 h1).2 k a (by omega)
        exact ih n' _ c1 (by omega) (by omega) (by omega))]
theorem sz_eq {m : Nat → Int → Int} {N : Int} (hp : ∀ q, 0 ≤ q → q < N → partsok m q) {q : Int} (h0 : 0 ≤ q) (h1 : q < N) : sz m q = 1 + wsum m (sz m) q (m 6 q).toNat := by
  show 1 + wsum m (szf m q.toNat) q _ = _
  rw [wsum_congr (w := szf m q.toNat) (w' := sz m) (fun k a b => by
    obtain ⟨c1, c2⟩ := (hp q h0 h1).2 k a (by omega)
    exact szf_st hp _ _ _ c1 (by omega) (by omega) (by omega))]
/-- a sum over the pieces below n, each with its weight -/
def swp (d w : Int → Int) : Nat → Int
  | 0 => 0
  | n + 1 => swp d w n + w n * d n
theorem swp_out {d w : Int → Int} {y : Int} {n : Nat} (h : (n : Int) ≤ y) (v : Int) : swp d (up0 w y v) n = swp d w n := by
  induction n with
  | zero => rfl
  | succ n ih =>
    show swp d (up0 w y v) n + up0 w y v n * d n = swp d w n + w n * d n
    rw [ih (by omega), show up0 w y v n = w n from if_neg (by omega)]
theorem swp_set {d w : Int → Int} {y : Int} {n : Nat} (h0 : 0 ≤ y) (h : y < n) (hw : w y = 0) : swp d (up0 w y 1) n = swp d w n + d y := by
  induction n with
  | zero => omega
  | succ n ih =>
    show swp d (up0 w y 1) n + up0 w y 1 n * d n = swp d w n + w n * d n + d y
    by_cases e : y = n
    · rw [swp_out (by omega), show up0 w y 1 n = 1 from if_pos e.symm, ← e, hw]; omega
    · rw [ih (by omega), show up0 w y 1 n = w n from if_neg (by omega)]; omega
def wadd (m : Nat → Int → Int) (w : Int → Int) (q : Int) : Nat → Int → Int
  | 0 => w
  | k + 1 => up0 (wadd m w q k) (m 7 (9 * q + k)) 1
theorem wadd_e {m : Nat → Int → Int} {w : Int → Int} {q : Int} {n : Nat} (y : Int) : (wadd m w q n y = 1 ∧ ∃ k : Nat, k < n ∧ m 7 (9 * q + k) = y) ∨ (wadd m w q n y = w y ∧ ∀ k : Nat, k < n → m 7 (9 * q + k) ≠ y) := by
  induction n with
  | zero => exact Or.inr ⟨rfl, fun k hk => absurd hk (Nat.not_lt_zero k)⟩
  | succ n ih =>
    by_cases e : y = m 7 (9 * q + n)
    · exact Or.inl ⟨if_pos e, n, Nat.lt_succ_self n, e.symm⟩
    · have h : wadd m w q (n + 1) y = wadd m w q n y := if_neg e
      rw [h]
      rcases ih with ⟨a, k, b, c⟩ | ⟨a, b⟩
      · exact Or.inl ⟨a, k, by omega, c⟩
      · refine Or.inr ⟨a, fun k hk => ?_⟩
        by_cases e2 : k = n
        · rw [e2]; exact fun z => e z.symm
        · exact b k (by omega)
theorem swp_add {m : Nat → Int → Int} {d w : Int → Int} {q : Int} {N : Nat} : ∀ n : Nat, (∀ k : Nat, k < n → 0 ≤ m 7 (9 * q + k) ∧ m 7 (9 * q + k) < N ∧ w (m 7 (9 * q + k)) = 0) → (∀ k l : Nat, k < n → l < n → m 7 (9 * q + k) = m 7 (9 * q + l) → k = l) → swp d (wadd m w q n) N = swp d w N + wsum m d q n := by
  intro n
  induction n with
  | zero => intro _ _; show _ = _ + 0; rw [Int.add_zero]; rfl
  | succ n ih =>
    intro h1 h2
    obtain ⟨a, b, c⟩ := h1 n (Nat.lt_succ_self n)
    show swp d (up0 (wadd m w q n) (m 7 (9 * q + n)) 1) N = swp d w N + (wsum m d q n + d (m 7 (9 * q + n)))
    have hw : wadd m w q n (m 7 (9 * q + n)) = 0 := by
      rcases wadd_e (m := m) (w := w) (q := q) (n := n) (m 7 (9 * q + n)) with ⟨-, k, k1, k2⟩ | ⟨e, -⟩
      · have := h2 k n (by omega) (Nat.lt_succ_self n) k2; omega
      · rw [e]; exact c
    rw [swp_set a b hw, ih (fun k hk => h1 k (by omega)) (fun k l hk hl => h2 k l (by omega) (by omega))]
    omega
section SZ
variable {m : Nat → Int → Int} {f : Nat → Int → UInt32}
theorem sz_sweep (hW : WF m f) {p : Int} (hp : p < m 0 0) : ∀ n : Nat, (n : Int) ≤ p + 1 → ∀ w : Int → Int, (∀ y, w y = 0 ∨ w y = 1) → (∀ y : Int, 0 ≤ y → y < n → w y = 1 → m 4 y ≠ 3 ∧ (y = p ∨ (n : Int) ≤ m 8 y)) → swp (sz m) w n ≤ n := by
  intro n
  induction n with
  | zero => intro _ w _ _; exact Int.le_refl 0
  | succ n ih =>
    intro hn w h01 hv
    show swp (sz m) w n + w n * sz m n ≤ ((n + 1 : Nat) : Int)
    rcases h01 n with e | e
    · have := ih (by omega) w h01 (fun y y0 y1 y2 => by
        have := hv y y0 (by omega) y2
        exact ⟨this.1, by omega⟩)
      rw [e]; omega
    · obtain ⟨v1, v2⟩ := hv n (by omega) (by omega) e
      have hq : (n : Int) < m 0 0 := by omega
      have wq := hW.2.1 n (by omega) hq
      have hb := hW.b (p := (n : Int)) (by omega) hq
      have hpart : ∀ k : Nat, k < (m 6 n).toNat → 0 ≤ m 7 (9 * (n : Int) + k) ∧ m 7 (9 * (n : Int) + k) < n ∧ m 8 (m 7 (9 * (n : Int) + k)) = n ∧ m 4 (m 7 (9 * (n : Int) + k)) = 1 := fun k hk => by
        have a := wq.2.2.1 k (by omega) (by omega)
        have b := wq.2.2.2.2.1 v1 k (by omega) (by omega)
        exact ⟨a.1, a.2, b.1, b.2⟩
      have hw0 : ∀ k : Nat, k < (m 6 n).toNat → w (m 7 (9 * (n : Int) + k)) = 0 := fun k hk => by
        obtain ⟨a, b, c, d⟩ := hpart k hk
        rcases h01 (m 7 (9 * (n : Int) + k)) with z | z
        · exact z
        · have hh := hv (m 7 (9 * (n : Int) + k)) a (by omega) z
          rcases hh.2 with y | y <;> omega
      rw [e, Int.one_mul, sz_eq (fun q a b => (hW.parts q a b).1) (show 0 ≤ (n : Int) by omega) hq]
      have hs := swp_add (m := m) (d := sz m) (w := w) (q := (n : Int)) (N := n) (m 6 n).toNat (fun k hk => ⟨(hpart k hk).1, (hpart k hk).2.1, hw0 k hk⟩) (fun k l hk hl hh => by
        have := wq.2.2.2.1 k l (by omega) (by omega) (by omega) (by omega) hh
        omega)
      have hi := ih (by omega) (wadd m w n (m 6 n).toNat) (fun y => by
        rcases wadd_e (m := m) (w := w) (q := (n : Int)) (n := (m 6 n).toNat) y with ⟨a, -⟩ | ⟨a, -⟩
        · exact Or.inr a
        · rw [a]; exact h01 y) (fun y y0 y1 y2 => by
        rcases wadd_e (m := m) (w := w) (q := (n : Int)) (n := (m 6 n).toNat) y with ⟨a, k, k1, k2⟩ | ⟨a, -⟩
        · obtain ⟨z1, z2, z3, z4⟩ := hpart k k1
          rw [k2] at z3 z4
          exact ⟨by omega, by omega⟩
        · rw [a] at y2
          have := hv y y0 (by omega) y2
          exact ⟨this.1, by omega⟩)
      omega
theorem sz_b (hW : WF m f) {p : Int} (hp : live m p) : sz m p ≤ 120 := by
  obtain ⟨h0, h1, h2⟩ := hp
  have hn := hW.n
  have hz : ∀ n : Nat, (n : Int) ≤ p → swp (sz m) (fun y => if y = p then 1 else 0) n = 0 := fun n => by
    induction n with
    | zero => intro _; rfl
    | succ n ih =>
      intro hh
      show swp (sz m) (fun y => if y = p then 1 else 0) n + (if (n : Int) = p then 1 else 0) * sz m n = 0
      rw [ih (by omega), if_neg (by omega)]; omega
  have h := sz_sweep hW h1 (p.toNat + 1) (by omega) (fun y => if y = p then 1 else 0) (fun y => by
    by_cases e : y = p
    · exact Or.inr (if_pos e)
    · exact Or.inl (if_neg e)) (fun y y0 y1 y2 => by
    by_cases e : y = p
    · exact ⟨by rw [e]; exact h2, Or.inl e⟩
    · have z : (if y = p then (1 : Int) else 0) = 1 := y2
      rw [if_neg e] at z; omega)
  have e : swp (sz m) (fun y => if y = p then 1 else 0) (p.toNat + 1) = swp (sz m) (fun y => if y = p then 1 else 0) p.toNat + (if (p.toNat : Int) = p then 1 else 0) * sz m p.toNat := rfl
  rw [e, hz _ (by omega), if_pos (by omega), show ((p.toNat : Nat) : Int) = p by omega] at h
  omega
theorem wsum_ge {d : Int → Int} {q : Int} {c : Int} {n : Nat} (h : ∀ k : Int, 0 ≤ k → k < n → c ≤ d (m 7 (9 * q + k))) : c * n ≤ wsum m d q n := by
  induction n with
  | zero => show c * 0 ≤ 0; omega
  | succ n ih =>
    have h1 := ih (fun k a b => h k a (by omega))
    have h2 := h n (by omega) (by omega)
    show c * ((n + 1 : Nat) : Int) ≤ wsum m d q n + d (m 7 (9 * q + n))
    rw [show c * ((n + 1 : Nat) : Int) = c * n + c by rw [Int.natCast_add, Int.mul_add]; show c * n + c * 1 = _; rw [Int.mul_one]]
    omega
theorem hmx_con {h : Int → Nat} {q : Int} {c : Nat} {n : Nat} (hn : 0 < n) (e : ∀ k : Int, 0 ≤ k → k < n → h (m 7 (9 * q + k)) = c) : hmx m h q n = c + 1 := by
  induction n with
  | zero => omega
  | succ n ih =>
    show max (hmx m h q n) (h (m 7 (9 * q + n)) + 1) = c + 1
    have e1 := e n (by omega) (by omega)
    rw [e1]
    by_cases hz : n = 0
    · subst hz; show max 0 (c + 1) = c + 1; omega
    · rw [ih (by omega) (fun k a b => e k a (by omega))]; omega
theorem sz_pos (hW : WF m f) : ∀ n : Nat, ∀ p : Int, 0 ≤ p → p < m 0 0 → p < n → 1 ≤ sz m p := by
  intro n
  induction n with
  | zero => intro p h0 h1 h2; omega
  | succ n ih =>
    intro p h0 h1 h2
    rw [sz_eq (fun q a b => (hW.parts q a b).1) h0 h1]
    have h := wsum_ge (m := m) (d := sz m) (q := p) (c := 0) (n := (m 6 p).toNat) (fun k a b => by
      obtain ⟨c1, c2⟩ := (hW.parts p h0 h1).1.2 k a (by omega)
      have := ih _ c1 (by omega) (by omega); omega)
    omega
/-- heights and sizes, kind by kind -/
def hsz (m : Nat → Int → Int) (p : Int) : Prop := ((m 1 p = 0 ∨ m 1 p = 4) → hgt m p = 0) ∧ (m 1 p = 1 → hgt m p = 1 ∧ 3 ≤ sz m p) ∧ ((m 1 p = 2 ∨ m 1 p = 3 ∨ m 1 p = 5) → 2 ≤ hgt m p ∧ 11 * ((hgt m p : Int) - 2) + 10 ≤ sz m p)
theorem hsz_all (hW : WF m f) : ∀ n : Nat, ∀ p : Int, 0 ≤ p → p < m 0 0 → p < n → hsz m p := by
  intro n
  induction n with
  | zero => intro p h0 h1 h2; omega
  | succ n ih =>
    intro p h0 h1 h2
    have wp := hW.2.1 p h0 h1
    have hb := hW.b h0 h1
    obtain ⟨-, -, -, -, -, -, a7, a8, a9, a10, a11⟩ := wp
    have hpt : ∀ k : Int, 0 ≤ k → k < m 6 p → hsz m (m 7 (9 * p + k)) ∧ 1 ≤ sz m (m 7 (9 * p + k)) := fun k a b => by
      obtain ⟨c1, c2⟩ := (hW.parts p h0 h1).1.2 k a b
      exact ⟨ih _ c1 (by omega) (by omega), sz_pos hW n _ c1 (by omega) (by omega)⟩
    have eh := hgt_eq (m := m) (fun q a b => (hW.parts q a b).1) h0 h1
    have es := sz_eq (m := m) (fun q a b => (hW.parts q a b).1) h0 h1
    refine ⟨fun hk => ?_, fun hk => ?_, fun hk => ?_⟩
    · rw [eh, a7 hk]; rfl
    · obtain ⟨b1, b2⟩ := a8 hk
      constructor
      · rw [eh]
        exact hmx_con (c := 0) (by omega) (fun k a b => (hpt k a (by omega)).1.1 (b2 k a (by omega)))
      · have hg := wsum_ge (m := m) (d := sz m) (q := p) (c := 1) (n := (m 6 p).toNat) (fun k a b => (hpt k a (by omega)).2)
        omega
    · rcases hk with hk | hk | hk
      · obtain ⟨b1, b2⟩ := a9 hk
        have e2 : hgt m p = 2 := by
          rw [eh]
          exact hmx_con (c := 1) (by omega) (fun k a b => ((hpt k a (by omega)).1.2.1 (b2 k a (by omega))).1)
        have hg := wsum_ge (m := m) (d := sz m) (q := p) (c := 3) (n := (m 6 p).toNat) (fun k a b => ((hpt k a (by omega)).1.2.1 (b2 k a (by omega))).2)
        rw [e2]
        omega
      · obtain ⟨b1, b2⟩ := a10 hk
        have e3 : (m 6 p).toNat = 3 := by omega
        rw [e3] at eh es
        have t : ∀ k : Int, 0 ≤ k → k < 3 → 2 ≤ hgt m (m 7 (9 * p + k)) ∧ 11 * ((hgt m (m 7 (9 * p + k)) : Int) - 2) + 10 ≤ sz m (m 7 (9 * p + k)) := fun k a b => (hpt k a (by omega)).1.2.2 (by have := b2 k a (by omega); omega)
        have t0 := t 0 (by decide) (by decide)
        have t1 := t 1 (by decide) (by decide)
        have t2 := t 2 (by decide) (by decide)
        have es' : sz m p = 1 + (((0 + sz m (m 7 (9 * p + 0))) + sz m (m 7 (9 * p + 1))) + sz m (m 7 (9 * p + 2))) := es
        have eh' : hgt m p = max (max (max 0 (hgt m (m 7 (9 * p + 0)) + 1)) (hgt m (m 7 (9 * p + 1)) + 1)) (hgt m (m 7 (9 * p + 2)) + 1) := eh
        omega
      · obtain ⟨b1, b2, -⟩ := a11 hk
        have e3 : (m 6 p).toNat = 2 := by omega
        rw [e3] at eh es
        have t : ∀ k : Int, 0 ≤ k → k < 2 → 2 ≤ hgt m (m 7 (9 * p + k)) ∧ 11 * ((hgt m (m 7 (9 * p + k)) : Int) - 2) + 10 ≤ sz m (m 7 (9 * p + k)) := fun k a b => (hpt k a (by omega)).1.2.2 (b2 k a b)
        have t0 := t 0 (by decide) (by decide)
        have t1 := t 1 (by decide) (by decide)
        have es' : sz m p = 1 + ((0 + sz m (m 7 (9 * p + 0))) + sz m (m 7 (9 * p + 1))) := es
        have eh' : hgt m p = max (max 0 (hgt m (m 7 (9 * p + 0)) + 1)) (hgt m (m 7 (9 * p + 1)) + 1) := eh
        omega
theorem hgt_b' (hW : WF m f) {p : Int} (hp : live m p) : hgt m p ≤ 12 := by
  have h := hsz_all hW (p.toNat + 1) p hp.1 hp.2.1 (by have := hp.1; omega)
  have hs := sz_b hW hp
  have hb := hW.b hp.1 hp.2.1
  by_cases k0 : m 1 p = 0 ∨ m 1 p = 4
  · have := h.1 k0; omega
  · by_cases k1 : m 1 p = 1
    · have := h.2.1 k1; omega
    · have := h.2.2 (by omega); omega
end SZ
