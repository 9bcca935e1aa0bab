/-! HEIGHTS, ORDER OF FLOATS, STEADY STRETCHES -/
def hmx (m : Nat → Int → Int) (h : Int → Nat) (p : Int) : Nat → Nat
  | 0 => 0
  | k + 1 => max (hmx m h p k) (h (m 7 (9 * p + k)) + 1)
def hgf (m : Nat → Int → Int) : Nat → Int → Nat
  | 0 => fun _ => 0
  | n + 1 => fun p => hmx m (hgf m n) p (m 6 p).toNat
def hgt (m : Nat → Int → Int) (p : Int) : Nat := hgf m (p.toNat + 1) p
theorem hmx_congr {m : Nat → Int → Int} {h h' : Int → Nat} {p : Int} {n : Nat} (e : ∀ k : Int, 0 ≤ k → k < n → h (m 7 (9 * p + k)) = h' (m 7 (9 * p + k))) : hmx m h p n = hmx m h' p n := by
  induction n with
  | zero => rfl
  | succ n ih => show max (hmx m h p n) _ = max (hmx m h' p n) _; rw [ih (fun k a b => e k a (by omega)), e n (by omega) (by omega)]
theorem hgf_st {m : Nat → Int → Int} {N : Int} (hp : ∀ q, 0 ≤ q → q < N → partsok m q) : ∀ (n n' : Nat) (q : Int), 0 ≤ q → q < N → q < n → q < n' → hgf m n q = hgf m n' q := by
  intro n
  induction n with
  | zero => intro n' q h0 h1 h2; omega
  | succ n ih =>
    intro n' q h0 h1 h2 h3
    cases n' with
    | zero => omega
    | succ n' =>
      refine hmx_congr (fun k a b => ?_)
      obtain ⟨c1, c2⟩ := (hp q h0 h1).2 k a (by omega)
      exact ih n' _ c1 (by omega) (by omega) (by omega)
theorem hgt_eq {m : Nat → Int → Int} {N : Int} (hp : ∀ q, 0 ≤ q → q < N → partsok m q) {q : Int} (h0 : 0 ≤ q) (h1 : q < N) : hgt m q = hmx m (hgt m) q (m 6 q).toNat := by
  show hmx m (hgf m q.toNat) q _ = _
  refine hmx_congr (fun k a b => ?_)
  obtain ⟨c1, c2⟩ := (hp q h0 h1).2 k a (by omega)
  exact hgf_st hp _ _ _ c1 (by omega) (by omega) (by omega)
theorem hmx_le {m : Nat → Int → Int} {h : Int → Nat} {p : Int} {n : Nat} {k : Nat} (hk : k < n) : h (m 7 (9 * p + k)) + 1 ≤ hmx m h p n := by
  induction n with
  | zero => omega
  | succ n ih =>
    show _ ≤ max (hmx m h p n) (h (m 7 (9 * p + n)) + 1)
    by_cases e : k = n
    · rw [e]; omega
    · have := ih (by omega); omega
theorem hgt_part {m : Nat → Int → Int} {f : Nat → Int → UInt32} (hW : WF m f) {p k : Int} (h0 : 0 ≤ p) (h1 : p < m 0 0) (hk : 0 ≤ k) (hk2 : k < m 6 p) : hgt m (m 7 (9 * p + k)) + 1 ≤ hgt m p := by
  rw [hgt_eq (q := p) (fun q a b => (hW.parts q a b).1) h0 h1]
  have h := hmx_le (m := m) (h := hgt m) (p := p) (n := (m 6 p).toNat) (k := k.toNat) (by omega)
  rw [show ((k.toNat : Nat) : Int) = k by omega] at h
  exact h
section SZ2
variable {m : Nat → Int → Int} {f : Nat → Int → UInt32}
theorem hmx_con {h : Int → Nat} {q : Int} {c : Nat} {n : Nat} (hn : 0 < n) (e : ∀ k : Int, 0 ≤ k → k < n → h (m 7 (9 * q + k)) = c) : hmx m h q n = c + 1 := by
  induction n with
  | zero => omega
  | succ n ih =>
    show max (hmx m h q n) (h (m 7 (9 * q + n)) + 1) = c + 1
    have e1 := e n (by omega) (by omega)
    rw [e1]
    by_cases hz : n = 0
    · subst hz; show max 0 (c + 1) = c + 1; omega
    · rw [ih (by omega) (fun k a b => e k a (by omega))]; omega
/-- heights and sizes, kind by kind -/
def hsz (m : Nat → Int → Int) (p : Int) : Prop := ((m 1 p = 0 ∨ m 1 p = 4) → hgt m p = 0) ∧ (m 1 p = 1 → hgt m p = 1 ∧ 3 ≤ sz m p) ∧ ((m 1 p = 2 ∨ m 1 p = 3 ∨ m 1 p = 5) → 2 ≤ hgt m p ∧ 11 * ((hgt m p : Int) - 2) + 10 ≤ sz m p)
theorem hsz_all (hW : WF m f) : ∀ n : Nat, ∀ p : Int, 0 ≤ p → p < m 0 0 → p < n → hsz m p := by
  intro n
  induction n with
  | zero => intro p h0 h1 h2; omega
  | succ n ih =>
    intro p h0 h1 h2
    have wp := hW.2.1 p h0 h1
    have hb := hW.b h0 h1
    obtain ⟨-, -, -, -, -, -, a7, a8, a9, a10, a11⟩ := wp
    have hpt : ∀ k : Int, 0 ≤ k → k < m 6 p → hsz m (m 7 (9 * p + k)) ∧ 1 ≤ sz m (m 7 (9 * p + k)) := fun k a b => by
      obtain ⟨c1, c2⟩ := (hW.parts p h0 h1).1.2 k a b
      exact ⟨ih _ c1 (by omega) (by omega), sz_pos hW n _ c1 (by omega) (by omega)⟩
    have eh := hgt_eq (m := m) (fun q a b => (hW.parts q a b).1) h0 h1
    have es := sz_eq (m := m) (fun q a b => (hW.parts q a b).1) h0 h1
    refine ⟨fun hk => ?_, fun hk => ?_, fun hk => ?_⟩
    · rw [eh, a7 hk]; rfl
    · obtain ⟨b1, b2⟩ := a8 hk
      constructor
      · rw [eh]
        exact hmx_con (c := 0) (by omega) (fun k a b => (hpt k a (by omega)).1.1 (b2 k a (by omega)))
      · have hg := wsum_ge (m := m) (d := sz m) (q := p) (c := 1) (n := (m 6 p).toNat) (fun k a b => (hpt k a (by omega)).2)
        omega
    · rcases hk with hk | hk | hk
      · obtain ⟨b1, b2⟩ := a9 hk
        have e2 : hgt m p = 2 := by
          rw [eh]
          exact hmx_con (c := 1) (by omega) (fun k a b => ((hpt k a (by omega)).1.2.1 (b2 k a (by omega))).1)
        have hg := wsum_ge (m := m) (d := sz m) (q := p) (c := 3) (n := (m 6 p).toNat) (fun k a b => ((hpt k a (by omega)).1.2.1 (b2 k a (by omega))).2)
        rw [e2]
        omega
      · obtain ⟨b1, b2⟩ := a10 hk
        have e3 : (m 6 p).toNat = 3 := by omega
        rw [e3] at eh es
        have t : ∀ k : Int, 0 ≤ k → k < 3 → 2 ≤ hgt m (m 7 (9 * p + k)) ∧ 11 * ((hgt m (m 7 (9 * p + k)) : Int) - 2) + 10 ≤ sz m (m 7 (9 * p + k)) := fun k a b => (hpt k a (by omega)).1.2.2 (by have := b2 k a (by omega); omega)
        have t0 := t 0 (by decide) (by decide)
        have t1 := t 1 (by decide) (by decide)
        have t2 := t 2 (by decide) (by decide)
        have es' : sz m p = 1 + (((0 + sz m (m 7 (9 * p + 0))) + sz m (m 7 (9 * p + 1))) + sz m (m 7 (9 * p + 2))) := es
        have eh' : hgt m p = max (max (max 0 (hgt m (m 7 (9 * p + 0)) + 1)) (hgt m (m 7 (9 * p + 1)) + 1)) (hgt m (m 7 (9 * p + 2)) + 1) := eh
        omega
      · obtain ⟨b1, b2, -⟩ := a11 hk
        have e3 : (m 6 p).toNat = 2 := by omega
        rw [e3] at eh es
        have t : ∀ k : Int, 0 ≤ k → k < 2 → 2 ≤ hgt m (m 7 (9 * p + k)) ∧ 11 * ((hgt m (m 7 (9 * p + k)) : Int) - 2) + 10 ≤ sz m (m 7 (9 * p + k)) := fun k a b => (hpt k a (by omega)).1.2.2 (b2 k a b)
        have t0 := t 0 (by decide) (by decide)
        have t1 := t 1 (by decide) (by decide)
        have es' : sz m p = 1 + ((0 + sz m (m 7 (9 * p + 0))) + sz m (m 7 (9 * p + 1))) := es
        have eh' : hgt m p = max (max 0 (hgt m (m 7 (9 * p + 0)) + 1)) (hgt m (m 7 (9 * p + 1)) + 1) := eh
        omega
theorem hgt_b' (hW : WF m f) {p : Int} (hp : live m p) : hgt m p ≤ 12 := by
  have h := hsz_all hW (p.toNat + 1) p hp.1 hp.2.1 (by have := hp.1; omega)
  have hs := sz_b hW hp
  have hb := hW.b hp.1 hp.2.1
  by_cases k0 : m 1 p = 0 ∨ m 1 p = 4
  · have := h.1 k0; omega
  · by_cases k1 : m 1 p = 1
    · have := h.2.1 k1; omega
    · have := h.2.2 (by omega); omega
end SZ2
theorem hgt_b {m : Nat → Int → Int} {f : Nat → Int → UInt32} (hW : WF m f) {p : Int} (hp : live m p) : hgt m p ≤ 12 := hgt_b' hW hp
theorem fcg {u v : UInt32} (hu : okv u) (hv : okv v) : zfc (FP.fcmp u v) CmpOp.g < 0 ↔ u.toNat < v.toNat := fcg' hu hv
theorem fcl {u v : UInt32} (hu : okv u) (hv : okv v) : (zfc (FP.fcmp u v) CmpOp.l < 0 ↔ u.toNat < v.toNat) ∧ (0 < zfc (FP.fcmp u v) CmpOp.l ↔ v.toNat < u.toNat) := fcl' hu hv
theorem ok0 : okv 0 := by unfold okv; decide
theorem live_part {m : Nat → Int → Int} {f : Nat → Int → UInt32} (hW : WF m f) {p k : Int} (hp : live m p) (hk : 0 ≤ k) (hk2 : k < m 6 p) : live m (m 7 (9 * p + k)) ∧ m 7 (9 * p + k) < p := by
  obtain ⟨h0, h1, h2⟩ := hp
  obtain ⟨c1, c2⟩ := (hW.parts p h0 h1).1.2 k hk hk2
  obtain ⟨o1, o2⟩ := (hW.2.1 p h0 h1).2.2.2.2.1 h2 k hk hk2
  exact ⟨⟨c1, by omega, by rw [o2]; decide⟩, c2⟩
/-- piece p bears the same at the places from w to s -/
def steady (m : Nat → Int → Int) (f : Nat → Int → UInt32) (p w s : Int) : Prop := w < s ∧ s ≤ m 2 p ∧ ∀ y, w ≤ y → y < s → B m f p y = B m f p w
/-- its part k does -/
def steadk (m : Nat → Int → Int) (f : Nat → Int → UInt32) (p k w s : Int) : Prop := ∀ y, w ≤ y → y < s → y < m 2 p → (plc m p k y < 0 ↔ plc m p k w < 0) ∧ (0 ≤ plc m p k w → B m f (m 7 (9 * p + k)) (plc m p k y) = B m f (m 7 (9 * p + k)) (plc m p k w))
/-- its row does -/
def steadr (m : Nat → Int → Int) (p w s : Int) (n : Int) : Prop := ∀ y, w ≤ y → y < s → ∀ i, 0 ≤ i → i < n → m 11 (8 * p + i) = 1 → (m 12 (8 * p + i) ≤ y ∧ y ≤ m 13 (8 * p + i) ↔ m 12 (8 * p + i) ≤ w ∧ w ≤ m 13 (8 * p + i))
theorem sm_cong {m : Nat → Int → Int} {bv : Int → Int → UInt32} {p y w : Int} {n : Nat} (h : ∀ k : Int, 0 ≤ k → k < n → bv (m 7 (9 * p + k)) (plc m p k y) = bv (m 7 (9 * p + k)) (plc m p k w)) : sm m bv p y n = sm m bv p w n := by
  induction n with
  | zero => rfl
  | succ n ih => show FP.fadd (sm m bv p y n) _ = FP.fadd (sm m bv p w n) _; rw [ih (fun k a b => h k a (by omega)), h n (by omega) (by omega)]
theorem wr_cong {m : Nat → Int → Int} {f : Nat → Int → UInt32} {p y w : Int} {v : UInt32} {n : Nat} (h : ∀ i : Int, 0 ≤ i → i < n → m 11 (8 * p + i) = 1 → (m 12 (8 * p + i) ≤ y ∧ y ≤ m 13 (8 * p + i) ↔ m 12 (8 * p + i) ≤ w ∧ w ≤ m 13 (8 * p + i))) : wr m f p y v n = wr m f p w v n := by
  induction n with
  | zero => rfl
  | succ n ih =>
    have h1 := ih (fun i a b => h i a (by omega))
    have h2 := h n (by omega) (by omega)
    unfold wr
    rw [h1]
    by_cases c : m 11 (8 * p + (n : Int)) = 1
    · simp only [c, true_and, h2 c]
    · rw [if_neg (fun q => c q.1), if_neg (fun q => c q.1)]
theorem steady_of {m : Nat → Int → Int} {f : Nat → Int → UInt32} (hW : WF m f) {p w s : Int} (hp : live m p) (h0 : 0 ≤ w) (h1 : w < s) (h2 : s ≤ m 2 p) (hk : ∀ k, 0 ≤ k → k < m 6 p → steadk m f p k w s) (hr : steadr m p w s (m 10 p)) : steady m f p w s := by
  refine ⟨h1, h2, fun y y0 y1 => ?_⟩
  have hb := hW.b hp.1 hp.2.1
  have hP := (hW.2.1 p hp.1 hp.2.1).2.2.2.2.2.2
  rw [B_eq hW.parts hp.1 hp.2.1 y, B_eq hW.parts hp.1 hp.2.1 w]
  have e1 : bs m f (B m f) p y = bs m f (B m f) p w := by
    by_cases h5 : m 1 p = 5
    · have h6 := ((hW.parts p hp.1 hp.2.1).2 h5)
      obtain ⟨a1, a2⟩ := hk 0 (by omega) (by omega) y y0 y1 (by omega)
      obtain ⟨b1, b2⟩ := hk 1 (by omega) (by omega) y y0 y1 (by omega)
      rw [Int.add_zero] at a2
      have hp5 := plc_5 hW hp.1 hp.2.1 h0 (by omega) h5
      unfold bs
      rw [if_neg (show ¬ m 1 p = 0 by omega), if_neg (show ¬ m 1 p = 4 by omega), if_pos h5, if_neg (show ¬ m 1 p = 0 by omega), if_neg (show ¬ m 1 p = 4 by omega), if_pos h5]
      by_cases c0 : plc m p 0 w < 0
      · rw [if_pos (a1.mpr c0), if_pos c0, b2 (by omega)]
      · rw [if_neg (fun q => c0 (a1.mp q)), if_neg c0, a2 (by omega)]
        by_cases c1 : plc m p 1 w < 0
        · rw [if_pos (Or.inl (b1.mpr c1)), if_pos (Or.inl c1)]
        · have c2 := fun q => c1 (b1.mp q)
          rw [b2 (by omega)]
          by_cases c3 : ¬ zfc (FP.fcmp (B m f (m 7 (9 * p)) (plc m p 0 w)) (B m f (m 7 (9 * p + 1)) (plc m p 1 w))) CmpOp.l < 0
          · rw [if_pos (Or.inr c3), if_pos (Or.inr c3)]
          · rw [if_neg (fun q => q.elim c2 c3), if_neg (fun q => q.elim c1 c3)]
    · have hs : sm m (B m f) p y (m 6 p).toNat = sm m (B m f) p w (m 6 p).toNat := sm_cong (fun k a b => (hk k a (by omega) y y0 y1 (by omega)).2 (plc_n5 hW hp.1 hp.2.1 a (by omega) h0 (by omega) h5))
      unfold bs
      rw [if_neg h5, if_neg h5, hs]
  rw [e1]
  exact wr_cong (fun i a b => hr y y0 y1 i a (by omega))
