
/-! BEARING -/
/-- the share of k spots of piece p at place x, on v -/
def wr (m : Nat → Int → Int) (f : Nat → Int → UInt32) (p x : Int) (v : UInt32) : Nat → UInt32
  | 0 => v
  | k + 1 => if m 11 (8 * p + k) = 1 ∧ m 12 (8 * p + k) ≤ x ∧ x ≤ m 13 (8 * p + k) then FP.fmul (wr m f p x v k) (f 14 (8 * p + k)) else wr m f p x v k
/-- the place on part k of piece p that is at its place z; -1: none -/
def plc (m : Nat → Int → Int) (p k z : Int) : Int :=
  if m 1 p = 5 then (if 0 ≤ (if k = 0 then z else z - m 2 (m 7 (9 * p)) + m 9 p) ∧ (if k = 0 then z else z - m 2 (m 7 (9 * p)) + m 9 p) < m 2 (m 7 (9 * p + k)) then (if k = 0 then z else z - m 2 (m 7 (9 * p)) + m 9 p) else -1)
  else z * m 2 (m 7 (9 * p + k)) / m 2 p
def sm (m : Nat → Int → Int) (bv : Int → Int → UInt32) (p x : Int) : Nat → UInt32
  | 0 => 0
  | k + 1 => FP.fadd (sm m bv p x k) (bv (m 7 (9 * p + k)) (plc m p k x))
def bs (m : Nat → Int → Int) (f : Nat → Int → UInt32) (bv : Int → Int → UInt32) (p x : Int) : UInt32 :=
  if m 1 p = 0 then f 5 p
  else if m 1 p = 4 then FP.fmul (f 5 p) 1056964608
  else if m 1 p = 5 then
    (if plc m p 0 x < 0 then bv (m 7 (9 * p + 1)) (plc m p 1 x)
    else if plc m p 1 x < 0 ∨ ¬ (zfc (FP.fcmp (bv (m 7 (9 * p)) (plc m p 0 x)) (bv (m 7 (9 * p + 1)) (plc m p 1 x))) CmpOp.l < 0) then bv (m 7 (9 * p)) (plc m p 0 x)
    else bv (m 7 (9 * p + 1)) (plc m p 1 x))
  else if m 1 p = 1 then FP.fmul (sm m bv p x (m 6 p).toNat) 1063256064
  else if m 1 p = 2 then FP.fmul (sm m bv p x (m 6 p).toNat) 1061158912
  else FP.fmul (sm m bv p x (m 6 p).toNat) 1059061760
def Bf (m : Nat → Int → Int) (f : Nat → Int → UInt32) : Nat → Int → Int → UInt32
  | 0 => fun _ _ => 0
  | n + 1 => fun p x => wr m f p x (bs m f (Bf m f n) p x) (m 10 p).toNat
/-- what piece p bears at place x -/
def B (m : Nat → Int → Int) (f : Nat → Int → UInt32) (p x : Int) : UInt32 := Bf m f (p.toNat + 1) p x
theorem sm_congr {m : Nat → Int → Int} {b1 b2 : Int → Int → UInt32} {p x : Int} {n : Nat} (h : ∀ k : Int, 0 ≤ k → k < n → b1 (m 7 (9 * p + k)) (plc m p k x) = b2 (m 7 (9 * p + k)) (plc m p k x)) : sm m b1 p x n = sm m b2 p x n := by
  induction n with
  | zero => rfl
  | succ n ih => show FP.fadd (sm m b1 p x n) _ = FP.fadd (sm m b2 p x n) _; rw [ih (fun k a b => h k a (by omega)), h n (by omega) (by omega)]
theorem bs_congr {m : Nat → Int → Int} {f : Nat → Int → UInt32} {b1 b2 : Int → Int → UInt32} {p x : Int} (h5 : m 1 p = 5 → m 6 p = 2) (h : ∀ k : Int, 0 ≤ k → k < m 6 p → b1 (m 7 (9 * p + k)) (plc m p k x) = b2 (m 7 (9 * p + k)) (plc m p k x)) : bs m f b1 p x = bs m f b2 p x := by
  unfold bs
  have hs := sm_congr (m := m) (b1 := b1) (b2 := b2) (p := p) (x := x) (n := (m 6 p).toNat) (fun k a b => h k a (by omega))
  by_cases h5' : m 1 p = 5
  · have h0 := h 0 (by omega) (by rw [h5 h5']; decide)
    have h1 := h 1 (by omega) (by rw [h5 h5']; decide)
    rw [Int.add_zero] at h0
    rw [h0, h1, hs]
  · simp only [if_neg h5', hs]
theorem Bf_st {m : Nat → Int → Int} {f : Nat → Int → UInt32} {N : Int} (hp : ∀ q, 0 ≤ q → q < N → partsok m q ∧ (m 1 q = 5 → m 6 q = 2)) : ∀ (n n' : Nat) (q z : Int), 0 ≤ q → q < N → q < n → q < n' → Bf m f n q z = Bf m f n' q z := by
  intro n
  induction n with
  | zero => intro n' q z h0 h1 h2; omega
  | succ n ih =>
    intro n' q z h0 h1 h2 h3
    cases n' with
    | zero => omega
    | succ n' =>
      show wr m f q z (bs m f (Bf m f n) q z) _ = wr m f q z (bs m f (Bf m f n') q z) _
      rw [bs_congr (hp q h0 h1).2 (fun k a b => by
        obtain ⟨c1, c2⟩ := (hp q h0 h1).1.2 k a b
        exact ih n' _ _ c1 (by omega) (by omega) (by omega))]
theorem B_eq {m : Nat → Int → Int} {f : Nat → Int → UInt32} {N : Int} (hp : ∀ q, 0 ≤ q → q < N → partsok m q ∧ (m 1 q = 5 → m 6 q = 2)) {q : Int} (h0 : 0 ≤ q) (h1 : q < N) (z : Int) : B m f q z = wr m f q z (bs m f (B m f) q z) (m 10 q).toNat := by
  show wr m f q z (bs m f (Bf m f q.toNat) q z) _ = _
  rw [bs_congr (b2 := B m f) (hp q h0 h1).2 (fun k a b => by
    obtain ⟨c1, c2⟩ := (hp q h0 h1).1.2 k a b
    exact Bf_st hp _ _ _ _ c1 (by omega) (by omega) (by omega))]
theorem WF.parts {m : Nat → Int → Int} {f : Nat → Int → UInt32} (h : WF m f) : ∀ q, 0 ≤ q → q < m 0 0 → partsok m q ∧ (m 1 q = 5 → m 6 q = 2) := fun q a b =>
  ⟨⟨(h.b a b).2.2.2.2.2.2.2.2.1, (h.2.1 q a b).2.2.1⟩, fun e => ((h.2.1 q a b).2.2.2.2.2.2.2.2.2.2 e).1⟩
def live (m : Nat → Int → Int) (q : Int) : Prop := 0 ≤ q ∧ q < m 0 0 ∧ m 4 q ≠ 3
/-- a place of a laid or spliced piece lies on its parts -/
theorem plc_b {m : Nat → Int → Int} {f : Nat → Int → UInt32} (h : WF m f) {q k z : Int} (h0 : 0 ≤ q) (h1 : q < m 0 0) (hk : 0 ≤ k) (hk2 : k < m 6 q) (hz : 0 ≤ z) (hz2 : z < m 2 q) : plc m q k z = -1 ∨ (0 ≤ plc m q k z ∧ plc m q k z < m 2 (m 7 (9 * q + k))) := by
  unfold plc
  by_cases h5 : m 1 q = 5
  · rw [if_pos h5]
    generalize (if k = 0 then z else z - m 2 (m 7 (9 * q)) + m 9 q) = w
    by_cases hh : 0 ≤ w ∧ w < m 2 (m 7 (9 * q + k))
    · rw [if_pos hh]; exact Or.inr hh
    · rw [if_neg hh]; exact Or.inl rfl
  · rw [if_neg h5]
    obtain ⟨c1, c2⟩ := (h.parts q h0 h1).1.2 k hk hk2
    have hb := h.b c1 (by omega)
    refine Or.inr ⟨Int.ediv_nonneg (Int.mul_nonneg hz (by omega)) (by omega), ?_⟩
    refine Int.ediv_lt_of_lt_mul (by omega) ?_
    rw [Int.mul_comm z]
    exact Int.mul_lt_mul_of_pos_left hz2 (by omega)
theorem plc_n5 {m : Nat → Int → Int} {f : Nat → Int → UInt32} (h : WF m f) {q k z : Int} (h0 : 0 ≤ q) (h1 : q < m 0 0) (hk : 0 ≤ k) (hk2 : k < m 6 q) (hz : 0 ≤ z) (hz2 : z < m 2 q) (h5 : m 1 q ≠ 5) : 0 ≤ plc m q k z := by
  rcases plc_b h h0 h1 hk hk2 hz hz2 with e | e
  · unfold plc at e
    rw [if_neg h5] at e
    obtain ⟨c1, c2⟩ := (h.parts q h0 h1).1.2 k hk hk2
    have hb := h.b c1 (by omega)
    have hb2 := h.b h0 h1
    have := Int.ediv_nonneg (Int.mul_nonneg hz (show 0 ≤ m 2 (m 7 (9 * q + k)) by omega)) (show 0 ≤ m 2 q by omega)
    omega
  · exact e.1
/-- one of a splice's parts is at each of its places -/
theorem plc_5 {m : Nat → Int → Int} {f : Nat → Int → UInt32} (h : WF m f) {q z : Int} (h0 : 0 ≤ q) (h1 : q < m 0 0) (hz : 0 ≤ z) (hz2 : z < m 2 q) (h5 : m 1 q = 5) : 0 ≤ plc m q 0 z ∨ 0 ≤ plc m q 1 z := by
  obtain ⟨-, -, c1, c2, c3, c4⟩ := (h.2.1 q h0 h1).2.2.2.2.2.2.2.2.2.2 h5
  unfold plc
  simp only [if_pos h5, if_true, Int.add_zero]
  rw [if_neg (show ¬ (1 : Int) = 0 by decide)]
  by_cases hh : z < m 2 (m 7 (9 * q))
  · left; rw [if_pos ⟨hz, hh⟩]; exact hz
  · right; rw [if_pos (by omega)]; omega
/-- WHAT THE NUMBERS ARE (proved below, with the floats) -/
theorem B_nums {m : Nat → Int → Int} {f : Nat → Int → UInt32} (h : WF m f) {q z : Int} (hq : live m q) (hz : 0 ≤ z) (hz2 : z < m 2 q) :
    (m 1 q = 4 → vf_n32 (FP.fmul (f 5 q) 1056964608)) ∧
    ((m 1 q = 1 ∨ m 1 q = 2 ∨ m 1 q = 3) → ∀ k : Nat, (k : Int) < m 6 q → vf_n32 (FP.fadd (sm m (B m f) q z k) (B m f (m 7 (9 * q + k)) (plc m q k z)))) ∧
    (m 1 q = 1 → vf_n32 (FP.fmul (sm m (B m f) q z (m 6 q).toNat) 1063256064)) ∧ (m 1 q = 2 → vf_n32 (FP.fmul (sm m (B m f) q z (m 6 q).toNat) 1061158912)) ∧ (m 1 q = 3 → vf_n32 (FP.fmul (sm m (B m f) q z (m 6 q).toNat) 1059061760)) ∧
    (∀ k : Nat, (k : Int) < m 10 q → m 11 (8 * q + k) = 1 → vf_n32 (FP.fmul (wr m f q z (bs m f (B m f) q z) k) (f 14 (8 * q + k)))) := sorry
/-- the places told -/
def s30 (m : Nat → Int → Int) (pl : Int → Int) : Nat → Int → Int := fun k j => if k = 30 then pl j else m k j
def s31 (f : Nat → Int → UInt32) (be : Int → UInt32) : Nat → Int → UInt32 := fun k j => if k = 31 then be j else f k j
theorem s30_0 (m : Nat → Int → Int) : s30 m (m 30) = m := by
  funext k j; unfold s30; split
  · next h => rw [h]
  · rfl
theorem s31_0 (f : Nat → Int → UInt32) : s31 f (f 31) = f := by
  funext k j; unfold s31; split
  · next h => rw [h]
  · rfl
def up0 {α : Type} (f : Int → α) (k : Int) (v : α) : Int → α := fun j => if j = k then v else f j
theorem s30_u (m : Nat → Int → Int) (pl : Int → Int) (j v : Int) : up2 (s30 m pl) 30 j v = s30 m (up0 pl j v) := by
  funext k i; unfold up2 s30 up0
  by_cases hk : k = 30
  · subst hk; simp
  · simp [hk]
theorem s31_u (f : Nat → Int → UInt32) (be : Int → UInt32) (j : Int) (v : UInt32) : up2 (s31 f be) 31 j v = s31 f (up0 be j v) := by
  funext k i; unfold up2 s31 up0
  by_cases hk : k = 31
  · subst hk; simp
  · simp [hk]
theorem eqs_3 {m : Nat → Int → Int} {f : Nat → Int → UInt32} {pl : Int → Int} {be : Int → UInt32} : eqs m (s30 m pl) f (s31 f be) := ⟨fun i a _ _ => if_neg (by omega), fun _ _ _ _ => rfl, fun i a _ => if_neg (by omega)⟩
/-- the places are told down to piece q -/
def TP (m : Nat → Int → Int) (p x : Int) (pl : Int → Int) (q : Int) : Prop := pl p = x ∧ (∀ r, 0 ≤ r → r ≤ p → pl r = -1 ∨ (0 ≤ pl r ∧ pl r < m 2 r ∧ m 4 r ≠ 3)) ∧ ∀ r, q < r → 0 ≤ r → r ≤ p → 0 ≤ pl r → ∀ k, 0 ≤ k → k < m 6 r → pl (m 7 (9 * r + k)) = plc m r k (pl r)
theorem TP.step {m : Nat → Int → Int} {f : Nat → Int → UInt32} (hW : WF m f) {p x q k : Int} {pl : Int → Int} (hp : p < m 0 0) (h : TP m p x pl q) (hq : 0 ≤ q) (hqp : q ≤ p) (h0 : 0 ≤ pl q) (hk : 0 ≤ k) (hk2 : k < m 6 q) (h4 : ∀ j, 0 ≤ j → j < k → pl (m 7 (9 * q + j)) = plc m q j (pl q)) :
    TP m p x (up0 pl (m 7 (9 * q + k)) (plc m q k (pl q))) q ∧ up0 pl (m 7 (9 * q + k)) (plc m q k (pl q)) q = pl q ∧ ∀ j, 0 ≤ j → j < k + 1 → up0 pl (m 7 (9 * q + k)) (plc m q k (pl q)) (m 7 (9 * q + j)) = plc m q j (pl q) := by
  obtain ⟨t1, t2, t3⟩ := h
  have hWq := hW.2.1 q hq (by omega)
  obtain ⟨c1, c2⟩ := hWq.2.2.1 k hk hk2
  obtain ⟨-, l2, l3⟩ := (t2 q hq hqp).resolve_left (by omega)
  obtain ⟨o1, o2⟩ := hWq.2.2.2.2.1 l3 k hk hk2
  have hb := plc_b hW hq (by omega) hk hk2 h0 l2
  refine ⟨⟨?_, fun r r0 r1 => ?_, fun r r0 r1 r2 r3 j j0 j1 => ?_⟩, ?_, fun j j0 j1 => ?_⟩
  · unfold up0; rw [if_neg (by omega)]; exact t1
  · unfold up0
    by_cases hr : r = m 7 (9 * q + k)
    · rw [if_pos hr, hr, o2]; rcases hb with hb | hb
      · exact Or.inl hb
      · exact Or.inr ⟨hb.1, hb.2, by decide⟩
    · rw [if_neg hr]; exact t2 r r0 r1
  · have hne : r ≠ m 7 (9 * q + k) := by omega
    have e1 : up0 pl (m 7 (9 * q + k)) (plc m q k (pl q)) r = pl r := if_neg hne
    rw [e1] at r3 ⊢
    obtain ⟨-, -, l5⟩ := (t2 r r1 r2).resolve_left (by omega)
    have o3 := ((hW.2.1 r r1 (by omega)).2.2.2.2.1 l5 j j0 j1).1
    have hne2 : m 7 (9 * r + j) ≠ m 7 (9 * q + k) := fun e => by rw [e, o1] at o3; omega
    unfold up0; rw [if_neg hne2]
    exact t3 r r0 r1 r2 r3 j j0 j1
  · exact if_neg (by omega)
  · unfold up0
    by_cases hj : j = k
    · subst hj; rw [if_pos rfl]
    · rw [if_neg (fun e => hj (hWq.2.2.2.1 j k j0 (by omega) hk hk2 e))]
      exact h4 j j0 (by omega)
theorem TP.next {m : Nat → Int → Int} {p x q : Int} {pl : Int → Int} (h : TP m p x pl q) (hq : pl q < 0 ∨ ∀ j, 0 ≤ j → j < m 6 q → pl (m 7 (9 * q + j)) = plc m q j (pl q)) : TP m p x pl (q - 1) := by
  refine ⟨h.1, h.2.1, fun r r0 r1 r2 r3 j j0 j1 => ?_⟩
  by_cases hr : r = q
  · subst hr
    rcases hq with hq | hq
    · omega
    · exact hq j j0 j1
  · exact h.2.2 r (by omega) r1 r2 r3 j j0 j1

theorem Bf_eqs {m m' : Nat → Int → Int} {f f' : Nat → Int → UInt32} (h : eqs m m' f f') : ∀ n, Bf m' f' n = Bf m f n := by
  have e : ∀ k, k < 25 → k ≠ 22 → m' k = m k := fun k a b => funext (h.1 k a b)
  have ef : ∀ k, k < 25 → f' k = f k := fun k a => funext (h.2.2 k a)
  have hplc : ∀ p k z, plc m' p k z = plc m p k z := fun p k z => by unfold plc; rw [e 1 (by decide) (by decide), e 2 (by decide) (by decide), e 7 (by decide) (by decide), e 9 (by decide) (by decide)]
  have hwr : ∀ p z v k, wr m' f' p z v k = wr m f p z v k := fun p z v k => by
    induction k with
    | zero => rfl
    | succ k ih => unfold wr; rw [ih, e 11 (by decide) (by decide), e 12 (by decide) (by decide), e 13 (by decide) (by decide), ef 14 (by decide)]
  have hsm : ∀ b p z k, sm m' b p z k = sm m b p z k := fun b p z k => by
    induction k with
    | zero => rfl
    | succ k ih => unfold sm; rw [ih, hplc, e 7 (by decide) (by decide)]
  have hbs : ∀ b p z, bs m' f' b p z = bs m f b p z := fun b p z => by
    unfold bs; simp only [hplc, hsm]; rw [e 1 (by decide) (by decide), e 6 (by decide) (by decide), e 7 (by decide) (by decide), ef 5 (by decide)]
  intro n
  induction n with
  | zero => rfl
  | succ n ih =>
    funext p z
    show wr m' f' p z (bs m' f' (Bf m' f' n) p z) (m' 10 p).toNat = wr m f p z (bs m f (Bf m f n) p z) (m 10 p).toNat
    rw [hwr, hbs, ih, e 10 (by decide) (by decide)]
theorem B_eqs {m m' : Nat → Int → Int} {f f' : Nat → Int → UInt32} (h : eqs m m' f f') : B m' f' = B m f := by
  funext p z; show Bf m' f' _ p z = Bf m f _ p z; rw [Bf_eqs h]
theorem WF.eqs {m m' : Nat → Int → Int} {f f' : Nat → Int → UInt32} (h : eqs m m' f f') (hW : WF m f) : WF m' f' := by
  have e : ∀ k, k < 25 → k ≠ 22 → m' k = m k := fun k a b => funext (h.1 k a b)
  have ef : ∀ k, k < 25 → f' k = f k := fun k a => funext (h.2.2 k a)
  have e0 := e 0 (by decide) (by decide)
  have hP : ∀ p, WP m' f' p ↔ WP m f p := fun p => by
    unfold WP thick
    rw [e0, e 1 (by decide) (by decide), e 2 (by decide) (by decide), e 3 (by decide) (by decide), e 4 (by decide) (by decide), e 6 (by decide) (by decide), e 7 (by decide) (by decide), e 8 (by decide) (by decide), e 9 (by decide) (by decide), e 10 (by decide) (by decide), e 11 (by decide) (by decide), e 12 (by decide) (by decide), e 13 (by decide) (by decide), ef 5 (by decide), ef 14 (by decide)]
  obtain ⟨w1, w2, w3, w4, w5, w6⟩ := hW
  refine ⟨by rw [e0]; exact w1, fun p a b => (hP p).mpr (w2 p a (by rw [← e0]; exact b)), ?_, ?_, ?_, ?_⟩
  · rw [e0, e 15 (by decide) (by decide), e 16 (by decide) (by decide)]; exact w3
  · rw [e0, e 17 (by decide) (by decide), e 4 (by decide) (by decide)]; exact w4
  · rw [e 18 (by decide) (by decide), e 19 (by decide) (by decide), e 21 (by decide) (by decide), e 17 (by decide) (by decide), e 2 (by decide) (by decide), ef 20 (by decide)]
    refine ⟨w5.1, w5.2.1, fun o a b => ?_⟩
    obtain ⟨c1, c2, c3, c4, c5, c6⟩ := w5.2.2 o a b
    refine ⟨c1, c2, c3, c4, fun hh => ?_, c6⟩
    rw [h.2.1 o a b hh]
    exact c5 hh
  · rw [e 23 (by decide) (by decide), e 24 (by decide) (by decide)]; exact w6
/-- the least of the first places of piece p, and where -/
def wk (m : Nat → Int → Int) (f : Nat → Int → UInt32) (p : Int) : Nat → Int
  | 0 => 0
  | k + 1 => if zfc (FP.fcmp (B m f p ((k : Int) + 1)) (B m f p (wk m f p k))) CmpOp.g < 0 then (k : Int) + 1 else wk m f p k
/-- the weakest place -/
def weak (m : Nat → Int → Int) (f : Nat → Int → UInt32) (p : Int) : Int := wk m f p (m 2 p - 1).toNat
def leastv (m : Nat → Int → Int) (f : Nat → Int → UInt32) (p : Int) : UInt32 := B m f p (weak m f p)
theorem wk_b {m : Nat → Int → Int} {f : Nat → Int → UInt32} {p : Int} {n : Nat} : 0 ≤ wk m f p n ∧ wk m f p n ≤ n := by
  induction n with
  | zero => exact ⟨Int.le_refl 0, Int.le_refl 0⟩
  | succ n ih => unfold wk; split <;> omega
theorem zfc_i {o : Option Ordering} {c : CmpOp} : zi (zfc o c) := by
  unfold zfc
  have h1 := Int32.le_toInt (Op.cmpValue o c)
  have h2 := Int32.toInt_lt (Op.cmpValue o c)
  exact ⟨by omega, by omega⟩
