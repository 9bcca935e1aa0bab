/-! CUTTING -/
/-- place w lies in a stretch that is cut from reel r -/
def tkn (m : Nat → Int → Int) (cr cp : Int → Int) (r w : Int) : Prop := ∃ o, 0 ≤ o ∧ o < m 18 0 ∧ cr o = r ∧ cp o ≤ w ∧ w < cp o + m 19 o
def bad (m : Nat → Int → Int) (f : Nat → Int → UInt32) (cr cp : Int → Int) (o r w : Int) : Prop := tkn m cr cp r w ∨ zfc (FP.fcmp (B m f (m 17 r) w) (f 20 o)) CmpOp.g < 0
def fits (m : Nat → Int → Int) (f : Nat → Int → UInt32) (cr cp : Int → Int) (o r s : Int) : Prop := 0 ≤ s ∧ s + m 19 o ≤ m 2 (m 17 r) ∧ ∀ w, s ≤ w → w < s + m 19 o → ¬ bad m f cr cp o r w
/-- v is where order o fits first on reel r; -1: nowhere -/
def FIT (m : Nat → Int → Int) (f : Nat → Int → UInt32) (cr cp : Int → Int) (o r v : Int) : Prop := (v = -1 ∧ ∀ s, ¬ fits m f cr cp o r s) ∨ (fits m f cr cp o r v ∧ ∀ s, s < v → ¬ fits m f cr cp o r s)
noncomputable def fitv (m : Nat → Int → Int) (f : Nat → Int → UInt32) (cr cp : Int → Int) (o r : Int) : Int := Classical.epsilon (fun v => FIT m f cr cp o r v)
theorem fitv_eq {m : Nat → Int → Int} {f : Nat → Int → UInt32} {cr cp : Int → Int} {o r v : Int} (h : FIT m f cr cp o r v) : fitv m f cr cp o r = v := by
  have h2 : FIT m f cr cp o r (fitv m f cr cp o r) := Classical.epsilon_spec (p := fun v => FIT m f cr cp o r v) ⟨v, h⟩
  rcases h with ⟨h3, h4⟩ | ⟨h3, h4⟩ <;> rcases h2 with ⟨h5, h6⟩ | ⟨h5, h6⟩
  · rw [h5, h3]
  · exact absurd h5 (h4 _)
  · exact absurd h3 (h6 _)
  · have e1 : ¬ fitv m f cr cp o r < v := fun e => h4 _ e h5
    have e2 : ¬ v < fitv m f cr cp o r := fun e => h6 _ e h3
    omega
def bit (s r : Int) : Prop := s / 2 ^ r.toNat % 2 = 1
/-- first fit in the reels 6 - n to 5 that are in s: 10000 times the reel, and the place -/
noncomputable def ff (m : Nat → Int → Int) (f : Nat → Int → UInt32) (cr cp : Int → Int) (o s : Int) : Nat → Int
  | 0 => -1
  | n + 1 => cif (bit s (5 - (n : Int)) ∧ 0 ≤ fitv m f cr cp o (5 - (n : Int))) (10000 * (5 - (n : Int)) + fitv m f cr cp o (5 - (n : Int))) (ff m f cr cp o s n)
/-- order o is cut so -/
def cutup (m : Nat → Int → Int) (o v : Int) : Nat → Int → Int := if v < 0 then m else up2 (up2 m 21 o (v / 10000)) 22 o (v % 10000)
noncomputable def a_cut (m : Nat → Int → Int) (f : Nat → Int → UInt32) (o s : Int) : Int := cif (o < 0 ∨ o ≥ m 18 0 ∨ 0 ≤ m 21 o) (-2) (ff m f (m 21) (m 22) o s 6)
noncomputable def s_cut (m : Nat → Int → Int) (f : Nat → Int → UInt32) (o s : Int) : Nat → Int → Int := cif (o < 0 ∨ o ≥ m 18 0 ∨ 0 ≤ m 21 o) m (cutup m o (ff m f (m 21) (m 22) o s 6))
/-- the orders below k that aren't cut, cut one behind the other -/
noncomputable def srv (m : Nat → Int → Int) (f : Nat → Int → UInt32) (s : Int) (cr cp : Int → Int) : Nat → Option ((Int → Int) × (Int → Int))
  | 0 => some (cr, cp)
  | k + 1 => match srv m f s cr cp k with
    | none => none
    | some c => cif (0 ≤ c.1 (k : Int)) (some c) (cif (ff m f c.1 c.2 (k : Int) s 6 < 0) none (some (up0 c.1 (k : Int) (ff m f c.1 c.2 (k : Int) s 6 / 10000), up0 c.2 (k : Int) (ff m f c.1 c.2 (k : Int) s 6 % 10000))))
theorem srv_0 {m : Nat → Int → Int} {f : Nat → Int → UInt32} {s : Int} {cr cp : Int → Int} {k : Nat} (h : srv m f s cr cp k = none) : ∀ n, k ≤ n → srv m f s cr cp n = none := by
  intro n hn
  induction n with
  | zero => rw [show k = 0 by omega] at h; exact h
  | succ n ih =>
    by_cases hk : k = n + 1
    · rw [← hk]; exact h
    · unfold srv; rw [ih (by omega)]
/-- the pieces on the reels in s, their lengths together -/
noncomputable def lens (m : Nat → Int → Int) (s : Int) : Nat → Int
  | 0 => 0
  | k + 1 => lens m s k + cif (bit s k) (m 2 (m 17 k)) 0
def ubg (m : Nat → Int → Int) (r : Int) : Prop := 0 ≤ m 17 r ∧ ¬ cutfr m r
def subs (m : Nat → Int → Int) (s : Int) : Prop := ∀ r, 0 ≤ r → r < 6 → bit s r → ubg m r
noncomputable def fw (m : Nat → Int → Int) (f : Nat → Int → UInt32) : Nat → Int
  | 0 => -1
  | k + 1 => cif (subs m (k + 1) ∧ (fw m f k < 0 ∨ lens m (k + 1) 6 < fw m f k) ∧ srv m f (k + 1) (m 21) (m 22) (m 18 0).toNat ≠ none) (lens m (k + 1) 6) (fw m f k)
noncomputable def a_few (m : Nat → Int → Int) (f : Nat → Int → UInt32) : Int := if cntc m (m 18 0).toNat = m 18 0 then 0 else fw m f 63
/-- the reels that have a piece, as bits -/
def hbv (m : Nat → Int → Int) : Nat → Int
  | 0 => 0
  | k + 1 => hbv m k + (if 0 ≤ m 17 k then 2 ^ k else 0)
theorem hbv_b {m : Nat → Int → Int} {k : Nat} : 0 ≤ hbv m k ∧ hbv m k < 2 ^ k := by
  induction k with
  | zero => exact ⟨Int.le_refl 0, show (0 : Int) < 1 by decide⟩
  | succ k ih =>
    have h2 : (2 : Int) ^ (k + 1) = 2 ^ k * 2 := Int.pow_succ ..
    have h3 : (0 : Int) < 2 ^ k := Int.pow_pos (by decide)
    show 0 ≤ hbv m k + (if 0 ≤ m 17 k then 2 ^ k else 0) ∧ hbv m k + (if 0 ≤ m 17 k then 2 ^ k else 0) < 2 ^ (k + 1)
    rw [h2]
    split <;> omega
theorem hbv_6 {m : Nat → Int → Int} {r : Int} (h0 : 0 ≤ r) (h6 : r < 6) : bit (hbv m 6) r ↔ 0 ≤ m 17 r := by
  have e : hbv m 6 = 0 + (if 0 ≤ m 17 0 then 1 else 0) + (if 0 ≤ m 17 1 then 2 else 0) + (if 0 ≤ m 17 2 then 4 else 0) + (if 0 ≤ m 17 3 then 8 else 0) + (if 0 ≤ m 17 4 then 16 else 0) + (if 0 ≤ m 17 5 then 32 else 0) := rfl
  unfold bit
  rw [e]
  have hr : r = 0 ∨ r = 1 ∨ r = 2 ∨ r = 3 ∨ r = 4 ∨ r = 5 := by omega
  rcases hr with rfl | rfl | rfl | rfl | rfl | rfl
  · show _ / (1 : Int) % 2 = 1 ↔ _; omega
  · show _ / (2 : Int) % 2 = 1 ↔ _; omega
  · show _ / (4 : Int) % 2 = 1 ↔ _; omega
  · show _ / (8 : Int) % 2 = 1 ↔ _; omega
  · show _ / (16 : Int) % 2 = 1 ↔ _; omega
  · show _ / (32 : Int) % 2 = 1 ↔ _; omega
theorem fin64 {P : Int → Prop} (h : ∀ s : Fin 64, P ((s.val : Nat) : Int)) {s : Int} (h0 : 0 ≤ s) (h1 : s < 64) : P s := by
  obtain ⟨n, rfl⟩ := Int.eq_ofNat_of_zero_le h0
  exact h ⟨n, by omega⟩
theorem fin6 {P : Int → Prop} (h : ∀ s : Fin 6, P ((s.val : Nat) : Int)) {s : Int} (h0 : 0 ≤ s) (h1 : s < 6) : P s := by
  obtain ⟨n, rfl⟩ := Int.eq_ofNat_of_zero_le h0
  exact h ⟨n, by omega⟩
theorem shr_b {s r : Int} (h0 : 0 ≤ s) (h1 : s < 64) (h2 : 0 ≤ r) (h3 : r < 6) : Int32.ofInt s >>> (Int32.ofInt r &&& 31) = Int32.ofInt (s / 2 ^ r.toNat) :=
  fin64 (P := fun s => Int32.ofInt s >>> (Int32.ofInt r &&& 31) = Int32.ofInt (s / 2 ^ r.toNat)) (fun s => fin6 (P := fun r => Int32.ofInt (s.val : Int) >>> (Int32.ofInt r &&& 31) = Int32.ofInt ((s.val : Int) / 2 ^ r.toNat)) (by revert s; decide +kernel) h2 h3) h0 h1
theorem and1_b {s r : Int} (h0 : 0 ≤ s) (h1 : s < 64) (h2 : 0 ≤ r) (h3 : r < 6) : Int32.ofInt (s / 2 ^ r.toNat) &&& Int32.ofInt 1 = Int32.ofInt (s / 2 ^ r.toNat % 2) :=
  fin64 (P := fun s => Int32.ofInt (s / 2 ^ r.toNat) &&& Int32.ofInt 1 = Int32.ofInt (s / 2 ^ r.toNat % 2)) (fun s => fin6 (P := fun r => Int32.ofInt ((s.val : Int) / 2 ^ r.toNat) &&& Int32.ofInt 1 = Int32.ofInt ((s.val : Int) / 2 ^ r.toNat % 2)) (by revert s; decide +kernel) h2 h3) h0 h1
theorem bit_b {s r : Int} : 0 ≤ s / 2 ^ r.toNat % 2 ∧ s / 2 ^ r.toNat % 2 ≤ 1 := by omega
theorem shl_b {r : Int} (h2 : 0 ≤ r) (h3 : r < 6) : Int32.ofInt 1 <<< (Int32.ofInt r &&& 31) = Int32.ofInt (2 ^ r.toNat) :=
  fin6 (P := fun r => Int32.ofInt 1 <<< (Int32.ofInt r &&& 31) = Int32.ofInt (2 ^ r.toNat)) (by decide +kernel) h2 h3
theorem pow_b {r : Int} (h2 : 0 ≤ r) (h3 : r < 6) : (1 : Int) ≤ 2 ^ r.toNat ∧ (2 : Int) ^ r.toNat ≤ 32 :=
  fin6 (P := fun r => (1 : Int) ≤ 2 ^ r.toNat ∧ (2 : Int) ^ r.toNat ≤ 32) (by decide +kernel) h2 h3
/-- with the bit r -/
theorem or_b {s : Int} {r : Int} (h2 : 0 ≤ r) (h3 : r < 6) (h0 : 0 ≤ s) (h1 : s < 2 ^ r.toNat) : Int32.ofInt s ||| Int32.ofInt (2 ^ r.toNat) = Int32.ofInt (s + 2 ^ r.toNat) := by
  have hp := pow_b h2 h3
  have h := fin64 (P := fun s => s < 2 ^ r.toNat → Int32.ofInt s ||| Int32.ofInt (2 ^ r.toNat) = Int32.ofInt (s + 2 ^ r.toNat)) (fun s => fin6 (P := fun r => (s.val : Int) < 2 ^ r.toNat → Int32.ofInt (s.val : Int) ||| Int32.ofInt (2 ^ r.toNat) = Int32.ofInt ((s.val : Int) + 2 ^ r.toNat)) (by revert s; decide +kernel) h2 h3) h0 (by omega)
  exact h h1
theorem or_0 {s : Int} : Int32.ofInt s ||| Int32.ofInt 0 = Int32.ofInt s := by
  rw [show Int32.ofInt 0 = 0 from rfl]; exact Int32.or_zero
/-- without the bit r -/
def clr (s r : Int) : Int := s - s / 2 ^ r.toNat % 2 * 2 ^ r.toNat
theorem not_b {r : Int} (h2 : 0 ≤ r) (h3 : r < 6) : Int32.ofInt (2 ^ r.toNat) ^^^ Int32.ofInt (-1) = Int32.ofInt (-1 - 2 ^ r.toNat) :=
  fin6 (P := fun r => Int32.ofInt (2 ^ r.toNat) ^^^ Int32.ofInt (-1) = Int32.ofInt (-1 - 2 ^ r.toNat)) (by decide +kernel) h2 h3
theorem clr_b {s r : Int} (h0 : 0 ≤ s) (h1 : s < 64) (h2 : 0 ≤ r) (h3 : r < 6) : Int32.ofInt s &&& Int32.ofInt (-1 - 2 ^ r.toNat) = Int32.ofInt (clr s r) :=
  fin64 (P := fun s => Int32.ofInt s &&& Int32.ofInt (-1 - 2 ^ r.toNat) = Int32.ofInt (clr s r)) (fun s => fin6 (P := fun r => Int32.ofInt (s.val : Int) &&& Int32.ofInt (-1 - 2 ^ r.toNat) = Int32.ofInt (clr (s.val : Int) r)) (by unfold clr; revert s; decide +kernel) h2 h3) h0 h1
theorem clr_s {s r j : Int} (h0 : 0 ≤ s) (h1 : s < 64) (h2 : 0 ≤ r) (h3 : r < 6) (h4 : 0 ≤ j) (h5 : j < 6) : (0 ≤ clr s r ∧ clr s r < 64) ∧ (bit (clr s r) j ↔ bit s j ∧ j ≠ r) :=
  fin64 (P := fun s => (0 ≤ clr s r ∧ clr s r < 64) ∧ (bit (clr s r) j ↔ bit s j ∧ j ≠ r)) (fun s => fin6 (P := fun r => (0 ≤ clr (s.val : Int) r ∧ clr (s.val : Int) r < 64) ∧ (bit (clr (s.val : Int) r) j ↔ bit (s.val : Int) j ∧ j ≠ r)) (fun r => fin6 (P := fun j => (0 ≤ clr (s.val : Int) (r.val : Int) ∧ clr (s.val : Int) (r.val : Int) < 64) ∧ (bit (clr (s.val : Int) (r.val : Int)) j ↔ bit (s.val : Int) j ∧ j ≠ (r.val : Int))) (by unfold clr bit; revert s r; decide +kernel) h4 h5) h2 h3) h0 h1
theorem and_m1 {s : Int} : Int32.ofInt s &&& Int32.ofInt (-1) = Int32.ofInt s := by
  rw [show Int32.ofInt (-1) = -1 from rfl]; exact Int32.and_neg_one
def land6 (s v : Int) : Int := ((s.toNat &&& v.toNat : Nat) : Int)
theorem land6_b {s v : Int} (h0 : 0 ≤ s) (h1 : s < 64) (h2 : 0 ≤ v) (h3 : v < 64) : Int32.ofInt s &&& Int32.ofInt v = Int32.ofInt (land6 s v) ∧ 0 ≤ land6 s v ∧ land6 s v < 64 ∧ (land6 s v = s ↔ ∀ r : Fin 6, bit s (r.val : Int) → bit v (r.val : Int)) :=
  fin64 (P := fun s => Int32.ofInt s &&& Int32.ofInt v = Int32.ofInt (land6 s v) ∧ 0 ≤ land6 s v ∧ land6 s v < 64 ∧ (land6 s v = s ↔ ∀ r : Fin 6, bit s (r.val : Int) → bit v (r.val : Int))) (fun s => fin64 (P := fun v => Int32.ofInt (s.val : Int) &&& Int32.ofInt v = Int32.ofInt (land6 (s.val : Int) v) ∧ 0 ≤ land6 (s.val : Int) v ∧ land6 (s.val : Int) v < 64 ∧ (land6 (s.val : Int) v = (s.val : Int) ↔ ∀ r : Fin 6, bit (s.val : Int) (r.val : Int) → bit v (r.val : Int))) (by unfold land6 bit; revert s; decide +kernel) h2 h3) h0 h1
theorem land6_s {m : Nat → Int → Int} {s v : Int} (h0 : 0 ≤ s) (h1 : s < 64) (h2 : 0 ≤ v) (h3 : v < 64) (hv : ∀ r, 0 ≤ r → r < 6 → (bit v r ↔ ubg m r)) : land6 s v = s ↔ subs m s := by
  rw [(land6_b h0 h1 h2 h3).2.2.2]
  constructor
  · intro h r r0 r6 hb
    obtain ⟨n, rfl⟩ := Int.eq_ofNat_of_zero_le r0
    exact (hv _ r0 r6).mp (h ⟨n, by omega⟩ hb)
  · intro h r hb
    exact (hv _ (by omega) (by omega)).mpr (h _ (by omega) (by omega) hb)
/-- what is marked as taken -/
def s33 (m : Nat → Int → Int) (tk : Int → Int) : Nat → Int → Int := fun k j => if k = 33 then tk j else m k j
theorem s33_0 (m : Nat → Int → Int) : s33 m (m 33) = m := by
  funext k j; unfold s33; split
  · next h => rw [h]
  · rfl
theorem s33_u (m : Nat → Int → Int) (tk : Int → Int) (j v : Int) : up2 (s33 m tk) 33 j v = s33 m (up0 tk j v) := by
  funext k i; unfold up2 s33 up0
  by_cases hk : k = 33
  · subst hk; simp
  · simp [hk]
theorem s33_k (m : Nat → Int → Int) (tk : Int → Int) {k : Nat} (h : k ≠ 33) (j v : Int) : up2 (s33 m tk) k j v = s33 (up2 m k j v) tk := by
  funext i j'; unfold up2 s33
  by_cases hi : i = 33
  · subst hi; rw [if_neg (by omega), if_pos rfl, if_pos rfl]
  · rw [if_neg hi, if_neg hi]
theorem eqs_33 {m : Nat → Int → Int} {f : Nat → Int → UInt32} {tk : Int → Int} : eqs m (s33 m tk) f f := ⟨fun i a _ _ => if_neg (by omega), fun _ _ _ _ => rfl, fun i a _ => rfl⟩
/-- what the pieces on the reels bear is at hand -/
def LK (m : Nat → Int → Int) (f f1 : Nat → Int → UInt32) (n : Int) : Prop := ∀ r, 0 ≤ r → r < n → 0 ≤ m 17 r → ∀ w, 0 ≤ w → w < m 2 (m 17 r) → f1 34 (2001 * r + w) = B m f (m 17 r) w
theorem fits_min {m : Nat → Int → Int} {f : Nat → Int → UInt32} {cr cp : Int → Int} {o r : Int} : ∀ (n : Nat) (s : Int), s < n → fits m f cr cp o r s → ∃ v, FIT m f cr cp o r v := by
  intro n
  induction n with
  | zero => intro s h1 h2; have := h2.1; exfalso; omega
  | succ n ih =>
    intro s h1 h2
    by_cases h3 : ∃ q, q < s ∧ fits m f cr cp o r q
    · obtain ⟨q, h4, h5⟩ := h3
      exact ih q (by omega) h5
    · exact ⟨s, Or.inr ⟨h2, fun q h4 h5 => h3 ⟨q, h4, h5⟩⟩⟩
theorem fitv_s {m : Nat → Int → Int} {f : Nat → Int → UInt32} {cr cp : Int → Int} {o r : Int} : FIT m f cr cp o r (fitv m f cr cp o r) := by
  have h : ∃ v, FIT m f cr cp o r v := by
    by_cases h1 : ∃ s, fits m f cr cp o r s
    · obtain ⟨s, h2⟩ := h1
      exact fits_min (s.toNat + 1) s (by omega) h2
    · exact ⟨-1, Or.inl ⟨rfl, fun s h2 => h1 ⟨s, h2⟩⟩⟩
  obtain ⟨v, h2⟩ := h
  rw [fitv_eq h2]
  exact h2
theorem fitv_b {m : Nat → Int → Int} {f : Nat → Int → UInt32} {cr cp : Int → Int} {o r : Int} : -1 ≤ fitv m f cr cp o r ∧ (0 ≤ fitv m f cr cp o r → fitv m f cr cp o r + m 19 o ≤ m 2 (m 17 r)) := by
  rcases fitv_s (m := m) (f := f) (cr := cr) (cp := cp) (o := o) (r := r) with ⟨h, -⟩ | ⟨⟨h1, h2, -⟩, -⟩
  · omega
  · omega
theorem same.e {m m1 : Nat → Int → Int} {f f1 : Nat → Int → UInt32} (h : same m m1 f f1) {k : Nat} (hk : k < 25) : m1 k = m k := funext (h.1 k hk)
theorem same.f {m m1 : Nat → Int → Int} {f f1 : Nat → Int → UInt32} (h : same m m1 f f1) {k : Nat} (hk : k < 25) : f1 k = f k := funext (h.2 k hk)
theorem same_3 {m m1 : Nat → Int → Int} {f f1 : Nat → Int → UInt32} {pl : Int → Int} {be : Int → UInt32} (h : same m m1 f f1) : same m (s30 m1 pl) f (s31 f1 be) :=
  ⟨fun k hk j => (show s30 m1 pl k j = m1 k j from if_neg (by omega)).trans (h.1 k hk j), fun k hk j => (show s31 f1 be k j = f1 k j from if_neg (by omega)).trans (h.2 k hk j)⟩
theorem same_f {m m1 : Nat → Int → Int} {f f1 : Nat → Int → UInt32} {k : Nat} (hk : 25 ≤ k) {j : Int} {v : UInt32} (h : same m m1 f f1) : same m m1 f (up2 f1 k j v) :=
  ⟨h.1, fun i hi j => (up2_a _ _ _ _ (by omega) _).trans (h.2 i hi j)⟩
theorem Bf_cong {m m' : Nat → Int → Int} {f f' : Nat → Int → UInt32} (e : ∀ k, k < 15 → m' k = m k) (ef : ∀ k, k < 15 → f' k = f k) : ∀ n, Bf m' f' n = Bf m f n := by
  have hplc : ∀ p k z, plc m' p k z = plc m p k z := fun p k z => by unfold plc; rw [e 1 (by decide), e 2 (by decide), e 7 (by decide), e 9 (by decide)]
  have hwr : ∀ p z v k, wr m' f' p z v k = wr m f p z v k := fun p z v k => by
    induction k with
    | zero => rfl
    | succ k ih => unfold wr; rw [ih, e 11 (by decide), e 12 (by decide), e 13 (by decide), ef 14 (by decide)]
  have hsm : ∀ b p z k, sm m' b p z k = sm m b p z k := fun b p z k => by
    induction k with
    | zero => rfl
    | succ k ih => unfold sm; rw [ih, hplc, e 7 (by decide)]
  have hbs : ∀ b p z, bs m' f' b p z = bs m f b p z := fun b p z => by
    unfold bs; simp only [hplc, hsm]; rw [e 1 (by decide), e 6 (by decide), e 7 (by decide), ef 5 (by decide)]
  intro n
  induction n with
  | zero => rfl
  | succ n ih =>
    funext p z
    show wr m' f' p z (bs m' f' (Bf m' f' n) p z) (m' 10 p).toNat = wr m f p z (bs m f (Bf m f n) p z) (m 10 p).toNat
    rw [hwr, hbs, ih, e 10 (by decide)]
theorem B_cong {m m' : Nat → Int → Int} {f f' : Nat → Int → UInt32} (e : ∀ k, k < 15 → m' k = m k) (ef : ∀ k, k < 15 → f' k = f k) : B m' f' = B m f := by
  funext p z; show Bf m' f' _ p z = Bf m f _ p z; rw [Bf_cong e ef]
theorem ff_cong {m m' : Nat → Int → Int} {f f' : Nat → Int → UInt32} (e : ∀ k, k < 20 → m' k = m k) (ef : ∀ k, k < 21 → f' k = f k) : ff m' f' = ff m f := by
  have hB : B m' f' = B m f := B_cong (fun k hk => e k (by omega)) (fun k hk => ef k (by omega))
  have h1 : fitv m' f' = fitv m f := by
    funext cr cp o r
    unfold fitv FIT fits bad tkn
    rw [hB, e 18 (by decide), e 19 (by decide), e 17 (by decide), e 2 (by decide), ef 20 (by decide)]
  funext cr cp o s n
  induction n with
  | zero => rfl
  | succ n ih => unfold ff; rw [h1, ih]
/-- only where orders are cut counts where they were -/
theorem ff_cut {m : Nat → Int → Int} {f : Nat → Int → UInt32} {cr cp cp' : Int → Int} (h : ∀ o, 0 ≤ o → o < m 18 0 → 0 ≤ cr o → cp' o = cp o) {o s : Int} {n : Nat} (hn : n ≤ 6) : ff m f cr cp' o s n = ff m f cr cp o s n := by
  have h1 : ∀ r, 0 ≤ r → ∀ w, tkn m cr cp' r w ↔ tkn m cr cp r w := fun r hr w => by
    unfold tkn
    constructor
    · rintro ⟨u, u0, u1, u2, u3⟩; rw [h u u0 u1 (by omega)] at u3; exact ⟨u, u0, u1, u2, u3⟩
    · rintro ⟨u, u0, u1, u2, u3⟩; rw [← h u u0 u1 (by omega)] at u3; exact ⟨u, u0, u1, u2, u3⟩
  have h2 : ∀ r, 0 ≤ r → fitv m f cr cp' o r = fitv m f cr cp o r := fun r hr => by
    unfold fitv FIT fits bad
    simp only [h1 r hr]
  induction n with
  | zero => rfl
  | succ n ih => unfold ff; rw [h2 _ (by omega), ih (by omega)]
theorem srv_cut {m : Nat → Int → Int} {f : Nat → Int → UInt32} {s : Int} {cr cp cp' : Int → Int} (h : ∀ o, 0 ≤ o → o < m 18 0 → 0 ≤ cr o → cp' o = cp o) (k : Nat) :
    (srv m f s cr cp' k = none ∧ srv m f s cr cp k = none) ∨ ∃ c c', srv m f s cr cp' k = some c' ∧ srv m f s cr cp k = some c ∧ c'.1 = c.1 ∧ ∀ o, 0 ≤ o → o < m 18 0 → 0 ≤ c.1 o → c'.2 o = c.2 o := by
  induction k with
  | zero => exact Or.inr ⟨_, _, rfl, rfl, rfl, h⟩
  | succ k ih =>
    rcases ih with ⟨i1, i2⟩ | ⟨c, c', i1, i2, i3, i4⟩
    · left; unfold srv; rw [i1, i2]; exact ⟨rfl, rfl⟩
    · unfold srv
      rw [i1, i2]
      have hf : ff m f c'.1 c'.2 (k : Int) s 6 = ff m f c.1 c.2 (k : Int) s 6 := by rw [i3]; exact ff_cut i4 (Nat.le_refl 6)
      simp only [cif]
      rw [hf, i3]
      by_cases h1 : 0 ≤ c.1 (k : Int)
      · rw [if_pos h1, if_pos h1]; exact Or.inr ⟨c, c', rfl, rfl, i3, i4⟩
      · rw [if_neg h1, if_neg h1]
        by_cases h2 : ff m f c.1 c.2 (k : Int) s 6 < 0
        · rw [if_pos h2, if_pos h2]; exact Or.inl ⟨rfl, rfl⟩
        · rw [if_neg h2, if_neg h2]
          refine Or.inr ⟨_, _, rfl, rfl, rfl, fun o o0 o1 o2 => ?_⟩
          simp only [up0] at o2 ⊢
          by_cases h3 : o = k
          · rw [if_pos h3, if_pos h3]
          · rw [if_neg h3] at o2; rw [if_neg h3, if_neg h3]; exact i4 o o0 o1 o2
theorem ff_b {m : Nat → Int → Int} {f : Nat → Int → UInt32} (hW : WF m f) {cr cp : Int → Int} {o s : Int} (ho : 1 ≤ m 19 o) (hs : ∀ r, 0 ≤ r → r < 6 → bit s r → 0 ≤ m 17 r) {n : Nat} (hn : n ≤ 6) :
    ff m f cr cp o s n = -1 ∨ (0 ≤ ff m f cr cp o s n ∧ 0 ≤ ff m f cr cp o s n / 10000 ∧ ff m f cr cp o s n / 10000 < 6 ∧ 0 ≤ ff m f cr cp o s n % 10000 ∧ bit s (ff m f cr cp o s n / 10000) ∧ fitv m f cr cp o (ff m f cr cp o s n / 10000) = ff m f cr cp o s n % 10000) := by
  induction n with
  | zero => exact Or.inl rfl
  | succ n ih =>
    unfold ff
    simp only [cif]
    by_cases h : bit s (5 - (n : Int)) ∧ 0 ≤ fitv m f cr cp o (5 - (n : Int))
    · rw [if_pos h]
      right
      have hb := (fitv_b (m := m) (f := f) (cr := cr) (cp := cp) (o := o) (r := 5 - (n : Int))).2 h.2
      have hr := hW.2.2.2.1 (5 - (n : Int)) (by omega) (by omega)
      have hl := hW.b (hs _ (by omega) (by omega) h.1) hr.2.1
      rw [show (10000 * (5 - (n : Int)) + fitv m f cr cp o (5 - (n : Int))) / 10000 = 5 - (n : Int) by omega, show (10000 * (5 - (n : Int)) + fitv m f cr cp o (5 - (n : Int))) % 10000 = fitv m f cr cp o (5 - (n : Int)) by omega]
      exact ⟨by omega, by omega, by omega, h.2, h.1, rfl⟩
    · rw [if_neg h]; exact ih (by omega)
theorem WF.ord {m : Nat → Int → Int} {f : Nat → Int → UInt32} (h : WF m f) {o : Int} (h0 : 0 ≤ o) (h1 : o < m 18 0) : 1 ≤ m 19 o ∧ m 19 o ≤ 2000 ∧ -1 ≤ m 21 o ∧ m 21 o ≤ 5 ∧ (0 ≤ m 21 o → 0 ≤ m 17 (m 21 o) ∧ 0 ≤ m 22 o ∧ m 22 o + m 19 o ≤ 2000) := by
  obtain ⟨a1, a2, a3, a4, a5, -⟩ := h.2.2.2.2.1.2.2 o h0 h1
  refine ⟨a1, a2, a3, a4, fun hc => ?_⟩
  obtain ⟨b1, b2, b3⟩ := a5 hc
  have hr := h.2.2.2.1 (m 21 o) hc (by omega)
  have hb := h.b b1 hr.2.1
  exact ⟨b1, b2, by omega⟩
theorem WF.cutu {m : Nat → Int → Int} {f : Nat → Int → UInt32} (hW : WF m f) {o v : Int} (ho : 0 ≤ o ∧ o < m 18 0) (hv : 0 ≤ v → v / 10000 < 6 ∧ 0 ≤ m 17 (v / 10000) ∧ v % 10000 + m 19 o ≤ m 2 (m 17 (v / 10000))) : WF (cutup m o v) f := by
  unfold cutup
  by_cases hn : v < 0
  · rw [if_pos hn]; exact hW
  · rw [if_neg hn]
    obtain ⟨w1, w2, w3, w4, ⟨w5, w6, w7⟩, w8⟩ := hW
    have e : ∀ k, k ≠ 21 → k ≠ 22 → ∀ j, up2 (up2 m 21 o (v / 10000)) 22 o (v % 10000) k j = m k j := fun k a b j => by rw [up2_a _ _ _ _ b, up2_a _ _ _ _ a]
    have e21 : ∀ j, up2 (up2 m 21 o (v / 10000)) 22 o (v % 10000) 21 j = if j = o then v / 10000 else m 21 j := fun j => by rw [up2_a _ _ _ _ (by decide), up_ite]
    have e22 : ∀ j, up2 (up2 m 21 o (v / 10000)) 22 o (v % 10000) 22 j = if j = o then v % 10000 else m 22 j := fun j => by rw [up_ite, up2_a _ _ _ _ (by decide)]
    have hP : ∀ p, WP (up2 (up2 m 21 o (v / 10000)) 22 o (v % 10000)) f p ↔ WP m f p := fun p => by
      unfold WP thick
      simp only [e _ (show (0 : Nat) ≠ 21 by decide) (by decide), e _ (show (1 : Nat) ≠ 21 by decide) (by decide), e _ (show (2 : Nat) ≠ 21 by decide) (by decide), e _ (show (3 : Nat) ≠ 21 by decide) (by decide), e _ (show (4 : Nat) ≠ 21 by decide) (by decide), e _ (show (6 : Nat) ≠ 21 by decide) (by decide), e _ (show (7 : Nat) ≠ 21 by decide) (by decide), e _ (show (8 : Nat) ≠ 21 by decide) (by decide), e _ (show (9 : Nat) ≠ 21 by decide) (by decide), e _ (show (10 : Nat) ≠ 21 by decide) (by decide), e _ (show (11 : Nat) ≠ 21 by decide) (by decide), e _ (show (12 : Nat) ≠ 21 by decide) (by decide), e _ (show (13 : Nat) ≠ 21 by decide) (by decide)]
    refine ⟨?_, fun p a b => (hP p).mpr (w2 p a ?_), ?_, fun r a b => ?_, ⟨?_, ?_, fun q a b => ?_⟩, ?_⟩
    · rw [e 0 (by decide) (by decide)]; exact w1
    · rw [e 0 (by decide) (by decide)] at b; exact b
    · simp only [e 15 (by decide) (by decide), e 16 (by decide) (by decide), e 0 (by decide) (by decide)]; exact w3
    · simp only [e 17 (by decide) (by decide), e 4 (by decide) (by decide), e 0 (by decide) (by decide)]; exact w4 r a b
    · rw [e 18 (by decide) (by decide)]; exact w5
    · rw [e 18 (by decide) (by decide)]; exact w6
    · rw [e 18 (by decide) (by decide)] at b
      obtain ⟨c1, c2, c3, c4, c5, c6⟩ := w7 q a b
      simp only [e 19 (by decide) (by decide), e 17 (by decide) (by decide), e 2 (by decide) (by decide), e21, e22]
      by_cases hq : q = o
      · subst hq
        obtain ⟨d1, d2, d3⟩ := hv (by omega)
        simp only [if_true]
        exact ⟨c1, c2, by omega, by omega, fun _ => ⟨d2, by omega, d3⟩, c6⟩
      · simp only [if_neg hq]
        exact ⟨c1, c2, c3, c4, c5, c6⟩
    · simp only [e 23 (by decide) (by decide), e 24 (by decide) (by decide)]; exact w8
theorem WF.rl {m : Nat → Int → Int} {f : Nat → Int → UInt32} (h : WF m f) {r : Int} (h0 : 0 ≤ r) (h1 : r < 6) : -1 ≤ m 17 r ∧ m 17 r < m 0 0 ∧ (0 ≤ m 17 r → live m (m 17 r) ∧ 1 ≤ m 2 (m 17 r) ∧ m 2 (m 17 r) ≤ 2000) := by
  obtain ⟨a1, a2, a3⟩ := h.2.2.2.1 r h0 h1
  refine ⟨a1, a2, fun hc => ?_⟩
  have hb := h.b hc a2
  exact ⟨⟨hc, a2, by rw [a3 hc]; decide⟩, by omega, by omega⟩
