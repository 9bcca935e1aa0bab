/-! THE CLASS'S STATE. m its ints and references (slot K, place), f its floats; a s j: the address of thing j of sort s.
Sorts: 0 the RopeWalk; 1 pieces 2 picked 3 reels 4 orders 5 stages; 6 a piece, 7 its parts, 8 from 9 to 10 share; 11 a reel, 12 borne 13 ends; 14 an order.
Beyond the reference's own slots: 48 place of an order 49 picked 50 weight 51 strength(F) 52 from 53 to 54 share 55 secondFrom 56 number 60 how many pieces are made 61 pieces[] 62 orders made 63 orders[] 64 reels made 65 reels[] 66 trialReel 67 trialPlace 68 stretches 69 borne(F) 70 ends -/
def cTab : Nat → Nat × Nat × Nat × Nat
  | 0 => (0, 0, 1, 0) | 15 => (0, 0, 3, 0) | 18 => (0, 0, 6, 0) | 23 => (0, 0, 8, 0) | 24 => (0, 5, 0, 1)
  | 56 => (0, 6, 0, 0) | 1 => (0, 6, 1, 0) | 2 => (0, 6, 2, 0) | 3 => (0, 6, 3, 0) | 55 => (0, 6, 6, 0) | 50 => (0, 6, 7, 0) | 4 => (0, 6, 8, 0) | 8 => (0, 6, 9, 0) | 10 => (0, 6, 10, 0)
  | 52 => (0, 8, 0, 8) | 53 => (0, 9, 0, 8) | 54 => (0, 10, 0, 8) | 68 => (0, 11, 1, 0) | 70 => (0, 13, 0, 2000)
  | 19 => (0, 14, 0, 0) | 21 => (0, 14, 2, 0) | 48 => (0, 14, 3, 0) | 66 => (0, 14, 4, 0) | 67 => (0, 14, 5, 0)
  | 51 => (1, 6, 5, 0) | 69 => (1, 12, 0, 2000) | 20 => (1, 14, 1, 0)
  | 61 => (2, 1, 0, 1) | 49 => (2, 2, 0, 1) | 65 => (2, 3, 0, 1) | 63 => (2, 4, 0, 1) | 7 => (2, 7, 0, 9) | 17 => (2, 11, 0, 0)
  | _ => (9, 0, 0, 0)
/-- of which sort what a reference slot names is -/
def cG (K : Nat) : Nat := if K = 65 then 11 else if K = 63 then 14 else 6
def cKd : Nat → Nat
  | 0 => 3 | 1 => 9 | 2 => 9 | 3 => 10 | 4 => 8 | 5 => 6 | 6 => 1 | 7 => 9 | 8 => 6 | 9 => 6 | 10 => 6 | 11 => 2 | 12 => 5 | 13 => 6 | _ => 0
def cLn (m : Nat → Int → Int) : Nat → Int → Nat
  | 1, _ => 120 | 2, _ => 9 | 3, _ => 6 | 4, _ => 6 | 5, _ => 10 | 7, j => (m 6 j).toNat | 8, _ => 8 | 9, _ => 8 | 10, _ => 8 | 12, _ => 2000 | 13, _ => 2000 | _, _ => 0
def cN (m : Nat → Int → Int) (s : Nat) : Int := if s ≤ 5 then 1 else if s ≤ 10 then m 60 0 else if s ≤ 13 then m 64 0 else m 62 0
def cLive (m : Nat → Int → Int) (s : Nat) (j : Int) : Prop := 0 ≤ j ∧ j < cN m s
def cLinks : List (Nat × Nat × Nat) := [(0, 0, 1), (0, 2, 2), (0, 4, 3), (0, 5, 4), (0, 7, 5), (6, 4, 7), (6, 11, 8), (6, 12, 9), (6, 13, 10), (11, 2, 12), (11, 3, 13)]
def cix (c : Nat) (j i : Int) : Int := if c = 0 then j else if c = 1 then i else (c : Int) * j + i
def cS (K : Nat) : Nat := (cTab K).2.1
def cO (K : Nat) : Nat := (cTab K).2.2.1
def cC (K : Nat) : Nat := (cTab K).2.2.2
def cIn (m : Nat → Int → Int) (K : Nat) (j i : Int) : Prop := cLive m (cS K) j ∧ 0 ≤ i ∧ (cC K = 0 → i = 0) ∧ (cC K ≠ 0 → i < (cLn m (cS K) j : Int))
def rf (a : Nat → Int → Nat) (s : Nat) (v : Int) : Option Nat := if v < 0 then none else some (a s v)
def CA (m : Nat → Int → Int) (f : Nat → Int → UInt32) (a : Nat → Int → Nat) (t : zT) : Prop :=
  (∀ s j, s < 15 → cLive m s j → a s j ∈ tL t ∧ tK t (a s j) = cKd s ∧ tN t (a s j) = cLn m s j) ∧
  (∀ s s' j j', s < 15 → s' < 15 → cLive m s j → cLive m s' j' → a s j = a s' j' → s = s' ∧ j = j') ∧
  (∀ j, cLive m 7 j → 0 ≤ m 6 j ∧ m 6 j ≤ 9) ∧
  (∀ K, K < 80 → (cTab K).1 = 0 → ∀ j i, cIn m K j i → tI t (a (cS K) j) ((cO K : Int) + i) = m K (cix (cC K) j i)) ∧
  (∀ K, K < 80 → (cTab K).1 = 1 → ∀ j i, cIn m K j i → tF t (a (cS K) j) ((cO K : Int) + i) = f K (cix (cC K) j i)) ∧
  (∀ K, K < 80 → (cTab K).1 = 2 → ∀ j i, cIn m K j i → tP t (a (cS K) j) ((cO K : Int) + i) = rf a (cG K) (m K (cix (cC K) j i)) ∧ m K (cix (cC K) j i) < cN m (cG K)) ∧
  (∀ L, L ∈ cLinks → ∀ j, cLive m L.1 j → tP t (a L.1 j) (L.2.1 : Int) = some (a L.2.2 j))
theorem CA.lv {m : Nat → Int → Int} {f : Nat → Int → UInt32} {a : Nat → Int → Nat} {t : zT} (h : CA m f a t) : ∀ s j, s < 15 → cLive m s j → a s j ∈ tL t ∧ tK t (a s j) = cKd s ∧ tN t (a s j) = cLn m s j := h.1
theorem CA.inj {m : Nat → Int → Int} {f : Nat → Int → UInt32} {a : Nat → Int → Nat} {t : zT} (h : CA m f a t) : ∀ s s' j j', s < 15 → s' < 15 → cLive m s j → cLive m s' j' → a s j = a s' j' → s = s' ∧ j = j' := h.2.1
theorem CA.n9 {m : Nat → Int → Int} {f : Nat → Int → UInt32} {a : Nat → Int → Nat} {t : zT} (h : CA m f a t) : ∀ j, cLive m 7 j → 0 ≤ m 6 j ∧ m 6 j ≤ 9 := h.2.2.1
theorem CA.ints {m : Nat → Int → Int} {f : Nat → Int → UInt32} {a : Nat → Int → Nat} {t : zT} (h : CA m f a t) : ∀ K, K < 80 → (cTab K).1 = 0 → ∀ j i, cIn m K j i → tI t (a (cS K) j) ((cO K : Int) + i) = m K (cix (cC K) j i) := h.2.2.2.1
theorem CA.flts {m : Nat → Int → Int} {f : Nat → Int → UInt32} {a : Nat → Int → Nat} {t : zT} (h : CA m f a t) : ∀ K, K < 80 → (cTab K).1 = 1 → ∀ j i, cIn m K j i → tF t (a (cS K) j) ((cO K : Int) + i) = f K (cix (cC K) j i) := h.2.2.2.2.1
theorem CA.refs {m : Nat → Int → Int} {f : Nat → Int → UInt32} {a : Nat → Int → Nat} {t : zT} (h : CA m f a t) : ∀ K, K < 80 → (cTab K).1 = 2 → ∀ j i, cIn m K j i → tP t (a (cS K) j) ((cO K : Int) + i) = rf a (cG K) (m K (cix (cC K) j i)) ∧ m K (cix (cC K) j i) < cN m (cG K) := h.2.2.2.2.2.1
theorem CA.lnk {m : Nat → Int → Int} {f : Nat → Int → UInt32} {a : Nat → Int → Nat} {t : zT} (h : CA m f a t) : ∀ L, L ∈ cLinks → ∀ j, cLive m L.1 j → tP t (a L.1 j) (L.2.1 : Int) = some (a L.2.2 j) := h.2.2.2.2.2.2
theorem ctab_s : ∀ K, K < 80 → (cTab K).1 ≠ 9 → cS K < 15 := by decide +kernel
theorem ctab_j : ∀ K, K < 80 → ∀ K', K' < 80 → ((cTab K).1 ≠ 9 ∧ (cTab K).1 = (cTab K').1 ∧ cS K = cS K') → K = K' ∨ (cC K = 0 ∧ cC K' = 0 ∧ cO K ≠ cO K') := by decide +kernel
theorem ctab_i : ∀ K, K < 80 → ∀ K', K' < 80 → (cTab K).1 ≠ 9 → (cTab K).1 = (cTab K').1 → cS K = cS K' → K = K' ∨ (cC K = 0 ∧ cC K' = 0 ∧ cO K ≠ cO K') := fun K h1 K' h2 h3 h4 h5 => ctab_j K h1 K' h2 ⟨h3, h4, h5⟩
theorem ctab_c : ∀ K, K < 80 → (cTab K).1 ≠ 9 → cC K = 0 ∨ (cC K = 1 ∧ cS K ≤ 5) ∨ (cC K = 8 ∧ (cS K = 8 ∨ cS K = 9 ∨ cS K = 10)) ∨ (cC K = 9 ∧ cS K = 7) ∨ (cC K = 2000 ∧ (cS K = 12 ∨ cS K = 13)) := by decide +kernel
theorem ctab_n : ∀ K, K < 80 → (cTab K).1 ≠ 9 → K ≠ 60 ∧ K ≠ 62 ∧ K ≠ 64 ∧ K ≠ 6 := by decide +kernel
theorem ctab_l : ∀ L, L ∈ cLinks → L.1 < 15 ∧ L.2.2 < 15 ∧ ∀ K, K < 80 → (cTab K).1 = 2 → cS K = L.1 → cC K = 0 ∧ cO K ≠ L.2.1 := by decide +kernel
theorem clink_n : ∀ L, L ∈ cLinks → ∀ m, cN m L.1 = cN m L.2.2 := by
  intro L hL m
  simp [cLinks] at hL
  rcases hL with rfl | rfl | rfl | rfl | rfl | rfl | rfl | rfl | rfl | rfl | rfl <;> rfl
section CCA
variable {m : Nat → Int → Int} {f : Nat → Int → UInt32} {a : Nat → Int → Nat} {t : zT}
theorem cN_up {K : Nat} {i v : Int} {s : Nat} (h : K ≠ 60 ∧ K ≠ 62 ∧ K ≠ 64 ∧ K ≠ 6) : cN (up2 m K i v) s = cN m s := by
  unfold cN; rw [up2_a _ _ _ _ (Ne.symm h.1), up2_a _ _ _ _ (Ne.symm h.2.1), up2_a _ _ _ _ (Ne.symm h.2.2.1)]
theorem cLn_up {K : Nat} {i v : Int} {s : Nat} {j : Int} (h : K ≠ 60 ∧ K ≠ 62 ∧ K ≠ 64 ∧ K ≠ 6) : cLn (up2 m K i v) s j = cLn m s j := by
  unfold cLn; split <;> first | rfl | rw [up2_a _ _ _ _ (Ne.symm h.2.2.2)]
theorem cLive_up {K : Nat} {i v : Int} {s : Nat} {j : Int} (h : K ≠ 60 ∧ K ≠ 62 ∧ K ≠ 64 ∧ K ≠ 6) : cLive (up2 m K i v) s j ↔ cLive m s j := by unfold cLive; rw [cN_up h]
theorem cIn_up {K K' : Nat} {i v : Int} {j i' : Int} (h : K ≠ 60 ∧ K ≠ 62 ∧ K ≠ 64 ∧ K ≠ 6) : cIn (up2 m K i v) K' j i' ↔ cIn m K' j i' := by unfold cIn; rw [cLive_up h, cLn_up h]
theorem cix_inj (h9 : ∀ j, cLive m 7 j → 0 ≤ m 6 j ∧ m 6 j ≤ 9) {K : Nat} (hK : K < 80) (hT : (cTab K).1 ≠ 9) {j i j' i' : Int} (h : cIn m K j i) (h' : cIn m K j' i') (e : cix (cC K) j i = cix (cC K) j' i') : j = j' ∧ i = i' := by
  obtain ⟨hl, i0, iz, il⟩ := h
  obtain ⟨hl', i0', iz', il'⟩ := h'
  rcases ctab_c K hK hT with c | ⟨c, s⟩ | ⟨c, s⟩ | ⟨c, s⟩ | ⟨c, s⟩
  · rw [c] at e; exact ⟨e, (iz c).trans (iz' c).symm⟩
  · rw [c] at e
    have e1 : i = i' := e
    have n1 : cN m (cS K) = 1 := by unfold cN; rw [if_pos s]
    unfold cLive at hl hl'
    rw [n1] at hl hl'
    exact ⟨by omega, e1⟩
  · have l1 := il (by omega)
    have l2 := il' (by omega)
    rw [c] at e
    have e1 : (8 : Int) * j + i = 8 * j' + i' := e
    have g : ∀ q, (cLn m (cS K) q : Int) = 8 := by intro q; rcases s with s | s | s <;> rw [s] <;> rfl
    rw [g] at l1 l2
    omega
  · have l1 := il (by omega)
    have l2 := il' (by omega)
    rw [c] at e
    have e1 : (9 : Int) * j + i = 9 * j' + i' := e
    rw [s] at hl hl' l1 l2
    have n1 := h9 j hl
    have n2 := h9 j' hl'
    have l1' : i < ((m 6 j).toNat : Int) := l1
    have l2' : i' < ((m 6 j').toNat : Int) := l2
    omega
  · have l1 := il (by omega)
    have l2 := il' (by omega)
    rw [c] at e
    have e1 : (2000 : Int) * j + i = 2000 * j' + i' := e
    have g : ∀ q, (cLn m (cS K) q : Int) = 2000 := by intro q; rcases s with s | s <;> rw [s] <;> rfl
    rw [g] at l1 l2
    omega
theorem CA.loc (h : CA m f a t) {K K' : Nat} (hK : K < 80) (hK' : K' < 80) (hT : (cTab K).1 ≠ 9) (hE : (cTab K').1 = (cTab K).1) {j i j' i' : Int} (hi : cIn m K j i) (hi' : cIn m K' j' i') (e : a (cS K') j' = a (cS K) j) (eo : (cO K' : Int) + i' = (cO K : Int) + i) : K' = K ∧ j' = j ∧ i' = i := by
  have hT' : (cTab K').1 ≠ 9 := by rw [hE]; exact hT
  obtain ⟨es, ej⟩ := h.inj _ _ _ _ (ctab_s K' hK' hT') (ctab_s K hK hT) hi'.1 hi.1 e
  rcases ctab_i K' hK' K hK hT' hE es with q | ⟨c1, c2, c3⟩
  · subst q; exact ⟨rfl, ej, by omega⟩
  · exact absurd (by have := hi.2.2.1 c2; have := hi'.2.2.1 c1; omega) c3
theorem CA.upd {α : Type} (h : CA m f a t) {K K' : Nat} (hK : K < 80) (hK' : K' < 80) (hT : (cTab K).1 ≠ 9) (hE : (cTab K').1 = (cTab K).1) {j i j' i' : Int} (hi : cIn m K j i) (hi' : cIn m K' j' i') {G M : Nat → Int → α} (v : α) (e : G (a (cS K') j') ((cO K' : Int) + i') = M K' (cix (cC K') j' i')) :
    up2 G (a (cS K) j) ((cO K : Int) + i) v (a (cS K') j') ((cO K' : Int) + i') = up2 M K (cix (cC K) j i) v K' (cix (cC K') j' i') := by
  unfold up2
  by_cases q : a (cS K') j' = a (cS K) j ∧ (cO K' : Int) + i' = (cO K : Int) + i
  · obtain ⟨e1, e2, e3⟩ := h.loc hK hK' hT hE hi hi' q.1 q.2
    subst e1; subst e2; subst e3
    rw [if_pos ⟨rfl, rfl⟩, if_pos ⟨rfl, rfl⟩]
  · rw [if_neg q]
    by_cases r : K' = K ∧ cix (cC K') j' i' = cix (cC K) j i
    · obtain ⟨r1, r2⟩ := r
      subst r1
      obtain ⟨e1, e2⟩ := cix_inj h.n9 hK' (by rw [hE]; exact hT) hi' hi r2
      subst e1; subst e2
      exact absurd ⟨rfl, rfl⟩ q
    · rw [if_neg r]; exact e
theorem CA.other {α : Type} (h : CA m f a t) {K K' : Nat} (hT : (cTab K').1 ≠ (cTab K).1) {M : Nat → Int → α} {i i' : Int} (v : α) : up2 M K i v K' i' = M K' i' := up2_a _ _ _ _ (fun e => hT (by rw [e])) _
theorem CA.putI (h : CA m f a t) {K : Nat} (hK : K < 80) (hT : (cTab K).1 = 0) {j i : Int} (hi : cIn m K j i) (v : Int) : CA (up2 m K (cix (cC K) j i) v) f a (sI t (a (cS K) j) ((cO K : Int) + i) v) := by
  have h9 : (cTab K).1 ≠ 9 := by rw [hT]; decide
  have hn := ctab_n K hK h9
  refine ⟨fun s j' hs hl => ?_, fun s s' j1 j2 hs hs' hl hl' => ?_, fun j' hl => ?_, fun K' hK' hT' j' i' hi' => ?_, fun K' hK' hT' j' i' hi' => ?_, fun K' hK' hT' j' i' hi' => ?_, fun L hL j' hl => ?_⟩
  · rw [cLn_up hn]; exact h.lv s j' hs ((cLive_up hn).mp hl)
  · exact h.inj s s' j1 j2 hs hs' ((cLive_up hn).mp hl) ((cLive_up hn).mp hl')
  · rw [up2_a _ _ _ _ (Ne.symm hn.2.2.2)]; exact h.n9 j' ((cLive_up hn).mp hl)
  · have hi2 := (cIn_up hn).mp hi'
    exact h.upd hK hK' h9 (by rw [hT, hT']) hi hi2 v (h.ints K' hK' hT' j' i' hi2)
  · exact h.flts K' hK' hT' j' i' ((cIn_up hn).mp hi')
  · rw [cN_up hn, h.other (by rw [hT, hT']; decide)]
    exact h.refs K' hK' hT' j' i' ((cIn_up hn).mp hi')
  · exact h.lnk L hL j' ((cLive_up hn).mp hl)
theorem CA.putF (h : CA m f a t) {K : Nat} (hK : K < 80) (hT : (cTab K).1 = 1) {j i : Int} (hi : cIn m K j i) (v : UInt32) : CA m (up2 f K (cix (cC K) j i) v) a (sF t (a (cS K) j) ((cO K : Int) + i) v) := by
  have h9 : (cTab K).1 ≠ 9 := by rw [hT]; decide
  refine ⟨h.lv, h.inj, h.n9, h.ints, fun K' hK' hT' j' i' hi' => ?_, h.refs, h.lnk⟩
  exact h.upd hK hK' h9 (by rw [hT, hT']) hi hi' v (h.flts K' hK' hT' j' i' hi')
theorem CA.putP (h : CA m f a t) {K : Nat} (hK : K < 80) (hT : (cTab K).1 = 2) {j i : Int} (hi : cIn m K j i) (v : Int) (hv : v < cN m (cG K)) : CA (up2 m K (cix (cC K) j i) v) f a (sP t (a (cS K) j) ((cO K : Int) + i) (rf a (cG K) v)) := by
  have h9 : (cTab K).1 ≠ 9 := by rw [hT]; decide
  have hn := ctab_n K hK h9
  refine ⟨fun s j' hs hl => ?_, fun s s' j1 j2 hs hs' hl hl' => ?_, fun j' hl => ?_, fun K' hK' hT' j' i' hi' => ?_, fun K' hK' hT' j' i' hi' => ?_, fun K' hK' hT' j' i' hi' => ?_, fun L hL j' hl => ?_⟩
  · rw [cLn_up hn]; exact h.lv s j' hs ((cLive_up hn).mp hl)
  · exact h.inj s s' j1 j2 hs hs' ((cLive_up hn).mp hl) ((cLive_up hn).mp hl')
  · rw [up2_a _ _ _ _ (Ne.symm hn.2.2.2)]; exact h.n9 j' ((cLive_up hn).mp hl)
  · rw [h.other (by rw [hT, hT']; decide)]
    exact h.ints K' hK' hT' j' i' ((cIn_up hn).mp hi')
  · exact h.flts K' hK' hT' j' i' ((cIn_up hn).mp hi')
  · have hi2 := (cIn_up hn).mp hi'
    have r := h.refs K' hK' hT' j' i' hi2
    rw [cN_up hn]
    have u := h.upd (M := fun k z => rf a (cG k) (m k z)) hK hK' h9 (by rw [hT, hT']) hi hi2 (rf a (cG K) v) r.1
    refine ⟨u.trans ?_, ?_⟩
    · unfold up2
      by_cases q : K' = K ∧ cix (cC K') j' i' = cix (cC K) j i
      · rw [if_pos q, if_pos q, q.1]
      · rw [if_neg q, if_neg q]
    · unfold up2
      by_cases q : K' = K ∧ cix (cC K') j' i' = cix (cC K) j i
      · rw [if_pos q, q.1]; exact hv
      · rw [if_neg q]; exact r.2
  · have l := h.lnk L hL j' ((cLive_up hn).mp hl)
    show up2 (tP t) _ _ _ _ _ = _
    unfold up2
    rw [if_neg ?_]
    · exact l
    · intro q
      obtain ⟨l1, l2, l3⟩ := ctab_l L hL
      obtain ⟨es, ej⟩ := h.inj _ _ _ _ l1 (ctab_s K hK h9) ((cLive_up hn).mp hl) hi.1 q.1
      obtain ⟨c1, c2⟩ := l3 K hK hT es.symm
      have := hi.2.2.1 c1
      exact c2 (by have := q.2; omega)
/-- something new on the heap changes nothing of it -/
theorem CA.new (h : CA m f a t) {q kd n : Nat} (hq : q ∉ tL t) : CA m f a (sA t q kd n) := by
  have hne : ∀ s j, s < 15 → cLive m s j → a s j ≠ q := fun s j hs hl e => hq (e ▸ (h.lv s j hs hl).1)
  have g : ∀ {α : Type} (F : Nat → α) (v : α) s j, s < 15 → cLive m s j → up1 F q v (a s j) = F (a s j) := fun F v s j hs hl => by unfold up1; rw [if_neg (hne s j hs hl)]
  refine ⟨fun s j hs hl => ?_, h.inj, h.n9, fun K hK hT j i hi => ?_, fun K hK hT j i hi => ?_, fun K hK hT j i hi => ?_, fun L hL j hl => ?_⟩
  · obtain ⟨h1, h2, h3⟩ := h.lv s j hs hl
    exact ⟨List.mem_append_left _ h1, (g _ _ s j hs hl).trans h2, (g _ _ s j hs hl).trans h3⟩
  · show up1 (tI t) q _ _ _ = _
    rw [g _ _ _ _ (ctab_s K hK (by rw [hT]; decide)) hi.1]; exact h.ints K hK hT j i hi
  · show up1 (tF t) q _ _ _ = _
    rw [g _ _ _ _ (ctab_s K hK (by rw [hT]; decide)) hi.1]; exact h.flts K hK hT j i hi
  · show up1 (tP t) q _ _ _ = _ ∧ _
    rw [g _ _ _ _ (ctab_s K hK (by rw [hT]; decide)) hi.1]; exact h.refs K hK hT j i hi
  · show up1 (tP t) q _ _ _ = _
    rw [g _ _ _ _ (ctab_l L hL).1 hl]; exact h.lnk L hL j hl
/-- what is no slot of it may be said otherwise -/
theorem CA.congr (h : CA m f a t) {m1 : Nat → Int → Int} {f1 : Nat → Int → UInt32} (hm : ∀ K, K < 80 → (cTab K).1 = 0 ∨ (cTab K).1 = 2 ∨ K = 60 ∨ K = 62 ∨ K = 64 ∨ K = 6 → ∀ i, m1 K i = m K i) (hf : ∀ K, K < 80 → (cTab K).1 = 1 → ∀ i, f1 K i = f K i) : CA m1 f1 a t := by
  have hN : ∀ s, cN m1 s = cN m s := fun s => by unfold cN; rw [hm 60 (by decide) (by decide), hm 64 (by decide) (by decide), hm 62 (by decide) (by decide)]
  have hLn : ∀ s j, cLn m1 s j = cLn m s j := fun s j => by unfold cLn; split <;> first | rfl | rw [hm 6 (by decide) (by decide)]
  have hLv : ∀ s j, cLive m1 s j ↔ cLive m s j := fun s j => by unfold cLive; rw [hN]
  have hIn : ∀ K j i, cIn m1 K j i ↔ cIn m K j i := fun K j i => by unfold cIn; rw [hLv, hLn]
  refine ⟨fun s j hs hl => ?_, fun s s' j1 j2 hs hs' hl hl' => ?_, fun j hl => ?_, fun K hK hT j i hi => ?_, fun K hK hT j i hi => ?_, fun K hK hT j i hi => ?_, fun L hL j hl => ?_⟩
  · rw [hLn]; exact h.lv s j hs ((hLv s j).mp hl)
  · exact h.inj s s' j1 j2 hs hs' ((hLv _ _).mp hl) ((hLv _ _).mp hl')
  · rw [hm 6 (by decide) (by decide)]; exact h.n9 j ((hLv 7 j).mp hl)
  · rw [hm K hK (Or.inl hT)]; exact h.ints K hK hT j i ((hIn K j i).mp hi)
  · rw [hf K hK hT]; exact h.flts K hK hT j i ((hIn K j i).mp hi)
  · rw [hm K hK (Or.inr (Or.inl hT)), hN]; exact h.refs K hK hT j i ((hIn K j i).mp hi)
  · exact h.lnk L hL j ((hLv L.1 j).mp hl)
theorem rf_p {s : Nat} {v : Int} (h : 0 ≤ v) : rf a s v = some (a s v) := if_neg (by omega)
theorem rf_n {s : Nat} {v : Int} (h : v < 0) : rf a s v = none := if_pos h
theorem rf_0 {s : Nat} : rf a s 0 = some (a s 0) := rfl
theorem rf_none {s : Nat} {v : Int} : rf a s v = none ↔ v < 0 := by
  unfold rf
  by_cases h : v < 0
  · rw [if_pos h]; exact ⟨fun _ => h, fun _ => rfl⟩
  · rw [if_neg h]; exact ⟨fun e => (Option.some_ne_none _ e).elim, fun e => absurd e h⟩
theorem CA.rf_eq (h : CA m f a t) {s : Nat} {u v : Int} (hs : s < 15) (hu : u < cN m s) (hv : v < cN m s) : rf a s u = rf a s v ↔ u = v ∨ (u < 0 ∧ v < 0) := by
  by_cases h1 : u < 0
  · rw [rf_n h1]
    by_cases h2 : v < 0
    · rw [rf_n h2]; exact ⟨fun _ => Or.inr ⟨h1, h2⟩, fun _ => rfl⟩
    · rw [rf_p (by omega)]; exact ⟨fun e => (Option.some_ne_none _ e.symm).elim, fun e => by omega⟩
  · rw [rf_p (by omega)]
    by_cases h2 : v < 0
    · rw [rf_n h2]; exact ⟨fun e => (Option.some_ne_none _ e).elim, fun e => by omega⟩
    · rw [rf_p (by omega)]
      constructor
      · intro e; exact Or.inl (h.inj s s u v hs hs ⟨by omega, hu⟩ ⟨by omega, hv⟩ (Option.some.inj e)).2
      · rintro (e | e)
        · rw [e]
        · omega
theorem l0 : cLive m 0 0 := ⟨Int.le_refl 0, show (0 : Int) < 1 by decide⟩
theorem l1 : cLive m 1 0 := ⟨Int.le_refl 0, show (0 : Int) < 1 by decide⟩
theorem l2 : cLive m 2 0 := ⟨Int.le_refl 0, show (0 : Int) < 1 by decide⟩
theorem l3 : cLive m 3 0 := ⟨Int.le_refl 0, show (0 : Int) < 1 by decide⟩
theorem l4 : cLive m 4 0 := ⟨Int.le_refl 0, show (0 : Int) < 1 by decide⟩
theorem l5 : cLive m 5 0 := ⟨Int.le_refl 0, show (0 : Int) < 1 by decide⟩
theorem lp {s : Nat} {j : Int} (h : 0 ≤ j ∧ j < m 60 0) (hs : cN m s = m 60 0 := by rfl) : cLive m s j := ⟨h.1, hs.symm ▸ h.2⟩
theorem lr {s : Nat} {j : Int} (h : 0 ≤ j ∧ j < m 64 0) (hs : cN m s = m 64 0 := by rfl) : cLive m s j := ⟨h.1, hs.symm ▸ h.2⟩
theorem lo {j : Int} (h : 0 ≤ j ∧ j < m 62 0) : cLive m 14 j := ⟨h.1, h.2⟩
variable {y : MethodName} {b : ByteArray} {nL : Nat} {ret : Option FieldType} {d mc ms : Nat} {Post : Option zV → zT → Prop} {cu su pc : Nat} {lv : List (Nat × zV)} {st : List zV}
theorem c_getI (pc' K : Nat) (h : CA m f a t) {idx ci k s : Nat} {fin : Bool} {v z : Int} (hL : zFL y.cls idx ci k 0 fin) (hK : K < 80 ∧ cTab K = (0, s, k, 0) ∧ cKd s = ci) (hl : cLive m s v) (hz : m K v = z) (hd : decode b pc = .ok (.getfield idx, 3)) (hp : pc + 3 = pc') (kk : zOK y b nL ret d mc ms Post cu su pc' lv (vI z :: st) t) : zOK y b nL ret d mc ms Post cu su pc lv (vR (rf a s v) :: st) t := by
  have e1 : cS K = s := by unfold cS; rw [hK.2.1]
  have e2 : cO K = k := by unfold cO; rw [hK.2.1]
  have e3 : cC K = 0 := by unfold cC; rw [hK.2.1]
  have e4 : (cTab K).1 = 0 := by rw [hK.2.1]
  have hs : s < 15 := by rw [← e1]; exact ctab_s K hK.1 (by rw [e4]; decide)
  obtain ⟨g1, g2, _⟩ := h.lv s v hs hl
  have hh := h.ints K hK.1 e4 v 0 ⟨by rw [e1]; exact hl, by omega, fun _ => rfl, fun q => absurd e3 q⟩
  rw [e1, e2, e3, show ((k : Nat) : Int) + 0 = k by omega] at hh
  rw [rf_p hl.1]
  refine z_getI pc' hL g1 (g2.trans hK.2.2) hd hp ?_
  rw [hh, show cix 0 v 0 = v from rfl, hz]; exact kk
theorem c_getF (pc' K : Nat) (h : CA m f a t) {idx ci k s : Nat} {fin : Bool} {v : Int} {z : UInt32} (hL : zFL y.cls idx ci k 1 fin) (hK : K < 80 ∧ cTab K = (1, s, k, 0) ∧ cKd s = ci) (hl : cLive m s v) (hz : f K v = z) (hd : decode b pc = .ok (.getfield idx, 3)) (hp : pc + 3 = pc') (kk : zOK y b nL ret d mc ms Post cu su pc' lv (vF z :: st) t) : zOK y b nL ret d mc ms Post cu su pc lv (vR (rf a s v) :: st) t := by
  have e1 : cS K = s := by unfold cS; rw [hK.2.1]
  have e2 : cO K = k := by unfold cO; rw [hK.2.1]
  have e3 : cC K = 0 := by unfold cC; rw [hK.2.1]
  have e4 : (cTab K).1 = 1 := by rw [hK.2.1]
  have hs : s < 15 := by rw [← e1]; exact ctab_s K hK.1 (by rw [e4]; decide)
  obtain ⟨g1, g2, _⟩ := h.lv s v hs hl
  have hh := h.flts K hK.1 e4 v 0 ⟨by rw [e1]; exact hl, by omega, fun _ => rfl, fun q => absurd e3 q⟩
  rw [e1, e2, e3, show ((k : Nat) : Int) + 0 = k by omega] at hh
  rw [rf_p hl.1]
  refine z_getF pc' hL g1 (g2.trans hK.2.2) hd hp ?_
  rw [hh, show cix 0 v 0 = v from rfl, hz]; exact kk
theorem c_getP (pc' K : Nat) (h : CA m f a t) {idx ci k s : Nat} {fin : Bool} {v z : Int} (hL : zFL y.cls idx ci k 2 fin) (hK : K < 80 ∧ cTab K = (2, s, k, 0) ∧ cKd s = ci) (hl : cLive m s v) (hz : m K v = z) (hd : decode b pc = .ok (.getfield idx, 3)) (hp : pc + 3 = pc') (kk : z < cN m (cG K) → zOK y b nL ret d mc ms Post cu su pc' lv (vR (rf a (cG K) z) :: st) t) : zOK y b nL ret d mc ms Post cu su pc lv (vR (rf a s v) :: st) t := by
  have e1 : cS K = s := by unfold cS; rw [hK.2.1]
  have e2 : cO K = k := by unfold cO; rw [hK.2.1]
  have e3 : cC K = 0 := by unfold cC; rw [hK.2.1]
  have e4 : (cTab K).1 = 2 := by rw [hK.2.1]
  have hs : s < 15 := by rw [← e1]; exact ctab_s K hK.1 (by rw [e4]; decide)
  obtain ⟨g1, g2, _⟩ := h.lv s v hs hl
  have hh := h.refs K hK.1 e4 v 0 ⟨by rw [e1]; exact hl, by omega, fun _ => rfl, fun q => absurd e3 q⟩
  rw [e1, e2, e3, show ((k : Nat) : Int) + 0 = k by omega, show cix 0 v 0 = v from rfl, hz] at hh
  rw [rf_p hl.1]
  refine z_getP pc' hL g1 (g2.trans hK.2.2) hd hp ?_
  rw [hh.1]; exact kk hh.2
theorem c_getL (pc' s' : Nat) (h : CA m f a t) {idx ci k s : Nat} {fin : Bool} {v : Int} (hL : zFL y.cls idx ci k 2 fin) (hK : (s, k, s') ∈ cLinks ∧ cKd s = ci) (hl : cLive m s v) (hd : decode b pc = .ok (.getfield idx, 3)) (hp : pc + 3 = pc') (kk : zOK y b nL ret d mc ms Post cu su pc' lv (vR (rf a s' v) :: st) t) : zOK y b nL ret d mc ms Post cu su pc lv (vR (rf a s v) :: st) t := by
  obtain ⟨g1, g2, _⟩ := h.lv s v (ctab_l _ hK.1).1 hl
  rw [rf_p hl.1]
  refine z_getP pc' hL g1 (g2.trans hK.2) hd hp ?_
  rw [h.lnk _ hK.1 v hl, ← rf_p (a := a) (s := s') hl.1]; exact kk
theorem c_putI (pc' K : Nat) (h : CA m f a t) {idx ci k s : Nat} {v z : Int} (hL : zFL y.cls idx ci k 0 false) (hK : K < 80 ∧ cTab K = (0, s, k, 0) ∧ cKd s = ci) (hl : cLive m s v) (hd : decode b pc = .ok (.putfield idx, 3)) (hp : pc + 3 = pc') (kk : ∀ t, CA (up2 m K v z) f a t → zOK y b nL ret d mc ms Post cu su pc' lv st t) : zOK y b nL ret d mc ms Post cu su pc lv (vI z :: vR (rf a s v) :: st) t := by
  have e1 : cS K = s := by unfold cS; rw [hK.2.1]
  have e2 : cO K = k := by unfold cO; rw [hK.2.1]
  have e3 : cC K = 0 := by unfold cC; rw [hK.2.1]
  have e4 : (cTab K).1 = 0 := by rw [hK.2.1]
  have hs : s < 15 := by rw [← e1]; exact ctab_s K hK.1 (by rw [e4]; decide)
  obtain ⟨g1, g2, _⟩ := h.lv s v hs hl
  have hh := h.putI hK.1 e4 (j := v) (i := 0) ⟨by rw [e1]; exact hl, by omega, fun _ => rfl, fun q => absurd e3 q⟩ z
  rw [e1, e2, e3, show ((k : Nat) : Int) + 0 = k by omega, show cix 0 v 0 = v from rfl] at hh
  rw [rf_p hl.1]
  exact z_putI pc' hL g1 (g2.trans hK.2.2) hd hp (kk _ hh)
theorem c_putF (pc' K : Nat) (h : CA m f a t) {idx ci k s : Nat} {v : Int} {z : UInt32} (hL : zFL y.cls idx ci k 1 false) (hK : K < 80 ∧ cTab K = (1, s, k, 0) ∧ cKd s = ci) (hl : cLive m s v) (hd : decode b pc = .ok (.putfield idx, 3)) (hp : pc + 3 = pc') (kk : ∀ t, CA m (up2 f K v z) a t → zOK y b nL ret d mc ms Post cu su pc' lv st t) : zOK y b nL ret d mc ms Post cu su pc lv (vF z :: vR (rf a s v) :: st) t := by
  have e1 : cS K = s := by unfold cS; rw [hK.2.1]
  have e2 : cO K = k := by unfold cO; rw [hK.2.1]
  have e3 : cC K = 0 := by unfold cC; rw [hK.2.1]
  have e4 : (cTab K).1 = 1 := by rw [hK.2.1]
  have hs : s < 15 := by rw [← e1]; exact ctab_s K hK.1 (by rw [e4]; decide)
  obtain ⟨g1, g2, _⟩ := h.lv s v hs hl
  have hh := h.putF hK.1 e4 (j := v) (i := 0) ⟨by rw [e1]; exact hl, by omega, fun _ => rfl, fun q => absurd e3 q⟩ z
  rw [e1, e2, e3, show ((k : Nat) : Int) + 0 = k by omega, show cix 0 v 0 = v from rfl] at hh
  rw [rf_p hl.1]
  exact z_putF pc' hL g1 (g2.trans hK.2.2) hd hp (kk _ hh)
theorem c_putR (pc' K : Nat) (z : Int) (h : CA m f a t) {idx ci k s : Nat} {v : Int} {r : Option Nat} (hr : r = rf a (cG K) z) (hz : z < cN m (cG K)) (hL : zFL y.cls idx ci k 2 false) (hK : K < 80 ∧ cTab K = (2, s, k, 0) ∧ cKd s = ci) (hl : cLive m s v) (hd : decode b pc = .ok (.putfield idx, 3)) (hp : pc + 3 = pc') (kk : ∀ t, CA (up2 m K v z) f a t → zOK y b nL ret d mc ms Post cu su pc' lv st t) : zOK y b nL ret d mc ms Post cu su pc lv (vR r :: vR (rf a s v) :: st) t := by
  have e1 : cS K = s := by unfold cS; rw [hK.2.1]
  have e2 : cO K = k := by unfold cO; rw [hK.2.1]
  have e3 : cC K = 0 := by unfold cC; rw [hK.2.1]
  have e4 : (cTab K).1 = 2 := by rw [hK.2.1]
  have hs : s < 15 := by rw [← e1]; exact ctab_s K hK.1 (by rw [e4]; decide)
  obtain ⟨g1, g2, _⟩ := h.lv s v hs hl
  have hh := h.putP hK.1 e4 (j := v) (i := 0) ⟨by rw [e1]; exact hl, by omega, fun _ => rfl, fun q => absurd e3 q⟩ z hz
  rw [e1, e2, e3, show ((k : Nat) : Int) + 0 = k by omega, show cix 0 v 0 = v from rfl] at hh
  rw [rf_p hl.1, hr]
  exact z_putP pc' hL g1 (g2.trans hK.2.2) hd hp (kk _ hh)
theorem c_iald (pc' K : Nat) (h : CA m f a t) {s c : Nat} {j i e : Int} (n : Nat) (hK : K < 80 ∧ cTab K = (0, s, 0, c) ∧ c ≠ 0 ∧ cKd s = 6) (hx : cix c j i = e) (hl : cLive m s j) (hn : cLn m s j = n) (hm : Nat.ble n 2147483647 = true) (hj : 0 ≤ i ∧ i < n) {z : Int} (hz : m K e = z) (hd : decode b pc = .ok (.iaload, 1)) (hp : pc + 1 = pc') (kk : zOK y b nL ret d mc ms Post cu su pc' lv (vI z :: st) t) : zOK y b nL ret d mc ms Post cu su pc lv (vI i :: vR (rf a s j) :: st) t := by
  have e1 : cS K = s := by unfold cS; rw [hK.2.1]
  have e2 : cO K = 0 := by unfold cO; rw [hK.2.1]
  have e3 : cC K = c := by unfold cC; rw [hK.2.1]
  have e4 : (cTab K).1 = 0 := by rw [hK.2.1]
  have hs : s < 15 := by rw [← e1]; exact ctab_s K hK.1 (by rw [e4]; decide)
  obtain ⟨g1, g2, g3⟩ := h.lv s j hs hl
  have hh := h.ints K hK.1 e4 j i ⟨by rw [e1]; exact hl, hj.1, fun q => absurd (e3.symm.trans q) hK.2.2.1, fun _ => by rw [e1, hn]; exact hj.2⟩
  rw [e1, e2, e3, hx, hz, show ((0 : Nat) : Int) + i = i by omega] at hh
  rw [rf_p hl.1]
  refine z_iald pc' n g1 (g2.trans hK.2.2.2) (g3.trans hn) hm hj hd hp ?_
  rw [hh]; exact kk
theorem c_fald (pc' K : Nat) (h : CA m f a t) {s c : Nat} {j i e : Int} (n : Nat) (hK : K < 80 ∧ cTab K = (1, s, 0, c) ∧ c ≠ 0 ∧ cKd s = 5) (hx : cix c j i = e) (hl : cLive m s j) (hn : cLn m s j = n) (hm : Nat.ble n 2147483647 = true) (hj : 0 ≤ i ∧ i < n) {z : UInt32} (hz : f K e = z) (hd : decode b pc = .ok (.faload, 1)) (hp : pc + 1 = pc') (kk : zOK y b nL ret d mc ms Post cu su pc' lv (vF z :: st) t) : zOK y b nL ret d mc ms Post cu su pc lv (vI i :: vR (rf a s j) :: st) t := by
  have e1 : cS K = s := by unfold cS; rw [hK.2.1]
  have e2 : cO K = 0 := by unfold cO; rw [hK.2.1]
  have e3 : cC K = c := by unfold cC; rw [hK.2.1]
  have e4 : (cTab K).1 = 1 := by rw [hK.2.1]
  have hs : s < 15 := by rw [← e1]; exact ctab_s K hK.1 (by rw [e4]; decide)
  obtain ⟨g1, g2, g3⟩ := h.lv s j hs hl
  have hh := h.flts K hK.1 e4 j i ⟨by rw [e1]; exact hl, hj.1, fun q => absurd (e3.symm.trans q) hK.2.2.1, fun _ => by rw [e1, hn]; exact hj.2⟩
  rw [e1, e2, e3, hx, hz, show ((0 : Nat) : Int) + i = i by omega] at hh
  rw [rf_p hl.1]
  refine z_fald pc' n g1 (g2.trans hK.2.2.2) (g3.trans hn) hm hj hd hp ?_
  rw [hh]; exact kk
theorem c_aald (pc' K : Nat) (h : CA m f a t) {s c : Nat} {j i e : Int} (n : Nat) (hK : K < 80 ∧ cTab K = (2, s, 0, c) ∧ c ≠ 0 ∧ (cKd s = 8 ∨ cKd s = 9 ∨ cKd s = 10)) (hx : cix c j i = e) (hl : cLive m s j) (hn : cLn m s j = n) (hm : n ≤ 2147483647) (hj : 0 ≤ i ∧ i < n) {z : Int} (hz : m K e = z) (hd : decode b pc = .ok (.aaload, 1)) (hp : pc + 1 = pc') (kk : z < cN m (cG K) → zOK y b nL ret d mc ms Post cu su pc' lv (vR (rf a (cG K) z) :: st) t) : zOK y b nL ret d mc ms Post cu su pc lv (vI i :: vR (rf a s j) :: st) t := by
  have e1 : cS K = s := by unfold cS; rw [hK.2.1]
  have e2 : cO K = 0 := by unfold cO; rw [hK.2.1]
  have e3 : cC K = c := by unfold cC; rw [hK.2.1]
  have e4 : (cTab K).1 = 2 := by rw [hK.2.1]
  have hs : s < 15 := by rw [← e1]; exact ctab_s K hK.1 (by rw [e4]; decide)
  obtain ⟨g1, g2, g3⟩ := h.lv s j hs hl
  have hh := h.refs K hK.1 e4 j i ⟨by rw [e1]; exact hl, hj.1, fun q => absurd (e3.symm.trans q) hK.2.2.1, fun _ => by rw [e1, hn]; exact hj.2⟩
  rw [e1, e2, e3, hx, hz, show ((0 : Nat) : Int) + i = i by omega] at hh
  rw [rf_p hl.1]
  refine z_aald pc' n g1 g2 hK.2.2.2 (g3.trans hn) hm hj hd hp ?_
  rw [hh.1]; exact kk hh.2
theorem c_iast (pc' K : Nat) (h : CA m f a t) {s c : Nat} {j i e z : Int} (n : Nat) (hK : K < 80 ∧ cTab K = (0, s, 0, c) ∧ c ≠ 0 ∧ cKd s = 6) (hx : cix c j i = e) (hl : cLive m s j) (hn : cLn m s j = n) (hm : Nat.ble n 2147483647 = true) (hj : 0 ≤ i ∧ i < n) (hd : decode b pc = .ok (.iastore, 1)) (hp : pc + 1 = pc') (kk : ∀ t, CA (up2 m K e z) f a t → zOK y b nL ret d mc ms Post cu su pc' lv st t) : zOK y b nL ret d mc ms Post cu su pc lv (vI z :: vI i :: vR (rf a s j) :: st) t := by
  have e1 : cS K = s := by unfold cS; rw [hK.2.1]
  have e2 : cO K = 0 := by unfold cO; rw [hK.2.1]
  have e3 : cC K = c := by unfold cC; rw [hK.2.1]
  have e4 : (cTab K).1 = 0 := by rw [hK.2.1]
  have hs : s < 15 := by rw [← e1]; exact ctab_s K hK.1 (by rw [e4]; decide)
  obtain ⟨g1, g2, g3⟩ := h.lv s j hs hl
  have hh := h.putI hK.1 e4 (j := j) (i := i) ⟨by rw [e1]; exact hl, hj.1, fun q => absurd (e3.symm.trans q) hK.2.2.1, fun _ => by rw [e1, hn]; exact hj.2⟩ z
  rw [e1, e2, e3, hx, show ((0 : Nat) : Int) + i = i by omega] at hh
  rw [rf_p hl.1]
  exact z_iast pc' n g1 (g2.trans hK.2.2.2) (g3.trans hn) hm hj hd hp (kk _ hh)
theorem c_fast (pc' K : Nat) (h : CA m f a t) {s c : Nat} {j i e : Int} {z : UInt32} (n : Nat) (hK : K < 80 ∧ cTab K = (1, s, 0, c) ∧ c ≠ 0 ∧ cKd s = 5) (hx : cix c j i = e) (hl : cLive m s j) (hn : cLn m s j = n) (hm : Nat.ble n 2147483647 = true) (hj : 0 ≤ i ∧ i < n) (hd : decode b pc = .ok (.fastore, 1)) (hp : pc + 1 = pc') (kk : ∀ t, CA m (up2 f K e z) a t → zOK y b nL ret d mc ms Post cu su pc' lv st t) : zOK y b nL ret d mc ms Post cu su pc lv (vF z :: vI i :: vR (rf a s j) :: st) t := by
  have e1 : cS K = s := by unfold cS; rw [hK.2.1]
  have e2 : cO K = 0 := by unfold cO; rw [hK.2.1]
  have e3 : cC K = c := by unfold cC; rw [hK.2.1]
  have e4 : (cTab K).1 = 1 := by rw [hK.2.1]
  have hs : s < 15 := by rw [← e1]; exact ctab_s K hK.1 (by rw [e4]; decide)
  obtain ⟨g1, g2, g3⟩ := h.lv s j hs hl
  have hh := h.putF hK.1 e4 (j := j) (i := i) ⟨by rw [e1]; exact hl, hj.1, fun q => absurd (e3.symm.trans q) hK.2.2.1, fun _ => by rw [e1, hn]; exact hj.2⟩ z
  rw [e1, e2, e3, hx, show ((0 : Nat) : Int) + i = i by omega] at hh
  rw [rf_p hl.1]
  exact z_fast pc' n g1 (g2.trans hK.2.2.2) (g3.trans hn) hm hj hd hp (kk _ hh)
theorem c_aast (pc' K : Nat) (h : CA m f a t) {s g c : Nat} {j i e z : Int} (n : Nat) (hK : K < 80 ∧ cTab K = (2, s, 0, c) ∧ c ≠ 0 ∧ cKd s = 8 + cKd g ∧ cKd g < 3 ∧ cG K = g ∧ g < 15) (hx : cix c j i = e) (hl : cLive m s j) (hz : cLive m g z) (hn : cLn m s j = n) (hm : n ≤ 2147483647) (hj : 0 ≤ i ∧ i < n) (hd : decode b pc = .ok (.aastore, 1)) (hp : pc + 1 = pc') (kk : ∀ t, CA (up2 m K e z) f a t → zOK y b nL ret d mc ms Post cu su pc' lv st t) : zOK y b nL ret d mc ms Post cu su pc lv (vR (rf a g z) :: vI i :: vR (rf a s j) :: st) t := by
  have e1 : cS K = s := by unfold cS; rw [hK.2.1]
  have e2 : cO K = 0 := by unfold cO; rw [hK.2.1]
  have e3 : cC K = c := by unfold cC; rw [hK.2.1]
  have e4 : (cTab K).1 = 2 := by rw [hK.2.1]
  have hs : s < 15 := by rw [← e1]; exact ctab_s K hK.1 (by rw [e4]; decide)
  obtain ⟨g1, g2, g3⟩ := h.lv s j hs hl
  obtain ⟨v1, v2, _⟩ := h.lv g z hK.2.2.2.2.2.2 hz
  have hh := h.putP hK.1 e4 (j := j) (i := i) ⟨by rw [e1]; exact hl, hj.1, fun q => absurd (e3.symm.trans q) hK.2.2.1, fun _ => by rw [e1, hn]; exact hj.2⟩ z (by rw [hK.2.2.2.2.2.1]; exact hz.2)
  rw [e1, e2, e3, hx, show ((0 : Nat) : Int) + i = i by omega, hK.2.2.2.2.2.1, rf_p hz.1] at hh
  rw [rf_p hl.1, rf_p hz.1]
  exact z_aast pc' n g1 (g2.trans hK.2.2.2.1) v1 v2 hK.2.2.2.2.1 (g3.trans hn) hm hj hd hp (kk _ hh)
theorem c_alen (pc' : Nat) (h : CA m f a t) {s : Nat} {j z : Int} (hs : s < 15 ∧ 5 ≤ cKd s ∧ cKd s ≤ 10) (hl : cLive m s j) (hz : (cLn m s j : Int) = z) (hd : decode b pc = .ok (.arraylength, 1)) (hp : pc + 1 = pc') (kk : zOK y b nL ret d mc ms Post cu su pc' lv (vI z :: st) t) : zOK y b nL ret d mc ms Post cu su pc lv (vR (rf a s j) :: st) t := by
  obtain ⟨g1, g2, g3⟩ := h.lv s j hs.1 hl
  rw [rf_p hl.1]
  refine z_alen pc' g1 g2 hs.2 hd hp ?_
  rw [g3, hz]; exact kk
theorem c_ifnull (tgt pc' : Nat) {s : Nat} {v off : Int} (hd : decode b pc = .ok (.ifnull off, 3)) (ht : (pc : Int) + off = (tgt : Int)) (hp : pc + 3 = pc') (k1 : v < 0 → zOK y b nL ret d mc ms Post cu su tgt lv st t) (k2 : ¬ v < 0 → zOK y b nL ret d mc ms Post cu su pc' lv st t) : zOK y b nL ret d mc ms Post cu su pc lv (vR (rf a s v) :: st) t :=
  z_ifnull tgt pc' hd ht hp (fun e => k1 (rf_none.mp e)) (fun e => k2 (fun q => e (rf_none.mpr q)))
theorem c_ifnonnull (tgt pc' : Nat) {s : Nat} {v off : Int} (hd : decode b pc = .ok (.ifnonnull off, 3)) (ht : (pc : Int) + off = (tgt : Int)) (hp : pc + 3 = pc') (k1 : ¬ v < 0 → zOK y b nL ret d mc ms Post cu su tgt lv st t) (k2 : v < 0 → zOK y b nL ret d mc ms Post cu su pc' lv st t) : zOK y b nL ret d mc ms Post cu su pc lv (vR (rf a s v) :: st) t :=
  z_ifnonnull tgt pc' hd ht hp (fun e => k1 (fun q => e (rf_none.mpr q))) (fun e => k2 (by by_cases q : v < 0; exact q; exact absurd (fun z => q (rf_none.mp z)) e))
theorem c_acmp_eq (tgt pc' : Nat) (h : CA m f a t) {s : Nat} {u v off : Int} (hs : s < 15) (hu : u < cN m s) (hv : v < cN m s) (hd : decode b pc = .ok (.if_acmp .eq off, 3)) (ht : (pc : Int) + off = (tgt : Int)) (hp : pc + 3 = pc') (k1 : (u = v ∨ (u < 0 ∧ v < 0)) → zOK y b nL ret d mc ms Post cu su tgt lv st t) (k2 : ¬ (u = v ∨ (u < 0 ∧ v < 0)) → zOK y b nL ret d mc ms Post cu su pc' lv st t) : zOK y b nL ret d mc ms Post cu su pc lv (vR (rf a s v) :: vR (rf a s u) :: st) t :=
  z_acmp_eq tgt pc' hd ht hp (fun e => k1 ((h.rf_eq hs hu hv).mp e)) (fun e => k2 (fun q => e ((h.rf_eq hs hu hv).mpr q)))
theorem c_acmp_ne (tgt pc' : Nat) (h : CA m f a t) {s : Nat} {u v off : Int} (hs : s < 15) (hu : u < cN m s) (hv : v < cN m s) (hd : decode b pc = .ok (.if_acmp .ne off, 3)) (ht : (pc : Int) + off = (tgt : Int)) (hp : pc + 3 = pc') (k1 : ¬ (u = v ∨ (u < 0 ∧ v < 0)) → zOK y b nL ret d mc ms Post cu su tgt lv st t) (k2 : (u = v ∨ (u < 0 ∧ v < 0)) → zOK y b nL ret d mc ms Post cu su pc' lv st t) : zOK y b nL ret d mc ms Post cu su pc lv (vR (rf a s v) :: vR (rf a s u) :: st) t :=
  z_acmp_ne tgt pc' hd ht hp (fun e => k1 (fun q => e ((h.rf_eq hs hu hv).mpr q))) (fun e => k2 (by by_cases q : rf a s u = rf a s v; exact (h.rf_eq hs hu hv).mp q; exact absurd q e))
end CCA
