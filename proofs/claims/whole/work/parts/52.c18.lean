/-! A NEW REEL -/
def RI (t t1 : zT) (q q1 q2 : Nat) : Prop :=
  (q1 ∉ tL t ∧ q2 ∉ tL t ∧ q1 ≠ q2) ∧ (q ∈ tL t1 ∧ q1 ∈ tL t1 ∧ q2 ∈ tL t1) ∧ (∀ b, b ∈ tL t → b ≠ q → samec t t1 b) ∧
  (tK t1 q = 2 ∧ tN t1 q = tN t q ∧ tI t1 q 1 = tI t q 1 ∧ tP t1 q 0 = tP t q 0 ∧ tP t1 q 2 = some q1 ∧ tP t1 q 3 = some q2) ∧
  (tK t1 q1 = 5 ∧ tN t1 q1 = 2000 ∧ ∀ i, tF t1 q1 i = 0) ∧ (tK t1 q2 = 6 ∧ tN t1 q2 = 2000 ∧ ∀ i, tI t1 q2 i = 0)
def rla (a : Nat → Int → Nat) (N : Int) (q q1 q2 : Nat) : Nat → Int → Nat := fun s j => if 11 ≤ s ∧ s ≤ 13 ∧ j = N then (if s = 11 then q else if s = 12 then q1 else q2) else a s j
theorem rf_rla {a : Nat → Int → Nat} {N : Int} {q q1 q2 s : Nat} {v : Int} (h : s < 11) : rf (rla a N q q1 q2) s v = rf a s v := by
  unfold rf rla
  rw [if_neg (show ¬ (11 ≤ s ∧ s ≤ 13 ∧ v = N) from fun e => by omega)]
theorem rf_rlN {a : Nat → Int → Nat} {N : Int} {q q1 q2 : Nat} (h : 0 ≤ N) : rf (rla a N q q1 q2) 11 N = some q := by
  unfold rf
  rw [if_neg (by omega)]
  unfold rla
  rw [if_pos ⟨by decide, by decide, rfl⟩, if_pos rfl]
theorem ctab_l0' : ∀ K, K < 80 → ((cTab K).1 = 0 ∧ 11 ≤ cS K ∧ cS K ≤ 13) → K ∈ [68, 70] := by decide +kernel
theorem ctab_l0 (K : Nat) (h1 : K < 80) (h2 : (cTab K).1 = 0) (h3 : 11 ≤ cS K) (h4 : cS K ≤ 13) : K = 68 ∨ K = 70 := by
  have h := ctab_l0' K h1 ⟨h2, h3, h4⟩
  simp only [List.mem_cons, List.not_mem_nil, or_false] at h
  exact h
theorem ctab_l1 : ∀ K, K < 80 → (cTab K).1 = 1 → 11 ≤ cS K → cS K ≤ 13 → K = 69 := by decide +kernel
theorem ctab_l2 : ∀ K, K < 80 → (cTab K).1 = 2 → 11 ≤ cS K → cS K ≤ 13 → K = 17 := by decide +kernel
theorem CA.reel {m : Nat → Int → Int} {f : Nat → Int → UInt32} {a : Nat → Int → Nat} {t t1 : zT} (h : CA m f a t) {q q1 q2 : Nat} {N : Int} (h64 : m 64 0 = N) (h0 : 0 ≤ N) (h60 : 0 ≤ m 60 0) (hq : q ∉ tL t) (hRI : RI (sA t q 2 0) t1 q q1 q2) (h17 : m 17 N = -1) (h68 : m 68 N = 0) (h70 : ∀ i, m 70 (2000 * N + i) = 0) (h69 : ∀ i, f 69 (2000 * N + i) = 0) : CA (up2 m 64 0 (N + 1)) f (rla a N q q1 q2) t1 := by
  subst h64
  have hn := sA_new (t := t) (q := q) (kd := 2) (n := 0)
  obtain ⟨⟨f1, f2, f3⟩, ⟨l1, l2, l3⟩, hs, ⟨k1, k2, k3, k4, k5, k6⟩, ⟨a1, a2, a3⟩, ⟨b1, b2, b3⟩⟩ := hRI
  have hqn : q ∈ tL (sA t q 2 0) := hn.1
  have q1n : q1 ∉ tL t := fun e => f1 (List.mem_append_left _ e)
  have q2n : q2 ∉ tL t := fun e => f2 (List.mem_append_left _ e)
  have d1 : q ≠ q1 := fun e => f1 (e ▸ hqn)
  have d2 : q ≠ q2 := fun e => f2 (e ▸ hqn)
  have hold : ∀ b, b ∈ tL t → samec t t1 b := fun b hb => by
    have hne : b ≠ q := fun e => hq (e ▸ hb)
    have s1 : samec t (sA t q 2 0) b := sA_old (kd := 2) (n := 0) hb hq
    exact s1.tr (hs b s1.1 hne)
  have e11 : rla a (m 64 0) q q1 q2 11 (m 64 0) = q := (if_pos ⟨by decide, by decide, rfl⟩ : rla a (m 64 0) q q1 q2 11 (m 64 0) = _).trans (if_pos rfl)
  have e12 : rla a (m 64 0) q q1 q2 12 (m 64 0) = q1 := (if_pos ⟨by decide, by decide, rfl⟩ : rla a (m 64 0) q q1 q2 12 (m 64 0) = _).trans rfl
  have e13 : rla a (m 64 0) q q1 q2 13 (m 64 0) = q2 := (if_pos ⟨by decide, by decide, rfl⟩ : rla a (m 64 0) q q1 q2 13 (m 64 0) = _).trans rfl
  have c3 : ∀ s, 11 ≤ s → s ≤ 13 → s = 11 ∨ s = 12 ∨ s = 13 := fun s _ _ => by omega
  have ho : ∀ K, K ≠ 64 → ∀ i, up2 m 64 0 (m 64 0 + 1) K i = m K i := fun K hK i => up2_a _ _ _ _ hK _
  refine CA.add (lo := 11) (hi := 13) (c := 64) (Or.inr (Or.inl ⟨rfl, rfl, rfl⟩)) h h0 (fun s j hs hl => hold _ (h.lv s j hs hl).1) ?_ ?_ (fun j j0 j1 => ?_) (fun e => by cases e) (fun s j hn => ?_) (fun s s0 s1 => ?_) (fun s s' s0 s1 s0' s1' e => ?_) (fun K hK hT j i hi => ?_) (fun K hK hT j i hi => rfl) (fun K hK hT g1 g2 i hi => ?_) (fun K hK hT g1 g2 i hi => ?_) (fun K hK hT g1 g2 i hi => ?_) (fun L hL g1 g2 => ?_)
  · exact up2_s m 64 0 _
  · intro k' hk' hk2
    exact ho k' hk2 0
  · rfl
  · exact if_neg (fun e => hn ⟨e.1, e.2.1, e.2.2⟩)
  · rcases c3 s s0 s1 with rfl | rfl | rfl
    · rw [e11]; exact ⟨l1, k1, k2.trans hn.2.2.1, fun s' j' hs' hl' e => hq (e ▸ (h.lv s' j' hs' hl').1)⟩
    · rw [e12]; exact ⟨l2, a1, a2, fun s' j' hs' hl' e => q1n (e ▸ (h.lv s' j' hs' hl').1)⟩
    · rw [e13]; exact ⟨l3, b1, b2, fun s' j' hs' hl' e => q2n (e ▸ (h.lv s' j' hs' hl').1)⟩
  · rcases c3 s s0 s1 with rfl | rfl | rfl <;> rcases c3 s' s0' s1' with rfl | rfl | rfl
    · rfl
    · rw [e11, e12] at e; exact absurd e d1
    · rw [e11, e13] at e; exact absurd e d2
    · rw [e12, e11] at e; exact absurd e.symm d1
    · rfl
    · rw [e12, e13] at e; exact absurd e f3
    · rw [e13, e11] at e; exact absurd e.symm d2
    · rw [e13, e12] at e; exact absurd e.symm f3
    · rfl
  · exact ho K (fun e => by rw [e] at hT; exact absurd hT (by decide)) _
  · rcases ctab_l0 K hK hT g1 g2 with rfl | rfl
    · have hi0 := hi.2.2.1 rfl
      subst hi0
      show tI t1 (rla a (m 64 0) q q1 q2 11 (m 64 0)) 1 = up2 m 64 0 (m 64 0 + 1) 68 (m 64 0)
      rw [e11, k3, hn.2.2.2.1, ho 68 (by decide), h68]
    · show tI t1 (rla a (m 64 0) q q1 q2 13 (m 64 0)) ((0 : Nat) + i) = up2 m 64 0 (m 64 0 + 1) 70 (2000 * m 64 0 + i)
      rw [e13, b3, ho 70 (by decide), h70]
  · have hK := ctab_l1 K hK hT g1 g2
    subst hK
    show tF t1 (rla a (m 64 0) q q1 q2 12 (m 64 0)) ((0 : Nat) + i) = f 69 (2000 * m 64 0 + i)
    rw [e12, a3, h69]
  · have hK := ctab_l2 K hK hT g1 g2
    subst hK
    have hi0 := hi.2.2.1 rfl
    subst hi0
    show tP t1 (rla a (m 64 0) q q1 q2 11 (m 64 0)) 0 = rf a 6 (up2 m 64 0 (m 64 0 + 1) 17 (m 64 0)) ∧ up2 m 64 0 (m 64 0 + 1) 17 (m 64 0) < m 60 0
    rw [e11, k4, ho 17 (by decide), h17, rf_n (by decide)]
    exact ⟨hn.2.2.2.2.2 0, by omega⟩
  · simp [cLinks] at hL
    rcases hL with rfl | rfl | rfl | rfl | rfl | rfl | rfl | rfl | rfl | rfl | rfl
    all_goals first | (exfalso; revert g1 g2; decide) | skip
    · show tP t1 (rla a (m 64 0) q q1 q2 11 (m 64 0)) 2 = some (rla a (m 64 0) q q1 q2 12 (m 64 0))
      rw [e11, e12]; exact k5
    · show tP t1 (rla a (m 64 0) q q1 q2 11 (m 64 0)) 3 = some (rla a (m 64 0) q q1 q2 13 (m 64 0))
      rw [e11, e13]; exact k6
/-! THE FIRST STATE -/
def zm0 : Nat → Int → Int := fun K j => if K = 17 ∧ 0 ≤ j ∧ j < 6 then -1 else 0
def f0 : Nat → Int → UInt32 := fun _ _ => 0
def im0 : Nat → Int → Int := fun K j => if K = 17 ∧ 0 ≤ j ∧ j < 6 then -1 else if K = 49 ∨ K = 61 ∨ K = 63 ∨ K = 65 then -1 else 0
def ia0 (x q1 q2 q3 q4 q5 : Nat) : Nat → Int → Nat := fun s _ => if s = 0 then x else if s = 1 then q1 else if s = 2 then q2 else if s = 3 then q3 else if s = 4 then q4 else q5
def IT (t : zT) (x q1 q2 q3 q4 q5 : Nat) : zT := sP (sA (sP (sA (sP (sA (sP (sA (sP (sA t q1 9 120) x 0 (some q1)) q2 9 9) x 2 (some q2)) q3 10 6) x 4 (some q3)) q4 8 6) x 5 (some q4)) q5 6 10) x 7 (some q5)
theorem ctab_z' : ∀ K, K < 80 → ((cTab K).1 ≠ 9 ∧ cS K ≤ 5) → K ∈ [0, 15, 18, 23, 24, 61, 49, 65, 63] := by decide +kernel
theorem ctab_z (K : Nat) (h1 : K < 80) (h2 : (cTab K).1 ≠ 9) (h3 : cS K ≤ 5) : K = 0 ∨ K = 15 ∨ K = 18 ∨ K = 23 ∨ K = 24 ∨ K = 61 ∨ K = 49 ∨ K = 65 ∨ K = 63 := by
  have h := ctab_z' K h1 ⟨h2, h3⟩
  simp only [List.mem_cons, List.not_mem_nil, or_false] at h
  exact h
theorem CA.init {t : zT} {x q1 q2 q3 q4 q5 : Nat} (ha : x ∈ tL t) (hk : tK t x = 3) (hn : tN t x = 0) (hz : ∀ i, tI t x i = 0)
    (n1 : q1 ∉ tL t) (n2 : q2 ∉ tL t ++ [q1]) (n3 : q3 ∉ (tL t ++ [q1]) ++ [q2]) (n4 : q4 ∉ ((tL t ++ [q1]) ++ [q2]) ++ [q3]) (n5 : q5 ∉ (((tL t ++ [q1]) ++ [q2]) ++ [q3]) ++ [q4]) : CA im0 f0 (ia0 x q1 q2 q3 q4 q5) (IT t x q1 q2 q3 q4 q5) := by
  simp only [List.mem_append, List.mem_singleton, not_or] at n2 n3 n4 n5
  obtain ⟨n2a, d12⟩ := n2
  obtain ⟨⟨n3a, d13⟩, d23⟩ := n3
  obtain ⟨⟨⟨n4a, d14⟩, d24⟩, d34⟩ := n4
  obtain ⟨⟨⟨⟨n5a, d15⟩, d25⟩, d35⟩, d45⟩ := n5
  have x1 : x ≠ q1 := fun e => n1 (e ▸ ha)
  have x2 : x ≠ q2 := fun e => n2a (e ▸ ha)
  have x3 : x ≠ q3 := fun e => n3a (e ▸ ha)
  have x4 : x ≠ q4 := fun e => n4a (e ▸ ha)
  have x5 : x ≠ q5 := fun e => n5a (e ▸ ha)
  have hL : x ∈ tL (IT t x q1 q2 q3 q4 q5) ∧ q1 ∈ tL (IT t x q1 q2 q3 q4 q5) ∧ q2 ∈ tL (IT t x q1 q2 q3 q4 q5) ∧ q3 ∈ tL (IT t x q1 q2 q3 q4 q5) ∧ q4 ∈ tL (IT t x q1 q2 q3 q4 q5) ∧ q5 ∈ tL (IT t x q1 q2 q3 q4 q5) := by
    show x ∈ (((((tL t ++ [q1]) ++ [q2]) ++ [q3]) ++ [q4]) ++ [q5]) ∧ q1 ∈ (((((tL t ++ [q1]) ++ [q2]) ++ [q3]) ++ [q4]) ++ [q5]) ∧ q2 ∈ (((((tL t ++ [q1]) ++ [q2]) ++ [q3]) ++ [q4]) ++ [q5]) ∧ q3 ∈ (((((tL t ++ [q1]) ++ [q2]) ++ [q3]) ++ [q4]) ++ [q5]) ∧ q4 ∈ (((((tL t ++ [q1]) ++ [q2]) ++ [q3]) ++ [q4]) ++ [q5]) ∧ q5 ∈ (((((tL t ++ [q1]) ++ [q2]) ++ [q3]) ++ [q4]) ++ [q5])
    simp [ha]
  have hK : tK (IT t x q1 q2 q3 q4 q5) x = 3 ∧ tK (IT t x q1 q2 q3 q4 q5) q1 = 9 ∧ tK (IT t x q1 q2 q3 q4 q5) q2 = 9 ∧ tK (IT t x q1 q2 q3 q4 q5) q3 = 10 ∧ tK (IT t x q1 q2 q3 q4 q5) q4 = 8 ∧ tK (IT t x q1 q2 q3 q4 q5) q5 = 6 := by
    simp only [tK] at hk
    simp [IT, tK, sP, sA, up1, x1, x2, x3, x4, x5, d12, d13, d14, d15, d23, d24, d25, d34, d35, d45, Ne.symm d12, Ne.symm d13, Ne.symm d14, Ne.symm d15, Ne.symm d23, Ne.symm d24, Ne.symm d25, Ne.symm d34, Ne.symm d35, Ne.symm d45, hk]
  have hN : tN (IT t x q1 q2 q3 q4 q5) x = 0 ∧ tN (IT t x q1 q2 q3 q4 q5) q1 = 120 ∧ tN (IT t x q1 q2 q3 q4 q5) q2 = 9 ∧ tN (IT t x q1 q2 q3 q4 q5) q3 = 6 ∧ tN (IT t x q1 q2 q3 q4 q5) q4 = 6 ∧ tN (IT t x q1 q2 q3 q4 q5) q5 = 10 := by
    simp only [tN] at hn
    simp [IT, tN, sP, sA, up1, x1, x2, x3, x4, x5, d12, d13, d14, d15, d23, d24, d25, d34, d35, d45, Ne.symm d12, Ne.symm d13, Ne.symm d14, Ne.symm d15, Ne.symm d23, Ne.symm d24, Ne.symm d25, Ne.symm d34, Ne.symm d35, Ne.symm d45, hn]
  have hI : (∀ i, tI (IT t x q1 q2 q3 q4 q5) x i = 0) ∧ ∀ i, tI (IT t x q1 q2 q3 q4 q5) q5 i = 0 := by
    simp only [tI] at hz
    simp [IT, tI, sP, sA, up1, x1, x2, x3, x4, x5, hz]
  have hP : (∀ i, tP (IT t x q1 q2 q3 q4 q5) q1 i = none) ∧ (∀ i, tP (IT t x q1 q2 q3 q4 q5) q2 i = none) ∧ (∀ i, tP (IT t x q1 q2 q3 q4 q5) q3 i = none) ∧ (∀ i, tP (IT t x q1 q2 q3 q4 q5) q4 i = none) := by
    simp [IT, tP, sP, sA, up1, up2, Ne.symm x1, Ne.symm x2, Ne.symm x3, Ne.symm x4, Ne.symm x5, d12, d13, d14, d15, d23, d24, d25, d34, d35, d45, Ne.symm d12, Ne.symm d13, Ne.symm d14, Ne.symm d15, Ne.symm d23, Ne.symm d24, Ne.symm d25, Ne.symm d34, Ne.symm d35, Ne.symm d45]
  have hP0 : tP (IT t x q1 q2 q3 q4 q5) x 0 = some q1 ∧ tP (IT t x q1 q2 q3 q4 q5) x 2 = some q2 ∧ tP (IT t x q1 q2 q3 q4 q5) x 4 = some q3 ∧ tP (IT t x q1 q2 q3 q4 q5) x 5 = some q4 ∧ tP (IT t x q1 q2 q3 q4 q5) x 7 = some q5 := by
    simp [IT, tP, sP, sA, up1, up2, x1, x2, x3, x4, x5]
  generalize IT t x q1 q2 q3 q4 q5 = T at *
  have hlv : ∀ s j, s < 15 → cLive im0 s j → j = 0 ∧ (s = 0 ∨ s = 1 ∨ s = 2 ∨ s = 3 ∨ s = 4 ∨ s = 5) := fun s j hs hl => by
    obtain ⟨h1, h2⟩ := hl
    unfold cN at h2
    by_cases h5 : s ≤ 5
    · rw [if_pos h5] at h2; omega
    · rw [if_neg h5] at h2
      have e0 : im0 60 0 = 0 ∧ im0 64 0 = 0 ∧ im0 62 0 = 0 := ⟨rfl, rfl, rfl⟩
      rw [e0.1, e0.2.1, e0.2.2] at h2
      split at h2 <;> (try split at h2) <;> omega
  have hs5 : ∀ K, K < 80 → (cTab K).1 ≠ 9 → ∀ j i, cIn im0 K j i → j = 0 ∧ (K = 0 ∨ K = 15 ∨ K = 18 ∨ K = 23 ∨ K = 24 ∨ K = 61 ∨ K = 49 ∨ K = 65 ∨ K = 63) := fun K hK hT j i hi => by
    have h := hlv _ j (ctab_s K hK hT) hi.1
    exact ⟨h.1, ctab_z K hK hT (by omega)⟩
  refine ⟨fun s j hs hl => ?_, fun s s' j j' hs hs' hl hl' e => ?_, fun j hl => ?_, fun K hK hT j i hi => ?_, fun K hK hT j i hi => ?_, fun K hK hT j i hi => ?_, fun L hL' j hl => ?_⟩
  · obtain ⟨rfl, h⟩ := hlv s j hs hl
    rcases h with rfl | rfl | rfl | rfl | rfl | rfl
    · exact ⟨hL.1, hK.1, hN.1⟩
    · exact ⟨hL.2.1, hK.2.1, hN.2.1⟩
    · exact ⟨hL.2.2.1, hK.2.2.1, hN.2.2.1⟩
    · exact ⟨hL.2.2.2.1, hK.2.2.2.1, hN.2.2.2.1⟩
    · exact ⟨hL.2.2.2.2.1, hK.2.2.2.2.1, hN.2.2.2.2.1⟩
    · exact ⟨hL.2.2.2.2.2, hK.2.2.2.2.2, hN.2.2.2.2.2⟩
  · obtain ⟨rfl, h⟩ := hlv s j hs hl
    obtain ⟨rfl, h'⟩ := hlv s' j' hs' hl'
    refine ⟨?_, rfl⟩
    rcases h with rfl | rfl | rfl | rfl | rfl | rfl <;> rcases h' with rfl | rfl | rfl | rfl | rfl | rfl <;> first | rfl | (exfalso; simp only [ia0] at e; revert e; simp [x1, x2, x3, x4, x5, d12, d13, d14, d15, d23, d24, d25, d34, d35, d45, Ne.symm x1, Ne.symm x2, Ne.symm x3, Ne.symm x4, Ne.symm x5, Ne.symm d12, Ne.symm d13, Ne.symm d14, Ne.symm d15, Ne.symm d23, Ne.symm d24, Ne.symm d25, Ne.symm d34, Ne.symm d35, Ne.symm d45])
  · have h := hlv 7 j (by decide) hl; omega
  · obtain ⟨rfl, h⟩ := hs5 K hK (by rw [hT]; decide) j i hi
    rcases h with rfl | rfl | rfl | rfl | rfl | rfl | rfl | rfl | rfl
    · exact hI.1 _
    · exact hI.1 _
    · exact hI.1 _
    · exact hI.1 _
    · exact hI.2 _
    all_goals exact absurd hT (by decide)
  · obtain ⟨rfl, h⟩ := hs5 K hK (by rw [hT]; decide) j i hi
    rcases h with rfl | rfl | rfl | rfl | rfl | rfl | rfl | rfl | rfl <;> exact absurd hT (by decide)
  · obtain ⟨rfl, h⟩ := hs5 K hK (by rw [hT]; decide) j i hi
    rcases h with rfl | rfl | rfl | rfl | rfl | rfl | rfl | rfl | rfl
    · exact absurd hT (by decide)
    · exact absurd hT (by decide)
    · exact absurd hT (by decide)
    · exact absurd hT (by decide)
    · exact absurd hT (by decide)
    · exact ⟨hP.1 _, show (-1 : Int) < 0 by decide⟩
    · exact ⟨hP.2.1 _, show (-1 : Int) < 0 by decide⟩
    · exact ⟨hP.2.2.1 _, show (-1 : Int) < 0 by decide⟩
    · exact ⟨hP.2.2.2 _, show (-1 : Int) < 0 by decide⟩
  · have hl2 := hlv _ j (ctab_l L hL').1 hl
    obtain ⟨rfl, h⟩ := hl2
    simp [cLinks] at hL'
    rcases hL' with rfl | rfl | rfl | rfl | rfl | rfl | rfl | rfl | rfl | rfl | rfl
    · exact hP0.1
    · exact hP0.2.1
    · exact hP0.2.2.1
    · exact hP0.2.2.2.1
    · exact hP0.2.2.2.2
    all_goals (exfalso; revert h; decide)
theorem CP.init {m : Nat → Int → Int} {a : Nat → Int → Nat} {t : zT} {x : Nat} (hR : CA m f0 a t) (hx : a 0 0 = x) (h64 : m 64 0 = 6) (hm : ∀ K, K ≠ 64 → K ≠ 65 → m K = im0 K) (h65 : ∀ j : Int, 0 ≤ j → j < 6 → m 65 j = j) : CP x (zm0, f0) t := by
  subst hx
  have e : ∀ K, K ≠ 64 → K ≠ 65 → K ≠ 17 → K ≠ 49 → K ≠ 61 → K ≠ 63 → ∀ j, m K j = 0 := fun K h1 h2 h3 h4 h5 h6 j => by
    rw [hm K h1 h2]; unfold im0
    rw [if_neg (fun q => h3 q.1), if_neg (by omega)]
  have e0 := e 0 (by decide) (by decide) (by decide) (by decide) (by decide) (by decide) 0
  have e18 := e 18 (by decide) (by decide) (by decide) (by decide) (by decide) (by decide) 0
  have e15 := e 15 (by decide) (by decide) (by decide) (by decide) (by decide) (by decide) 0
  refine CP.of hR ⟨⟨?_, ?_, h64⟩, fun i i0 i1 => ?_, fun i i0 i1 => ?_, h65, fun i i0 i1 => ?_, fun p p0 p1 => ?_, fun o o0 o1 => ?_⟩ (eqs_p (fun K hK j => ?_) (fun _ _ _ => rfl))
  · rw [e0]; exact e 60 (by decide) (by decide) (by decide) (by decide) (by decide) (by decide) 0
  · rw [e18]; exact e 62 (by decide) (by decide) (by decide) (by decide) (by decide) (by decide) 0
  · rw [e0, if_neg (by omega), hm 61 (by decide) (by decide)]; rfl
  · rw [e18, if_neg (by omega), hm 63 (by decide) (by decide)]; rfl
  · omega
  · omega
  · omega
  · show m K j = zm0 K j
    rw [hm K (by omega) (by omega)]
    unfold im0 zm0
    by_cases h : K = 17 ∧ 0 ≤ j ∧ j < 6
    · rw [if_pos h, if_pos h]
    · rw [if_neg h, if_neg h, if_neg (by omega)]
set_option maxRecDepth 20000 in
theorem c_Reel_init {t : zT} {q : Nat} (hq : q ∈ tL t) (hk : tK t q = 2) : zM yX2_init cX2_init 1 none 1 2 4000 [vR (some q)] t (fun r0 t1 => r0 = none ∧ ∃ q1 q2, RI t t1 q q1 q2) := by
  refine zM.of2 [(0, vR (some q))] (by decide +kernel) rfl (Nat.le_of_ble_eq_true rfl) ?_
  refine z_aload_n 1 dX2_init_0 rfl rfl ?_
  refine z_objInit 4 ml_X2_3 la_obj1 la_obj2 (by decide) (by decide) dX2_init_1 rfl ?_
  refine z_aload_n 5 dX2_init_4 rfl rfl ?_
  refine z_sipush 8 dX2_init_5 rfl ⟨by decide, by decide⟩ ?_
  refine z_newaF 10 2000 rfl rfl la_arr_float (by decide) (by decide) dX2_init_8 rfl (fun q1 hn1 => ?_)
  have hne1 : q ≠ q1 := fun e => hn1 (by rw [← e]; exact hq)
  have ha1 := List.mem_append_left [q1] hq
  have hk1 := (if_neg hne1 : (if q = q1 then 5 else _) = _).trans hk
  refine z_putPF 13 fl_X2_9 rfl fo_X2_9 ha1 hk1 dX2_init_10 rfl ?_
  refine z_aload_n 14 dX2_init_13 rfl rfl ?_
  refine z_sipush 17 dX2_init_14 rfl ⟨by decide, by decide⟩ ?_
  refine z_newaI 19 2000 rfl rfl la_arr_int (by decide) (by decide) dX2_init_17 rfl (fun q2 hn2 => ?_)
  have hne2 : q ≠ q2 := fun e => hn2 (by rw [← e]; exact ha1)
  have ha2 := List.mem_append_left [q2] ha1
  have hk2 := (if_neg hne2 : (if q = q2 then 6 else _) = _).trans hk1
  refine z_putPF 22 fl_X2_15 rfl fo_X2_15 ha2 hk2 dX2_init_19 rfl ?_
  refine z_return rfl dX2_init_22 (by decide) (by decide) ?_
  have n1 : q1 ∉ tL t := hn1
  have n2 : q2 ∉ tL t ++ [q1] := hn2
  simp only [List.mem_append, List.mem_singleton, not_or] at n2
  obtain ⟨n2a, n2b⟩ := n2
  refine ⟨rfl, q1, q2, ⟨n1, n2a, fun e => n2b e.symm⟩, ⟨ha2, ?_, ?_⟩, fun b hb hbq => ?_, ?_, ?_, ?_⟩
  · exact List.mem_append_left _ (List.mem_append_right _ List.mem_cons_self)
  · exact List.mem_append_right _ List.mem_cons_self
  · have b1 : b ≠ q1 := fun e => n1 (e ▸ hb)
    have b2 : b ≠ q2 := fun e => n2a (e ▸ hb)
    refine ⟨List.mem_append_left _ (List.mem_append_left _ hb), ?_, ?_, fun i => ?_, fun i => ?_, fun i => ?_⟩ <;> simp [tK, tN, tI, tF, tP, sI, sP, sA, up1, up2, b1, b2, hbq]
  · simp [tK, tN, tI, tF, tP, sI, sP, sA, up1, up2, hne1, hne2] at hk ⊢
    exact hk
  · simp [tK, tN, tF, sI, sP, sA, up1, up2, Ne.symm hne1, Ne.symm n2b, n2b]
  · simp [tK, tN, tI, sI, sP, sA, up1, up2, Ne.symm hne2]
set_option maxRecDepth 20000 in
theorem c_init {t : zT} {x : Nat} (hq : x ∈ tL t) (hk : tK t x = 3) (hn : tN t x = 0) (hz : ∀ i, tI t x i = 0) : zM yX3_init cX3_init 2 none 2 23 24175 [vR (some x)] t (fun r t1 => r = none ∧ CP x (zm0, f0) t1) := by
  refine zM.of2 [(0, vR (some x))] (by decide +kernel) rfl (Nat.le_of_ble_eq_true rfl) ?_
  have L50 : ∀ (fuel : Nat) (k : Nat) (m : Nat → Int → Int) (f : Nat → Int → UInt32) (a : Nat → Int → Nat) (t : zT) (hR : CA m f a t) (hk6 : k ≤ 6) (h64 : m 64 0 = (k : Int)) (hx : a 0 0 = x) (hm : ∀ K, K ≠ 64 → K ≠ 65 → m K = im0 K) (h65 : ∀ j : Int, 0 ≤ j → j < k → m 65 j = j) (hf0 : f = f0) (hf : 6 - (k : Int) < (fuel : Int)), zOK yX3_init cX3_init 2 none 2 23 24175 (fun r t1 => r = none ∧ CP x (zm0, f0) t1) (5 + 3 * k) (151 + 4004 * k) 50 [(1, vI (k : Int)), (0, vR (rf a 0 0))] [] t := by
    intro fuel
    induction fuel with
    | zero => intro k m f a t hR hk6 h64 hx hm h65 hf0 hf; exfalso; omega
    | succ fuel ih50 =>
      intro k m f a t hR hk6 h64 hx hm h65 hf0 hf
      refine z_iload_n 51 dX3_init_50 rfl rfl ?_
      refine z_bipush 53 dX3_init_51 rfl ⟨by decide, by decide⟩ ?_
      refine z_icmp_ge 75 56 dX3_init_53 (by decide) rfl ⟨by omega, by omega⟩ ⟨by omega, by omega⟩ (fun h53 => ?_) (fun h53 => ?_)
      · refine z_return rfl dX3_init_75 (by omega) (by omega) ?_
        have hk : k = 6 := by omega
        subst hk
        subst hf0
        exact ⟨rfl, CP.init hR hx h64 hm h65⟩
      · refine z_aload_n 57 dX3_init_56 rfl rfl ?_
        refine c_getL 60 3 hR fl_X3_20 (by decide) (show cLive m 0 0 from l0) dX3_init_57 rfl ?_
        refine z_iload_n 61 dX3_init_60 rfl rfl ?_
        have hR0 := hR
        refine z_new 64 nw_X3_18 (by omega) (by omega) dX3_init_61 rfl (fun q61 hq61 => ?_)
        refine z_dup 65 dX3_init_64 rfl rfl ?_
        have hqn := sA_new (t := t) (q := q61) (kd := 2) (n := 0)
        refine z_callI 68 [] la_X2_init mn_X3_34 im_X2_init rfl (c_Reel_init hqn.1 hqn.2.1) rfl rfl (by decide) (Nat.le_of_ble_eq_true rfl) (by omega) (by omega) dX3_init_65 rfl (fun r0 t1 hq => ?_)
        obtain ⟨rfl, q1, q2, hRI⟩ := hq
        replace hR := hR0.reel h64 (by omega) (by rw [hm 60 (by decide) (by decide)]; decide) hq61 hRI (by rw [hm 17 (by decide) (by decide)]; exact if_pos ⟨rfl, by omega, by omega⟩) (by rw [hm 68 (by decide) (by decide)]; rfl) (fun i => by rw [hm 70 (by decide) (by decide)]; rfl) (fun i => by rw [hf0]; rfl)
        rw [← rf_rla (a := a) (N := (k : Int)) (q := q61) (q1 := q1) (q2 := q2) (s := 0) (v := 0) (by decide)]
        rw [← rf_rla (a := a) (N := (k : Int)) (q := q61) (q1 := q1) (q2 := q2) (s := 3) (v := 0) (by decide)]
        rw [show vR (some q61) = vR (rf (rla a (k : Int) q61 q1 q2) 11 (k : Int)) by rw [rf_rlN (by omega)]]
        have hlN : cLive (up2 m 64 0 ((k : Int) + 1)) 11 (k : Int) := ⟨by omega, by show (k : Int) < up2 m 64 0 ((k : Int) + 1) 64 0; rw [up2_s]; omega⟩
        refine c_aast 69 65 hR (c := 1) 6 (by decide) (show _ = (k : Int) from rfl) (show cLive m 3 0 from l3) hlN rfl (by decide) ⟨by omega, by omega⟩ dX3_init_68 rfl (fun t hR => ?_)
        refine z_iinc (lv' := [(1, _), (0, _)]) 72 dX3_init_69 rfl rfl rfl rfl ?_
        refine z_goto 50 dX3_init_72 (by decide) ?_
        rw [show 5 + 3 * k + 1 + 2 = 5 + 3 * (k + 1) by omega, show 151 + 4004 * k + 4 + 4000 = 151 + 4004 * (k + 1) by omega]
        refine z_sub (lv' := [(1, _), (0, _)]) ⟨rfl, rfl, trivial⟩ ?_
        exact ih50 (k + 1) _ _ _ _ hR (by omega) ((up2_a _ _ _ _ (by decide) _).trans (up2_s _ 64 0 ((k : Int) + 1))) ((if_neg (by omega) : rla a (k : Int) q61 q1 q2 0 0 = _).trans hx) (fun K h1 h2 => by funext j; rw [up2_a _ _ _ _ h2, up2_a _ _ _ _ h1, hm K h1 h2]) (fun j j0 j1 => by rw [up_ite]; split; (next e => exact e.symm); (next e => rw [up2_a _ _ _ _ (by decide)]; exact h65 j j0 (by omega))) (hf0) (by omega)
  refine z_aload_n 1 dX3_init_0 rfl rfl ?_
  refine z_objInit 4 ml_X3_1 la_obj1 la_obj2 (by decide) (by decide) dX3_init_1 rfl ?_
  refine z_aload_n 5 dX3_init_4 rfl rfl ?_
  refine z_bipush 7 dX3_init_5 rfl ⟨by decide, by decide⟩ ?_
  refine z_anew (ci := 1) 10 120 rfl (by decide) (by decide) rfl cl_X3_9 (by decide) (by decide) dX3_init_7 rfl (fun q1 hn1 => ?_)
  have hne1 : x ≠ q1 := fun e => hn1 (by rw [← e]; exact hq)
  have ha1 := List.mem_append_left [q1] hq
  have hk1 := (if_neg hne1 : (if x = q1 then 9 else _) = _).trans hk
  refine z_putPF 13 fl_X3_11 rfl fo_X3_11 ha1 hk1 dX3_init_10 rfl ?_
  refine z_aload_n 14 dX3_init_13 rfl rfl ?_
  refine z_bipush 16 dX3_init_14 rfl ⟨by decide, by decide⟩ ?_
  refine z_anew (ci := 1) 19 9 rfl (by decide) (by decide) rfl cl_X3_9 (by decide) (by decide) dX3_init_16 rfl (fun q2 hn2 => ?_)
  have hne2 : x ≠ q2 := fun e => hn2 (by rw [← e]; exact ha1)
  have ha2 := List.mem_append_left [q2] ha1
  have hk2 := (if_neg hne2 : (if x = q2 then 9 else _) = _).trans hk1
  refine z_putPF 22 fl_X3_15 rfl fo_X3_15 ha2 hk2 dX3_init_19 rfl ?_
  refine z_aload_n 23 dX3_init_22 rfl rfl ?_
  refine z_bipush 25 dX3_init_23 rfl ⟨by decide, by decide⟩ ?_
  refine z_anew (ci := 2) 28 6 rfl (by decide) (by decide) rfl cl_X3_18 (by decide) (by decide) dX3_init_25 rfl (fun q3 hn3 => ?_)
  have hne3 : x ≠ q3 := fun e => hn3 (by rw [← e]; exact ha2)
  have ha3 := List.mem_append_left [q3] ha2
  have hk3 := (if_neg hne3 : (if x = q3 then 10 else _) = _).trans hk2
  refine z_putPF 31 fl_X3_20 rfl fo_X3_20 ha3 hk3 dX3_init_28 rfl ?_
  refine z_aload_n 32 dX3_init_31 rfl rfl ?_
  refine z_bipush 34 dX3_init_32 rfl ⟨by decide, by decide⟩ ?_
  refine z_anew (ci := 0) 37 6 rfl (by decide) (by decide) rfl cl_X3_24 (by decide) (by decide) dX3_init_34 rfl (fun q4 hn4 => ?_)
  have hne4 : x ≠ q4 := fun e => hn4 (by rw [← e]; exact ha3)
  have ha4 := List.mem_append_left [q4] ha3
  have hk4 := (if_neg hne4 : (if x = q4 then 8 else _) = _).trans hk3
  refine z_putPF 40 fl_X3_26 rfl fo_X3_26 ha4 hk4 dX3_init_37 rfl ?_
  refine z_aload_n 41 dX3_init_40 rfl rfl ?_
  refine z_bipush 43 dX3_init_41 rfl ⟨by decide, by decide⟩ ?_
  refine z_newaI 45 10 rfl rfl la_arr_int (by decide) (by decide) dX3_init_43 rfl (fun q5 hn5 => ?_)
  have hne5 : x ≠ q5 := fun e => hn5 (by rw [← e]; exact ha4)
  have ha5 := List.mem_append_left [q5] ha4
  have hk5 := (if_neg hne5 : (if x = q5 then 6 else _) = _).trans hk4
  refine z_putPF 48 fl_X3_30 rfl fo_X3_30 ha5 hk5 dX3_init_45 rfl ?_
  refine z_iconst 49 dX3_init_48 rfl ?_
  refine z_istore_n (lv' := [(1, _), (0, _)]) 50 dX3_init_49 rfl rfl rfl ?_
  have hR := CA.init hq hk hn hz hn1 hn2 hn3 hn4 hn5
  refine z_sub (lv' := [(1, _), (0, _)]) ⟨rfl, rfl, trivial⟩ ?_
  exact L50 7 0 im0 f0 (ia0 x q1 q2 q3 q4 q5) _ hR (by decide) rfl rfl (fun _ _ _ => rfl) (fun j j0 j1 => by omega) rfl (by decide)
