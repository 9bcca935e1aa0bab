/-! MAKING THINGS -/
/-- cell b is in t1 as it was in t -/
def samec (t t1 : zT) (b : Nat) : Prop := b ∈ tL t1 ∧ tK t1 b = tK t b ∧ tN t1 b = tN t b ∧ (∀ i, tI t1 b i = tI t b i) ∧ (∀ i, tF t1 b i = tF t b i) ∧ ∀ i, tP t1 b i = tP t b i
theorem samec.tr {t t1 t2 : zT} {b : Nat} (h : samec t t1 b) (h' : samec t1 t2 b) : samec t t2 b :=
  ⟨h'.1, h'.2.1.trans h.2.1, h'.2.2.1.trans h.2.2.1, fun i => (h'.2.2.2.1 i).trans (h.2.2.2.1 i), fun i => (h'.2.2.2.2.1 i).trans (h.2.2.2.2.1 i), fun i => (h'.2.2.2.2.2 i).trans (h.2.2.2.2.2 i)⟩
theorem samec.rf {t : zT} {b : Nat} (h : b ∈ tL t) : samec t t b := ⟨h, rfl, rfl, fun _ => rfl, fun _ => rfl, fun _ => rfl⟩
section AD
variable {m m' : Nat → Int → Int} {f f' : Nat → Int → UInt32} {a a' : Nat → Int → Nat} {t t1 : zT}
theorem CA.ext (h : CA m f a t) (hs : ∀ s j, s < 15 → cLive m s j → samec t t1 (a s j)) : CA m f a t1 := by
  refine ⟨fun s j hs' hl => ?_, h.inj, h.n9, fun K hK hT j i hi => ?_, fun K hK hT j i hi => ?_, fun K hK hT j i hi => ?_, fun L hL j hl => ?_⟩
  · obtain ⟨g1, g2, g3⟩ := h.lv s j hs' hl
    obtain ⟨e1, e2, e3, -⟩ := hs s j hs' hl
    exact ⟨e1, e2.trans g2, e3.trans g3⟩
  · rw [(hs _ j (ctab_s K hK (by rw [hT]; decide)) hi.1).2.2.2.1]; exact h.ints K hK hT j i hi
  · rw [(hs _ j (ctab_s K hK (by rw [hT]; decide)) hi.1).2.2.2.2.1]; exact h.flts K hK hT j i hi
  · rw [(hs _ j (ctab_s K hK (by rw [hT]; decide)) hi.1).2.2.2.2.2]; exact h.refs K hK hT j i hi
  · rw [(hs _ j (ctab_l L hL).1 hl).2.2.2.2.2]; exact h.lnk L hL j hl
/-- groups of sorts: the first, the last, the slot that counts them -/
def cGrp (lo hi c : Nat) : Prop := (lo = 6 ∧ hi = 10 ∧ c = 60) ∨ (lo = 11 ∧ hi = 13 ∧ c = 64) ∨ (lo = 14 ∧ hi = 14 ∧ c = 62)
theorem cGrp.n {lo hi c : Nat} (h : cGrp lo hi c) {s : Nat} (hs : s < 15) : cN m s = if lo ≤ s ∧ s ≤ hi then m c 0 else if s ≤ 5 then 1 else if s ≤ 10 then m 60 0 else if s ≤ 13 then m 64 0 else m 62 0 := by
  unfold cN
  rcases h with ⟨rfl, rfl, rfl⟩ | ⟨rfl, rfl, rfl⟩ | ⟨rfl, rfl, rfl⟩ <;> (repeat' split) <;> first | rfl | omega
theorem clink_g {lo hi c : Nat} (hG : cGrp lo hi c) : ∀ L, L ∈ cLinks → ((lo ≤ L.1 ∧ L.1 ≤ hi) ↔ (lo ≤ L.2.2 ∧ L.2.2 ≤ hi)) := by
  intro L hL
  simp [cLinks] at hL
  rcases hG with ⟨rfl, rfl, rfl⟩ | ⟨rfl, rfl, rfl⟩ | ⟨rfl, rfl, rfl⟩ <;> rcases hL with rfl | rfl | rfl | rfl | rfl | rfl | rfl | rfl | rfl | rfl | rfl <;> decide
theorem CA.add {lo hi c : Nat} (hG : cGrp lo hi c) (h : CA m f a t) (h0 : 0 ≤ m c 0)
    (hold : ∀ s j, s < 15 → cLive m s j → samec t t1 (a s j))
    (hc : m' c 0 = m c 0 + 1) (hc2 : ∀ k, k = 60 ∨ k = 62 ∨ k = 64 → k ≠ c → m' k 0 = m k 0)
    (h6 : ∀ j, 0 ≤ j → j < m 60 0 → m' 6 j = m 6 j) (h69 : c = 60 → 0 ≤ m' 6 (m 60 0) ∧ m' 6 (m 60 0) ≤ 9)
    (ha : ∀ s j, ¬ (lo ≤ s ∧ s ≤ hi ∧ j = m c 0) → a' s j = a s j)
    (hnew : ∀ s, lo ≤ s → s ≤ hi → a' s (m c 0) ∈ tL t1 ∧ tK t1 (a' s (m c 0)) = cKd s ∧ tN t1 (a' s (m c 0)) = cLn m' s (m c 0) ∧ ∀ s' j', s' < 15 → cLive m s' j' → a s' j' ≠ a' s (m c 0))
    (hdis : ∀ s s', lo ≤ s → s ≤ hi → lo ≤ s' → s' ≤ hi → a' s (m c 0) = a' s' (m c 0) → s = s')
    (hm : ∀ K, K < 80 → (cTab K).1 = 0 ∨ (cTab K).1 = 2 → ∀ j i, cIn m K j i → m' K (cix (cC K) j i) = m K (cix (cC K) j i))
    (hf : ∀ K, K < 80 → (cTab K).1 = 1 → ∀ j i, cIn m K j i → f' K (cix (cC K) j i) = f K (cix (cC K) j i))
    (hI : ∀ K, K < 80 → (cTab K).1 = 0 → lo ≤ cS K → cS K ≤ hi → ∀ i, cIn m' K (m c 0) i → tI t1 (a' (cS K) (m c 0)) ((cO K : Int) + i) = m' K (cix (cC K) (m c 0) i))
    (hF : ∀ K, K < 80 → (cTab K).1 = 1 → lo ≤ cS K → cS K ≤ hi → ∀ i, cIn m' K (m c 0) i → tF t1 (a' (cS K) (m c 0)) ((cO K : Int) + i) = f' K (cix (cC K) (m c 0) i))
    (hP : ∀ K, K < 80 → (cTab K).1 = 2 → lo ≤ cS K → cS K ≤ hi → ∀ i, cIn m' K (m c 0) i → tP t1 (a' (cS K) (m c 0)) ((cO K : Int) + i) = rf a (cG K) (m' K (cix (cC K) (m c 0) i)) ∧ m' K (cix (cC K) (m c 0) i) < cN m (cG K))
    (hL : ∀ L, L ∈ cLinks → lo ≤ L.1 → L.1 ≤ hi → tP t1 (a' L.1 (m c 0)) (L.2.1 : Int) = some (a' L.2.2 (m c 0))) : CA m' f' a' t1 := by
  have hhi : hi < 15 := by rcases hG with ⟨-, q, -⟩ | ⟨-, q, -⟩ | ⟨-, q, -⟩ <;> omega
  have e60 : m' 60 0 = if c = 60 then m 60 0 + 1 else m 60 0 := by
    by_cases q : c = 60
    · subst q; rw [if_pos rfl]; exact hc
    · rw [if_neg q]; exact hc2 60 (by decide) (fun e => q e.symm)
  have e62 : m' 62 0 = if c = 62 then m 62 0 + 1 else m 62 0 := by
    by_cases q : c = 62
    · subst q; rw [if_pos rfl]; exact hc
    · rw [if_neg q]; exact hc2 62 (by decide) (fun e => q e.symm)
  have e64 : m' 64 0 = if c = 64 then m 64 0 + 1 else m 64 0 := by
    by_cases q : c = 64
    · subst q; rw [if_pos rfl]; exact hc
    · rw [if_neg q]; exact hc2 64 (by decide) (fun e => q e.symm)
  have hN : ∀ s, s < 15 → cN m' s = if lo ≤ s ∧ s ≤ hi then m c 0 + 1 else cN m s := fun s hs => by
    rw [hG.n (m := m') hs, hG.n (m := m) hs, hc]
    by_cases q : lo ≤ s ∧ s ≤ hi
    · rw [if_pos q, if_pos q]
    · rw [if_neg q, if_neg q, if_neg q]
      rw [e60, e62, e64]
      rcases hG with ⟨rfl, rfl, rfl⟩ | ⟨rfl, rfl, rfl⟩ | ⟨rfl, rfl, rfl⟩
      · simp only [if_true, show ¬ (60 : Nat) = 62 by decide, show ¬ (60 : Nat) = 64 by decide, if_false]
        by_cases h1 : s ≤ 5
        · rw [if_pos h1, if_pos h1]
        · rw [if_neg h1, if_neg h1, if_neg (show ¬ s ≤ 10 by omega), if_neg (show ¬ s ≤ 10 by omega)]
      · simp only [if_true, show ¬ (64 : Nat) = 62 by decide, show ¬ (64 : Nat) = 60 by decide, if_false]
        by_cases h1 : s ≤ 5
        · rw [if_pos h1, if_pos h1]
        · rw [if_neg h1, if_neg h1]
          by_cases h2 : s ≤ 10
          · rw [if_pos h2, if_pos h2]
          · rw [if_neg h2, if_neg h2, if_neg (show ¬ s ≤ 13 by omega), if_neg (show ¬ s ≤ 13 by omega)]
      · simp only [if_true, show ¬ (62 : Nat) = 64 by decide, show ¬ (62 : Nat) = 60 by decide, if_false]
        by_cases h1 : s ≤ 5
        · rw [if_pos h1, if_pos h1]
        · rw [if_neg h1, if_neg h1]
          by_cases h2 : s ≤ 10
          · rw [if_pos h2, if_pos h2]
          · rw [if_neg h2, if_neg h2, if_pos (show s ≤ 13 by omega), if_pos (show s ≤ 13 by omega)]
  have hNg : ∀ s, s < 15 → lo ≤ s ∧ s ≤ hi → cN m s = m c 0 := fun s hs q => by rw [hG.n (m := m) hs, if_pos q]
  have hcase : ∀ s j, s < 15 → cLive m' s j → cLive m s j ∨ (lo ≤ s ∧ s ≤ hi ∧ j = m c 0) := fun s j hs hl => by
    unfold cLive at hl ⊢
    rw [hN s hs] at hl
    by_cases q : lo ≤ s ∧ s ≤ hi
    · rw [if_pos q] at hl
      rw [hNg s hs q]
      by_cases e : j = m c 0
      · exact Or.inr ⟨q.1, q.2, e⟩
      · exact Or.inl (by omega)
    · rw [if_neg q] at hl; exact Or.inl hl
  have hnl : ∀ s j, s < 15 → cLive m s j → ¬ (lo ≤ s ∧ s ≤ hi ∧ j = m c 0) := fun s j hs hl q => by
    unfold cLive at hl
    rw [hNg s hs ⟨q.1, q.2.1⟩] at hl
    omega
  have hLn : ∀ s j, s < 15 → cLive m s j → cLn m' s j = cLn m s j := fun s j hs hl => by
    by_cases e : s = 7
    · subst e
      show (m' 6 j).toNat = (m 6 j).toNat
      rw [h6 j hl.1 hl.2]
    · unfold cLn; split <;> first | rfl | omega
  have hIn : ∀ K j i, K < 80 → (cTab K).1 ≠ 9 → cIn m' K j i → cIn m K j i ∨ (lo ≤ cS K ∧ cS K ≤ hi ∧ j = m c 0) := fun K j i hK hT hi => by
    rcases hcase _ j (ctab_s K hK hT) hi.1 with q | q
    · exact Or.inl ⟨q, hi.2.1, hi.2.2.1, fun z => by rw [← hLn _ j (ctab_s K hK hT) q]; exact hi.2.2.2 z⟩
    · exact Or.inr q
  have hrf : ∀ g v, g < 15 → v < cN m g → rf a' g v = rf a g v := fun g v hg hv => by
    unfold rf
    by_cases z : v < 0
    · rw [if_pos z, if_pos z]
    · rw [if_neg z, if_neg z, ha g v (fun q => by rw [hNg g hg ⟨q.1, q.2.1⟩] at hv; omega)]
  have hcg : ∀ K, cG K < 15 := fun K => by unfold cG; split <;> (try split) <;> omega
  have hNle : ∀ g, g < 15 → cN m g ≤ cN m' g := fun g hg => by
    rw [hN g hg]
    by_cases q : lo ≤ g ∧ g ≤ hi
    · rw [if_pos q, hNg g hg q]; omega
    · rw [if_neg q]; exact Int.le_refl _
  refine ⟨fun s j hs hl => ?_, fun s s' j1 j2 hs hs' hl hl' e => ?_, fun j hl => ?_, fun K hK hT j i hi => ?_, fun K hK hT j i hi => ?_, fun K hK hT j i hi => ?_, fun L hL' j hl => ?_⟩
  · rcases hcase s j hs hl with q | ⟨q1, q2, rfl⟩
    · rw [ha s j (hnl s j hs q), hLn s j hs q]
      obtain ⟨g1, g2, g3⟩ := h.lv s j hs q
      obtain ⟨e1, e2, e3, -⟩ := hold s j hs q
      exact ⟨e1, e2.trans g2, e3.trans g3⟩
    · obtain ⟨g1, g2, g3, -⟩ := hnew s q1 q2
      exact ⟨g1, g2, g3⟩
  · rcases hcase s j1 hs hl with q | ⟨q1, q2, rfl⟩
    · rcases hcase s' j2 hs' hl' with q' | ⟨q1', q2', rfl⟩
      · rw [ha s j1 (hnl s j1 hs q), ha s' j2 (hnl s' j2 hs' q')] at e
        exact h.inj s s' j1 j2 hs hs' q q' e
      · rw [ha s j1 (hnl s j1 hs q)] at e
        exact absurd e ((hnew s' q1' q2').2.2.2 s j1 hs q)
    · rcases hcase s' j2 hs' hl' with q' | ⟨q1', q2', rfl⟩
      · rw [ha s' j2 (hnl s' j2 hs' q')] at e
        exact absurd e.symm ((hnew s q1 q2).2.2.2 s' j2 hs' q')
      · exact ⟨hdis s s' q1 q2 q1' q2' e, rfl⟩
  · rcases hcase 7 j (by decide) hl with q | ⟨q1, q2, rfl⟩
    · rw [h6 j q.1 q.2]; exact h.n9 j q
    · have hc60 : c = 60 := by rcases hG with ⟨-, -, z⟩ | ⟨z, -, -⟩ | ⟨z, -, -⟩ <;> omega
      subst hc60
      exact h69 rfl
  · have hT9 : (cTab K).1 ≠ 9 := by rw [hT]; decide
    rcases hIn K j i hK hT9 hi with q | ⟨q1, q2, rfl⟩
    · rw [ha _ j (hnl _ j (ctab_s K hK hT9) q.1), (hold _ j (ctab_s K hK hT9) q.1).2.2.2.1, hm K hK (Or.inl hT) j i q]
      exact h.ints K hK hT j i q
    · exact hI K hK hT q1 q2 i hi
  · have hT9 : (cTab K).1 ≠ 9 := by rw [hT]; decide
    rcases hIn K j i hK hT9 hi with q | ⟨q1, q2, rfl⟩
    · rw [ha _ j (hnl _ j (ctab_s K hK hT9) q.1), (hold _ j (ctab_s K hK hT9) q.1).2.2.2.2.1, hf K hK hT j i q]
      exact h.flts K hK hT j i q
    · exact hF K hK hT q1 q2 i hi
  · have hT9 : (cTab K).1 ≠ 9 := by rw [hT]; decide
    rcases hIn K j i hK hT9 hi with q | ⟨q1, q2, rfl⟩
    · obtain ⟨r1, r2⟩ := h.refs K hK hT j i q
      rw [ha _ j (hnl _ j (ctab_s K hK hT9) q.1), (hold _ j (ctab_s K hK hT9) q.1).2.2.2.2.2, hm K hK (Or.inr hT) j i q, hrf _ _ (hcg K) r2]
      exact ⟨r1, Int.lt_of_lt_of_le r2 (hNle _ (hcg K))⟩
    · obtain ⟨r1, r2⟩ := hP K hK hT q1 q2 i hi
      rw [hrf _ _ (hcg K) r2]
      exact ⟨r1, Int.lt_of_lt_of_le r2 (hNle _ (hcg K))⟩
  · obtain ⟨l1, l2, -⟩ := ctab_l L hL'
    rcases hcase L.1 j l1 hl with q | ⟨q1, q2, rfl⟩
    · have q' : cLive m L.2.2 j := by unfold cLive at q ⊢; rw [← clink_n L hL' m]; exact q
      rw [ha _ j (hnl _ j l1 q), (hold _ j l1 q).2.2.2.2.2, ha _ j (hnl _ j l2 q')]
      exact h.lnk L hL' j q
    · exact hL L hL' q1 q2
end AD
/-! the constructors -/
/-- a new piece's cells, as its constructor leaves them -/
def PI (t t1 : zT) (q q1 q2 q3 : Nat) (n k l w : Int) (r : Option Nat) : Prop :=
  (q1 ∉ tL t ∧ q2 ∉ tL t ∧ q3 ∉ tL t ∧ q1 ≠ q2 ∧ q1 ≠ q3 ∧ q2 ≠ q3) ∧ (q ∈ tL t1 ∧ q1 ∈ tL t1 ∧ q2 ∈ tL t1 ∧ q3 ∈ tL t1) ∧ (∀ b, b ∈ tL t → b ≠ q → samec t t1 b) ∧
  (tK t1 q = 1 ∧ tN t1 q = tN t q ∧ tI t1 q 0 = n ∧ tI t1 q 1 = k ∧ tI t1 q 2 = l ∧ tI t1 q 3 = w ∧ tI t1 q 6 = tI t q 6 ∧ tI t1 q 7 = tI t q 7 ∧ tI t1 q 8 = 0 ∧ tI t1 q 9 = -1 ∧ tI t1 q 10 = -1 ∧ tF t1 q 5 = tF t q 5 ∧ tP t1 q 4 = r ∧ tP t1 q 11 = some q1 ∧ tP t1 q 12 = some q2 ∧ tP t1 q 13 = some q3) ∧
  ∀ b, b = q1 ∨ b = q2 ∨ b = q3 → tK t1 b = 6 ∧ tN t1 b = 8 ∧ ∀ i, tI t1 b i = 0
set_option maxRecDepth 20000 in
theorem c_Piece_init {t : zT} {q : Nat} {n k l w : Int} {r : Option Nat} (hq : q ∈ tL t) (hk : tK t q = 1) : zM yX1_init cX1_init 6 none 1 3 24 [vR (some q), vI n, vI k, vI l, vI w, vR r] t (fun r0 t1 => r0 = none ∧ ∃ q1 q2 q3, PI t t1 q q1 q2 q3 n k l w r) := by
  refine zM.of2 [(0, vR (some q)), (1, vI n), (2, vI k), (3, vI l), (4, vI w), (5, vR r)] (by decide +kernel) rfl (Nat.le_of_ble_eq_true rfl) ?_
  refine z_aload_n 1 dX1_init_0 rfl rfl ?_
  refine z_objInit 4 ml_X1_3 la_obj1 la_obj2 (by decide) (by decide) dX1_init_1 rfl ?_
  refine z_aload_n 5 dX1_init_4 rfl rfl ?_
  refine z_iconst 6 dX1_init_5 rfl ?_
  refine z_putI 9 fl_X1_9 hq hk dX1_init_6 rfl ?_
  refine z_aload_n 10 dX1_init_9 rfl rfl ?_
  refine z_iconst 11 dX1_init_10 rfl ?_
  refine z_putI 14 fl_X1_15 hq hk dX1_init_11 rfl ?_
  refine z_aload_n 15 dX1_init_14 rfl rfl ?_
  refine z_iconst 16 dX1_init_15 rfl ?_
  refine z_putI 19 fl_X1_18 hq hk dX1_init_16 rfl ?_
  refine z_aload_n 20 dX1_init_19 rfl rfl ?_
  refine z_bipush 22 dX1_init_20 rfl ⟨by decide, by decide⟩ ?_
  refine z_newaI 24 8 rfl rfl la_arr_int (by decide) (by decide) dX1_init_22 rfl (fun q1 hn1 => ?_)
  have hne1 : q ≠ q1 := fun e => hn1 (by rw [← e]; exact hq)
  have ha1 := List.mem_append_left [q1] hq
  have hk1 := (if_neg hne1 : (if q = q1 then 6 else _) = _).trans hk
  refine z_putPF 27 fl_X1_21 rfl fo_X1_21 ha1 hk1 dX1_init_24 rfl ?_
  refine z_aload_n 28 dX1_init_27 rfl rfl ?_
  refine z_bipush 30 dX1_init_28 rfl ⟨by decide, by decide⟩ ?_
  refine z_newaI 32 8 rfl rfl la_arr_int (by decide) (by decide) dX1_init_30 rfl (fun q2 hn2 => ?_)
  have hne2 : q ≠ q2 := fun e => hn2 (by rw [← e]; exact ha1)
  have ha2 := List.mem_append_left [q2] ha1
  have hk2 := (if_neg hne2 : (if q = q2 then 6 else _) = _).trans hk1
  refine z_putPF 35 fl_X1_25 rfl fo_X1_25 ha2 hk2 dX1_init_32 rfl ?_
  refine z_aload_n 36 dX1_init_35 rfl rfl ?_
  refine z_bipush 38 dX1_init_36 rfl ⟨by decide, by decide⟩ ?_
  refine z_newaI 40 8 rfl rfl la_arr_int (by decide) (by decide) dX1_init_38 rfl (fun q3 hn3 => ?_)
  have hne3 : q ≠ q3 := fun e => hn3 (by rw [← e]; exact ha2)
  have ha3 := List.mem_append_left [q3] ha2
  have hk3 := (if_neg hne3 : (if q = q3 then 6 else _) = _).trans hk2
  refine z_putPF 43 fl_X1_28 rfl fo_X1_28 ha3 hk3 dX1_init_40 rfl ?_
  refine z_aload_n 44 dX1_init_43 rfl rfl ?_
  refine z_iload_n 45 dX1_init_44 rfl rfl ?_
  refine z_putIF 48 fl_X1_31 rfl fo_X1_31 ha3 hk3 dX1_init_45 rfl ?_
  refine z_aload_n 49 dX1_init_48 rfl rfl ?_
  refine z_iload_n 50 dX1_init_49 rfl rfl ?_
  refine z_putIF 53 fl_X1_34 rfl fo_X1_34 ha3 hk3 dX1_init_50 rfl ?_
  refine z_aload_n 54 dX1_init_53 rfl rfl ?_
  refine z_iload_n 55 dX1_init_54 rfl rfl ?_
  refine z_putIF 58 fl_X1_37 rfl fo_X1_37 ha3 hk3 dX1_init_55 rfl ?_
  refine z_aload_n 59 dX1_init_58 rfl rfl ?_
  refine z_iload 61 dX1_init_59 rfl rfl ?_
  refine z_putIF 64 fl_X1_40 rfl fo_X1_40 ha3 hk3 dX1_init_61 rfl ?_
  refine z_aload_n 65 dX1_init_64 rfl rfl ?_
  refine z_aload 67 dX1_init_65 rfl rfl ?_
  refine z_putPF 70 fl_X1_43 rfl fo_X1_43 ha3 hk3 dX1_init_67 rfl ?_
  refine z_return rfl dX1_init_70 (by decide) (by decide) ?_
  have n1 : q1 ∉ tL t := hn1
  have n2 : q2 ∉ tL t ++ [q1] := hn2
  have n3 : q3 ∉ (tL t ++ [q1]) ++ [q2] := hn3
  simp only [List.mem_append, List.mem_singleton, not_or] at n2 n3
  obtain ⟨n2a, n2b⟩ := n2
  obtain ⟨⟨n3a, n3b⟩, n3c⟩ := n3
  refine ⟨rfl, q1, q2, q3, ⟨n1, n2a, n3a, fun e => n2b e.symm, fun e => n3b e.symm, fun e => n3c e.symm⟩, ⟨ha3, ?_, ?_, ?_⟩, fun b hb hbq => ?_, ?_, fun b hb => ?_⟩
  · exact List.mem_append_left _ (List.mem_append_left _ (List.mem_append_right _ List.mem_cons_self))
  · exact List.mem_append_left _ (List.mem_append_right _ List.mem_cons_self)
  · exact List.mem_append_right _ List.mem_cons_self
  · have b1 : b ≠ q1 := fun e => n1 (e ▸ hb)
    have b2 : b ≠ q2 := fun e => n2a (e ▸ hb)
    have b3 : b ≠ q3 := fun e => n3a (e ▸ hb)
    refine ⟨List.mem_append_left _ (List.mem_append_left _ (List.mem_append_left _ hb)), ?_, ?_, fun i => ?_, fun i => ?_, fun i => ?_⟩ <;> simp [tK, tN, tI, tF, tP, sI, sP, sA, up1, up2, b1, b2, b3, hbq]
  · simp [tK, tN, tI, tF, tP, sI, sP, sA, up1, up2, hne1, hne2, hne3] at hk ⊢
    exact hk
  · rcases hb with rfl | rfl | rfl <;> simp [tK, tN, tI, sI, sP, sA, up1, up2, Ne.symm hne1, Ne.symm hne2, Ne.symm hne3, Ne.symm n2b, Ne.symm n3b, Ne.symm n3c, n2b, n3b, n3c]
