theorem wt_loc {m M : Nat → Int → Int} {N : Int} (hp : ∀ q, 0 ≤ q → q < N → partsok m q) (e : ∀ q, 0 ≤ q → q < N → M 1 q = m 1 q ∧ M 2 q = m 2 q ∧ M 6 q = m 6 q ∧ ∀ k, 0 ≤ k → k < m 6 q → M 7 (9 * q + k) = m 7 (9 * q + k)) {q : Int} (h0 : 0 ≤ q) (h1 : q < N) : wt M q = wt m q := by
  have hpM : ∀ q, 0 ≤ q → q < N → partsok M q := fun q a b => by
    obtain ⟨e1, e2, e6, e7⟩ := e q a b
    obtain ⟨p1, p2⟩ := hp q a b
    refine ⟨by rw [e6]; exact p1, fun k k0 k1 => ?_⟩
    rw [e6] at k1
    rw [e7 k k0 k1]; exact p2 k k0 k1
  have key : ∀ (n : Nat) (q : Int), q < n → 0 ≤ q → q < N → wt M q = wt m q := by
    intro n
    induction n with
    | zero => intro q a b c; omega
    | succ n ih =>
      intro q a b c
      obtain ⟨e1, e2, e6, e7⟩ := e q b c
      rw [wt_eq hpM b c, wt_eq hp b c]
      have hs : ∀ j : Nat, (j : Int) ≤ m 6 q → wsum M (wt M) q j = wsum m (wt m) q j := by
        intro j
        induction j with
        | zero => intro _; rfl
        | succ j ihj =>
          intro hj
          show wsum M (wt M) q j + wt M (M 7 (9 * q + j)) = wsum m (wt m) q j + wt m (m 7 (9 * q + j))
          obtain ⟨c1, c2⟩ := (hp q b c).2 j (by omega) (by omega)
          rw [ihj (by omega), e7 j (by omega) (by omega), ih _ (by omega) c1 (by omega)]
      have hs2 := hs (m 6 q).toNat (by have := (hp q b c).1; omega)
      unfold wgt
      rw [e1, e2, e6, hs2]
  exact key (q.toNat + 1) q (by omega) h0 h1
/-- how many places of a slot a piece has -/
def sdr (K : Nat) : Int := if K = 7 then 9 else if K = 11 ∨ K = 12 ∨ K = 13 ∨ K = 52 ∨ K = 53 ∨ K = 54 then 8 else 1
def xpl (K : Nat) : Bool := K == 1 || K == 2 || K == 6 || K == 7 || K == 9 || (10 ≤ K && K ≤ 13) || K == 50 || (52 ≤ K && K ≤ 56)
def xgl (K : Nat) : Bool := K == 16 || K == 18 || K == 21 || K == 22 || K == 48 || K == 49 || (62 ≤ K && K ≤ 65)
theorem XI.add {m M : Nat → Int → Int} {f F : Nat → Int → UInt32} (hX : XI m f) (hW : WF m f) (hn : m 0 0 < 120)
    (eP : ∀ K, K < 80 → xpl K = true → ∀ j, j < sdr K * m 0 0 → M K j = m K j) (eG : ∀ K, K < 80 → xgl K = true → M K = m K) (e15 : M 15 0 ≤ m 15 0) (e0 : M 0 0 = m 0 0 + 1) (e60 : M 60 0 = m 0 0 + 1) (e61 : ∀ i, M 61 i = if i = m 0 0 then m 0 0 else m 61 i)
    (eF : ∀ j, j < m 0 0 → F 5 j = f 5 j ∧ F 51 j = f 51 j) (eF14 : ∀ j, j < 8 * m 0 0 → F 14 j = f 14 j) (hnew : XP M F (m 0 0)) : XI M F := by
  obtain ⟨x1, x2, x3, x4, x5, x6, x7⟩ := hX
  have hn0 := hW.n.1
  have g18 := eG 18 (by decide) rfl
  refine ⟨⟨by rw [e0, e60], by rw [eG 62 (by decide) rfl, g18]; exact x1.2.1, by rw [eG 64 (by decide) rfl]; exact x1.2.2⟩, fun i i0 i1 => ?_, ?_, ?_, fun i i0 i1 => ?_, fun p p0 p1 => ?_, ?_⟩
  · rw [e61, e0, x2 i i0 i1]
    by_cases e : i = m 0 0
    · rw [if_pos e, if_pos (by omega), e]
    · rw [if_neg e]
      by_cases e2 : i < m 0 0
      · rw [if_pos e2, if_pos (by omega)]
      · rw [if_neg e2, if_neg (by omega)]
  · rw [eG 63 (by decide) rfl, g18]; exact x3
  · rw [eG 65 (by decide) rfl]; exact x4
  · rw [eG 49 (by decide) rfl, eG 16 (by decide) rfl]; exact x5 i i0 (by omega)
  · by_cases e : p = m 0 0
    · rw [e]; exact hnew
    · have hp : p < m 0 0 := by rw [e0] at p1; omega
      obtain ⟨y1, y2, y3, y4, y5, y6⟩ := x6 p p0 hp
      have s1 : ∀ K, K < 80 → xpl K = true → sdr K = 1 → M K p = m K p := fun K hK hx hs => eP K hK hx p (by rw [hs]; omega)
      have s8 : ∀ K, K < 80 → xpl K = true → sdr K = 8 → ∀ i, 0 ≤ i → i < 8 → M K (8 * p + i) = m K (8 * p + i) := fun K hK hx hs i i0 i1 => eP K hK hx _ (by rw [hs]; omega)
      have hpo := fun q a b => (hW.parts q a b).1
      have hbp := hW.b p0 hp
      have hwt : wt M p = wt m p := wt_loc (N := m 0 0) hpo (fun q a b => ⟨eP 1 (by decide) rfl q (by show q < 1 * m 0 0; omega), eP 2 (by decide) rfl q (by show q < 1 * m 0 0; omega), eP 6 (by decide) rfl q (by show q < 1 * m 0 0; omega), fun k k0 k1 => eP 7 (by decide) rfl _ (by show _ < 9 * m 0 0; have := hW.b a b; omega)⟩) p0 hp
      refine ⟨by rw [s1 56 (by decide) rfl rfl]; exact y1, by rw [s1 50 (by decide) rfl rfl, hwt]; exact y2, by rw [s1 1 (by decide) rfl rfl, (eF p hp).1, (eF p hp).2]; exact y3, by rw [s1 1 (by decide) rfl rfl, (eF p hp).1, (eF p hp).2]; exact y4, ?_, fun i i0 i1 => ?_⟩
      · rw [s1 1 (by decide) rfl rfl, s1 55 (by decide) rfl rfl, s1 9 (by decide) rfl rfl, eP 7 (by decide) rfl (9 * p) (by show _ < 9 * m 0 0; omega)]
        intro h5
        have h6 := (hW.parts p p0 hp).2 h5
        have hc := (hpo p p0 hp).2 0 (by omega) (by omega)
        rw [Int.add_zero] at hc
        rw [eP 2 (by decide) rfl (m 7 (9 * p)) (by show _ < 1 * m 0 0; omega)]
        exact y5 h5
      · rw [s1 10 (by decide) rfl rfl] at i1
        rw [s8 54 (by decide) rfl rfl i i0 (by omega), s8 11 (by decide) rfl rfl i i0 (by omega), s8 52 (by decide) rfl rfl i i0 (by omega), s8 53 (by decide) rfl rfl i i0 (by omega), s8 12 (by decide) rfl rfl i i0 (by omega), s8 13 (by decide) rfl rfl i i0 (by omega), eF14 _ (by omega)]
        exact y6 i i0 i1
  · rw [eG 18 (by decide) rfl, eG 21 (by decide) rfl, eG 22 (by decide) rfl, eG 48 (by decide) rfl]; exact x7
/-- the end of a new piece: its place in the row -/
def kept (M : Nat → Int → Int) (N : Int) : Nat → Int → Int := up2 (up2 M 61 N N) 0 0 (N + 1)
set_option maxRecDepth 20000 in
theorem c_keep {m : Nat → Int → Int} {f : Nat → Int → UInt32} {a : Nat → Int → Nat} {t : zT} (hR : CA m f a t) {p : Int} (hp : 0 ≤ p ∧ p < 120) (h0 : m 0 0 = p) (h60 : m 60 0 = p + 1) (h56 : m 56 p = p) : zM yX3_keep cX3_keep 2 (some .int) 0 0 0 [vR (rf a 0 0), vR (rf a 6 p)] t (fun r t1 => r = some (vI p) ∧ CA (kept m p) f a t1) := by
  refine zM.of2 [(0, vR (rf a 0 0)), (1, vR (rf a 6 p))] (by decide +kernel) rfl (Nat.le_of_ble_eq_true rfl) ?_
  refine z_aload_n 1 dX3_keep_0 rfl rfl ?_
  refine c_getI 4 0 hR fl_X3_40 (by decide) (show cLive m 0 0 from l0) (show _ = p from h0) dX3_keep_1 rfl ?_
  refine z_bipush 6 dX3_keep_4 rfl ⟨by decide, by decide⟩ ?_
  refine z_icmp_lt 12 9 dX3_keep_6 (by decide) rfl ⟨by omega, by omega⟩ ⟨by omega, by omega⟩ (fun h6 => ?_) (fun h6 => ?_)
  rotate_left
  · exfalso; omega
  refine z_aload_n 13 dX3_keep_12 rfl rfl ?_
  refine c_getL 16 1 hR fl_X3_11 (by decide) (show cLive m 0 0 from l0) dX3_keep_13 rfl ?_
  refine z_aload_n 17 dX3_keep_16 rfl rfl ?_
  refine c_getI 20 0 hR fl_X3_40 (by decide) (show cLive m 0 0 from l0) (show _ = p from h0) dX3_keep_17 rfl ?_
  refine z_aload_n 21 dX3_keep_20 rfl rfl ?_
  refine c_aast 22 61 hR (c := 1) 120 (by decide) (show _ = p from rfl) (show cLive m 1 0 from l1) (show cLive m 6 p from lp ⟨by omega, by omega⟩) rfl (by decide) ⟨by omega, by omega⟩ dX3_keep_21 rfl (fun t hR => ?_)
  refine z_aload_n 23 dX3_keep_22 rfl rfl ?_
  refine z_dup 24 dX3_keep_23 rfl rfl ?_
  refine c_getI 27 0 hR fl_X3_40 (by decide) (show cLive m 0 0 from l0) (show _ = p from h0) dX3_keep_24 rfl ?_
  refine z_iconst 28 dX3_keep_27 rfl ?_
  refine z_iadd 29 dX3_keep_28 rfl ?_
  refine c_putI 32 0 hR fl_X3_40 (by decide) (show cLive m 0 0 from l0) dX3_keep_29 rfl (fun t hR => ?_)
  refine z_aload_n 33 dX3_keep_32 rfl rfl ?_
  refine c_getI 36 56 hR fl_X3_60 (by decide) (show cLive m 6 p from lp ⟨by omega, by omega⟩) (show _ = p from h56) dX3_keep_33 rfl ?_
  refine z_ireturn rfl dX3_keep_36 (by decide) (by decide) ?_
  exact ⟨rfl, hR⟩
/-- all of it but the arrays -/
def chn (m : Nat → Int → Int) (N n0 k l w c : Int) : Nat → Int → Int := up2 (up2 (up2 (up2 (up2 (up2 (up2 (up2 (up2 (up2 (up2 m 60 0 (N + 1)) 6 N c) 56 N n0) 1 N k) 2 N l) 3 N w) 55 N 0) 50 N 0) 4 N 0) 8 N (-1)) 10 N (-1)
def chl (K : Nat) : Bool := K == 60 || K == 6 || K == 56 || K == 1 || K == 2 || K == 3 || K == 55 || K == 50 || K == 4 || K == 8 || K == 10
theorem chn_o {m : Nat → Int → Int} {N n0 k l w c : Int} {K : Nat} (h : chl K = false) (j : Int) : chn m N n0 k l w c K j = m K j := by
  have g : ∀ q : Nat, chl q = true → K ≠ q := fun q hq e => by rw [e, hq] at h; cases h
  unfold chn
  rw [up2_a _ _ _ _ (g 10 rfl), up2_a _ _ _ _ (g 8 rfl), up2_a _ _ _ _ (g 4 rfl), up2_a _ _ _ _ (g 50 rfl), up2_a _ _ _ _ (g 55 rfl), up2_a _ _ _ _ (g 3 rfl), up2_a _ _ _ _ (g 2 rfl), up2_a _ _ _ _ (g 1 rfl), up2_a _ _ _ _ (g 56 rfl), up2_a _ _ _ _ (g 6 rfl), up2_a _ _ _ _ (g 60 rfl)]
theorem chn_j {m : Nat → Int → Int} {N n0 k l w c : Int} {K : Nat} (h : K ≠ 60) {j : Int} (hj : j ≠ N) : chn m N n0 k l w c K j = m K j := by
  unfold chn
  rw [up2_k _ _ _ _ _ hj, up2_k _ _ _ _ _ hj, up2_k _ _ _ _ _ hj, up2_k _ _ _ _ _ hj, up2_k _ _ _ _ _ hj, up2_k _ _ _ _ _ hj, up2_k _ _ _ _ _ hj, up2_k _ _ _ _ _ hj, up2_k _ _ _ _ _ hj, up2_k _ _ _ _ _ hj, up2_a _ _ _ _ h]
theorem pcm_c {m : Nat → Int → Int} {N n k l w c : Int} {pt : Int → Int} {K : Nat} (h : K ≠ 7 ∧ K ≠ 52 ∧ K ≠ 53 ∧ K ≠ 54) (i : Int) : pcm m N n k l w c pt K i = chn m N n k l w c K i := pcm_s h i
/-- the state that spin makes -/
def spm (m : Nat → Int → Int) (kd n g : Int) : Nat → Int → Int := kept (up2 (pcm m (m 60 0) (m 0 0) kd n 0 0 (fun i => m 7 (9 * m 60 0 + i))) 50 (m 60 0) g) (m 60 0)
theorem pcm_7id {m : Nat → Int → Int} {N n k l w c : Int} (i : Int) : pcm m N n k l w c (fun i => m 7 (9 * N + i)) 7 i = m 7 i := by
  rw [pcm_7]
  split
  · show m 7 (9 * N + (i - 9 * N)) = _
    rw [show 9 * N + (i - 9 * N) = i by omega]
  · rfl
/-- what kept makes of a state like a new piece's -/
def nst (m M : Nat → Int → Int) (k l w c g : Int) : Prop :=
  (∀ K, K < 80 → K ≠ 7 → K ≠ 0 → K ≠ 15 → K ≠ 4 → K ≠ 8 → K ≠ 9 → K ≠ 52 → K ≠ 53 → K ≠ 54 → K ≠ 60 → K ≠ 61 → chl K = false → ∀ j, M K j = m K j) ∧
  (∀ j, j ≠ m 0 0 → M 1 j = m 1 j ∧ M 2 j = m 2 j ∧ M 3 j = m 3 j ∧ M 6 j = m 6 j ∧ M 9 j = m 9 j ∧ M 10 j = m 10 j ∧ M 50 j = m 50 j ∧ M 55 j = m 55 j ∧ M 56 j = m 56 j) ∧
  (M 1 (m 0 0) = k ∧ M 2 (m 0 0) = l ∧ M 3 (m 0 0) = w ∧ M 6 (m 0 0) = c ∧ M 10 (m 0 0) = -1 ∧ M 50 (m 0 0) = g ∧ M 56 (m 0 0) = m 0 0) ∧
  (M 0 0 = m 0 0 + 1 ∧ M 60 0 = m 0 0 + 1 ∧ ∀ i, M 61 i = if i = m 0 0 then m 0 0 else m 61 i) ∧
  (∀ j, j < 9 * m 0 0 → M 7 j = m 7 j) ∧ (∀ K, K = 52 ∨ K = 53 ∨ K = 54 → ∀ j, j < 8 * m 0 0 → M K j = m K j)
theorem nst.X {m M : Nat → Int → Int} {f F : Nat → Int → UInt32} {k l w c g : Int} (h : nst m M k l w c g) (hX : XI m f) (hW : WF m f) (hn : m 0 0 < 120) (e15 : M 15 0 ≤ m 15 0) (hc : 0 ≤ c ∧ c ≤ 9)
    (hpt : ∀ i, 0 ≤ i → i < c → 0 ≤ M 7 (9 * m 0 0 + i) ∧ M 7 (9 * m 0 0 + i) < m 0 0) (hg : g = wgt M (wt m) (m 0 0)) (h5 : k = 5 → M 55 (m 0 0) = M 2 (M 7 (9 * m 0 0)) - M 9 (m 0 0))
    (eF : ∀ j, j < m 0 0 → F 5 j = f 5 j ∧ F 51 j = f 51 j) (eF14 : ∀ j, j < 8 * m 0 0 → F 14 j = f 14 j) (hF : (k = 0 → F 51 (m 0 0) = F 5 (m 0 0)) ∧ (k = 4 → F 51 (m 0 0) = FP.fmul (F 5 (m 0 0)) 1056964608)) : XI M F := by
  obtain ⟨a1, a2, ⟨z1, z2, z3, z6, z10, z50, z56⟩, ⟨e0, e60, e61⟩, e7, e5⟩ := h
  have hn0 := hW.n.1
  have e8 : ∀ K, K = 11 ∨ K = 12 ∨ K = 13 → ∀ j, M K j = m K j := fun K hK j => a1 K (by omega) (by omega) (by omega) (by omega) (by omega) (by omega) (by omega) (by omega) (by omega) (by omega) (by omega) (by omega) (by rcases hK with rfl | rfl | rfl <;> rfl) j
  have hpo : ∀ q, 0 ≤ q → q < m 0 0 + 1 → partsok M q := fun q a b => by
    by_cases e : q = m 0 0
    · rw [e]; exact ⟨by rw [z6]; exact hc.1, fun k k0 k1 => by rw [z6] at k1; exact hpt k k0 k1⟩
    · have hw := (hW.parts q a (by omega)).1
      have hb := hW.b a (show q < m 0 0 by omega)
      have e6 := (a2 q e).2.2.2.1
      exact ⟨by rw [e6]; exact hw.1, fun k k0 k1 => by rw [e6] at k1; rw [e7 _ (by omega)]; exact hw.2 k k0 k1⟩
  have hwl : ∀ q, 0 ≤ q → q < m 0 0 → wt M q = wt m q := fun q a b => wt_loc (N := m 0 0) (fun q a b => (hW.parts q a b).1) (fun q a b => by
    have h2 := a2 q (by omega)
    have hb := hW.b a b
    exact ⟨h2.1, h2.2.1, h2.2.2.2.1, fun k k0 k1 => e7 _ (by omega)⟩) a b
  have hwt : wt M (m 0 0) = g := by
    rw [wt_eq hpo (by omega) (by omega), hg]
    exact wgt_congr (fun i i0 i1 => by rw [z6] at i1; have := hpt i i0 i1; exact hwl _ this.1 this.2)
  refine XI.add hX hW hn (fun K hK hx j hj => ?_) (fun K hK hx => ?_) e15 e0 e60 e61 eF eF14 ⟨z56, by rw [z50, hwt], fun q => hF.1 (by rw [← z1]; exact q), fun q => hF.2 (by rw [← z1]; exact q), fun q => h5 (by rw [← z1]; exact q), fun i i0 i1 => by rw [z10] at i1; omega⟩
  · by_cases k7 : K = 7
    · subst k7; exact e7 j hj
    · by_cases k5 : K = 52 ∨ K = 53 ∨ K = 54
      · refine e5 K k5 j ?_
        rcases k5 with rfl | rfl | rfl <;> exact hj
      · by_cases k8 : K = 11 ∨ K = 12 ∨ K = 13
        · exact e8 K k8 j
        · have hs : sdr K = 1 := by unfold sdr; rw [if_neg k7, if_neg (by omega)]
          rw [hs] at hj
          obtain ⟨b1, b2, b3, b6, b9, b10, b50, b55, b56⟩ := a2 j (by omega)
          have hK2 : K = 1 ∨ K = 2 ∨ K = 6 ∨ K = 9 ∨ K = 10 ∨ K = 50 ∨ K = 55 ∨ K = 56 := by
            by_cases q : K = 1 ∨ K = 2 ∨ K = 6 ∨ K = 9 ∨ K = 10 ∨ K = 50 ∨ K = 55 ∨ K = 56
            · exact q
            · exfalso
              unfold xpl at hx
              simp only [Bool.or_eq_true, beq_iff_eq, Bool.and_eq_true, decide_eq_true_eq] at hx
              omega
          rcases hK2 with rfl | rfl | rfl | rfl | rfl | rfl | rfl | rfl <;> assumption
  · have hne : ∀ q : Nat, xgl q = false → K ≠ q := fun q hq e => by rw [e, hq] at hx; cases hx
    funext j
    refine a1 K hK (hne 7 rfl) (hne 0 rfl) (hne 15 rfl) (hne 4 rfl) (hne 8 rfl) (hne 9 rfl) (hne 52 rfl) (hne 53 rfl) (hne 54 rfl) (hne 60 rfl) (hne 61 rfl) ?_ j
    by_cases q : chl K = false
    · exact q
    · exfalso
      unfold chl at q
      unfold xgl at hx
      simp only [Bool.or_eq_true, beq_iff_eq, Bool.and_eq_true, decide_eq_true_eq, Bool.not_eq_false] at hx q
      omega
theorem kept_o {M : Nat → Int → Int} {N : Int} {K : Nat} (h : K ≠ 61 ∧ K ≠ 0) (j : Int) : kept M N K j = M K j := by
  unfold kept; rw [up2_a _ _ _ _ h.2, up2_a _ _ _ _ h.1]
theorem spm_n {m : Nat → Int → Int} {kd n g : Int} (h60 : m 60 0 = m 0 0) : nst m (spm m kd n g) kd n 0 0 g := by
  unfold spm
  rw [h60]
  have hs : ∀ K, K ≠ 7 → K ≠ 52 → K ≠ 53 → K ≠ 54 → K ≠ 61 → K ≠ 0 → ∀ j, kept (up2 (pcm m (m 0 0) (m 0 0) kd n 0 0 (fun i => m 7 (9 * m 0 0 + i))) 50 (m 0 0) g) (m 0 0) K j = up2 (chn m (m 0 0) (m 0 0) kd n 0 0) 50 (m 0 0) g K j := fun K h7 h2 h3 h4 h61 h0 j => by
    rw [kept_o ⟨h61, h0⟩]
    unfold up2
    rw [pcm_c ⟨h7, h2, h3, h4⟩]
  refine ⟨fun K hK h7 h0 h15 h4 h8 h9 h52 h53 h54 h60 h61 hch j => ?_, fun j hj => ?_, ?_, ?_, fun j hj => ?_, fun K hK j hj => ?_⟩
  · rw [hs K h7 h52 h53 h54 h61 h0, up2_a _ _ _ _ (fun e => by rw [e] at hch; cases hch)]
    exact chn_o hch j
  · have g1 : ∀ K, K ≠ 7 → K ≠ 52 → K ≠ 53 → K ≠ 54 → K ≠ 61 → K ≠ 0 → K ≠ 60 → kept (up2 (pcm m (m 0 0) (m 0 0) kd n 0 0 (fun i => m 7 (9 * m 0 0 + i))) 50 (m 0 0) g) (m 0 0) K j = m K j := fun K a b c d e f h => by rw [hs K a b c d e f, up2_k _ _ _ _ _ hj]; exact chn_j h hj
    exact ⟨g1 1 (by decide) (by decide) (by decide) (by decide) (by decide) (by decide) (by decide), g1 2 (by decide) (by decide) (by decide) (by decide) (by decide) (by decide) (by decide), g1 3 (by decide) (by decide) (by decide) (by decide) (by decide) (by decide) (by decide), g1 6 (by decide) (by decide) (by decide) (by decide) (by decide) (by decide) (by decide), g1 9 (by decide) (by decide) (by decide) (by decide) (by decide) (by decide) (by decide), g1 10 (by decide) (by decide) (by decide) (by decide) (by decide) (by decide) (by decide), g1 50 (by decide) (by decide) (by decide) (by decide) (by decide) (by decide) (by decide), g1 55 (by decide) (by decide) (by decide) (by decide) (by decide) (by decide) (by decide), g1 56 (by decide) (by decide) (by decide) (by decide) (by decide) (by decide) (by decide)⟩
  · exact ⟨(hs 1 (by decide) (by decide) (by decide) (by decide) (by decide) (by decide) _).trans (up2_s _ 1 (m 0 0) kd), (hs 2 (by decide) (by decide) (by decide) (by decide) (by decide) (by decide) _).trans (up2_s _ 2 (m 0 0) n), (hs 3 (by decide) (by decide) (by decide) (by decide) (by decide) (by decide) _).trans (up2_s _ 3 (m 0 0) 0), (hs 6 (by decide) (by decide) (by decide) (by decide) (by decide) (by decide) _).trans (up2_s _ 6 (m 0 0) 0), (hs 10 (by decide) (by decide) (by decide) (by decide) (by decide) (by decide) _).trans (up2_s _ 10 (m 0 0) (-1)), (hs 50 (by decide) (by decide) (by decide) (by decide) (by decide) (by decide) _).trans (up2_s _ 50 (m 0 0) g), (hs 56 (by decide) (by decide) (by decide) (by decide) (by decide) (by decide) _).trans (up2_s _ 56 (m 0 0) (m 0 0))⟩
  · refine ⟨up2_s _ 0 0 _, (hs 60 (by decide) (by decide) (by decide) (by decide) (by decide) (by decide) _).trans (up2_s m 60 0 _), fun i => ?_⟩
    unfold kept
    rw [up2_a _ _ _ _ (show (61 : Nat) ≠ 0 by decide), up_ite, up2_a _ _ _ _ (show (61 : Nat) ≠ 50 by decide), pcm_c (by decide), chn_o rfl]
  · rw [kept_o (by decide), up2_a _ _ _ _ (by decide)]; exact pcm_7id j
  · rw [kept_o (by omega), up2_a _ _ _ _ (by omega), pcm_5 hK, if_neg (by omega)]
theorem np_ch {m : Nat → Int → Int} {k n w c g : Int} {K : Nat} (hK : K < 25) (h7 : K ≠ 7) (h0 : K ≠ 0) (h6 : K = 6 → c = 0) (j : Int) : up2 (chn m (m 0 0) (m 0 0) k n w c) 50 (m 0 0) g K j = np m k n w K j := by
  rw [up2_a _ _ _ _ (show K ≠ 50 by omega)]
  by_cases hc : chl K = false
  · rw [chn_o hc]
    have hne : ∀ q : Nat, chl q = true → K ≠ q := fun q hq e => by rw [e, hq] at hc; cases hc
    exact (np_r ⟨h0, hne 1 rfl, hne 2 rfl, hne 3 rfl, hne 4 rfl, hne 6 rfl, hne 8 rfl, hne 10 rfl⟩).symm
  · by_cases hj : j = m 0 0
    · subst hj
      have hK2 : K = 1 ∨ K = 2 ∨ K = 3 ∨ K = 4 ∨ K = 6 ∨ K = 8 ∨ K = 10 := by
        unfold chl at hc
        simp only [Bool.or_eq_true, beq_iff_eq, Bool.not_eq_false] at hc
        omega
      rcases hK2 with rfl | rfl | rfl | rfl | rfl | rfl | rfl
      · exact (up2_s _ 1 (m 0 0) k).trans (up2_s _ 1 (m 0 0) k).symm
      · exact (up2_s _ 2 (m 0 0) n).trans (up2_s _ 2 (m 0 0) n).symm
      · exact (up2_s _ 3 (m 0 0) w).trans (up2_s _ 3 (m 0 0) w).symm
      · exact (up2_s _ 4 (m 0 0) 0).trans (up2_s _ 4 (m 0 0) 0).symm
      · exact ((up2_s _ 6 (m 0 0) c).trans (h6 rfl)).trans (up2_s _ 6 (m 0 0) 0).symm
      · exact (up2_s _ 8 (m 0 0) (-1)).trans (up2_s _ 8 (m 0 0) (-1)).symm
      · exact (up2_s _ 10 (m 0 0) (-1)).trans (up2_s _ 10 (m 0 0) (-1)).symm
    · rw [chn_j (by omega) hj]
      unfold np
      rw [up2_k _ _ _ _ _ hj, up2_k _ _ _ _ _ hj, up2_k _ _ _ _ _ hj, up2_k _ _ _ _ _ hj, up2_k _ _ _ _ _ hj, up2_k _ _ _ _ _ hj, up2_k _ _ _ _ _ hj, up2_a _ _ _ _ h0]
theorem np_0 {m : Nat → Int → Int} {k n w : Int} (j : Int) : np m k n w 0 j = up2 m 0 0 (m 0 0 + 1) 0 j := rfl
theorem cp_spin {m : Nat → Int → Int} {f : Nat → Int → UInt32} {a : Nat → Int → Nat} {t : zT} {x : Nat} {kd n e g : Int} {v : UInt32} (hW : WF m f) (hX : XI m f) (hk : kd = 0 ∨ kd = 4) (hno : ¬ new_no m n e) (hg : g = if kd = 0 then n else 2 * n) (hv : v = if kd = 0 then E8 e else FP.fmul (E8 e) 1056964608)
    (hx : a 0 0 = x) (hR : CA (spm m kd n g) (up2 (up2 f 51 (m 60 0) 0) 51 (m 60 0) v) a t) : CP x (s_new m f kd n e) t := by
  subst hx
  have es : s_new m f kd n e = (np m kd n 0, up2 f 5 (m 0 0) (E8 e)) := if_neg hno
  rw [es]
  have h60 := hX.1.1
  have hn := hW.n
  have hn120 : m 0 0 < 120 := by unfold new_no at hno; omega
  have h2 := hR.upf (k := 5) (by decide) (m 0 0) (E8 e)
  have hN := spm_n (kd := kd) (n := n) (g := g) h60
  rw [h60] at h2
  have f51 : up2 (up2 (up2 f 51 (m 0 0) 0) 51 (m 0 0) v) 5 (m 0 0) (E8 e) 51 (m 0 0) = v := by rw [up2_a _ _ _ _ (by decide), up2_s]
  have f5 : up2 (up2 (up2 f 51 (m 0 0) 0) 51 (m 0 0) v) 5 (m 0 0) (E8 e) 5 (m 0 0) = E8 e := up2_s _ _ _ _
  have e15 : spm m kd n g 15 0 = m 15 0 := by
    unfold spm
    rw [kept_o (by decide), up2_a _ _ _ _ (by decide), pcm_c (by decide), chn_o rfl]
  refine CP.of h2 (hN.X hX hW hn120 (by rw [e15]; exact Int.le_refl _) ⟨by decide, by decide⟩ (fun i i0 i1 => by omega) ?_ (fun q => by omega) (fun j hj => ⟨?_, ?_⟩) (fun j hj => ?_) ⟨fun q => ?_, fun q => ?_⟩) (eqs_p (fun K hK j => ?_) (fun K hK j => ?_))
  · unfold wgt
    rw [hN.2.2.1.1, hN.2.2.1.2.1, hg]
    rcases hk with rfl | rfl <;> rfl
  · exact up2_k _ _ _ _ _ (by omega)
  · rw [up2_a _ _ _ _ (by decide), up2_k _ _ _ _ _ (by omega), up2_k _ _ _ _ _ (by omega)]
  · rw [up2_a _ _ _ _ (by decide), up2_a _ _ _ _ (by decide), up2_a _ _ _ _ (by decide)]
  · rw [f51, f5, hv, if_pos q]
  · rw [f51, f5, hv, if_neg (by omega)]
  · show spm m kd n g K j = np m kd n 0 K j
    unfold spm
    rw [h60]
    by_cases k0 : K = 0
    · subst k0
      show up2 _ 0 0 (m 0 0 + 1) 0 j = up2 m 0 0 (m 0 0 + 1) 0 j
      rw [up_ite, up_ite]
      split
      · rfl
      · rw [up2_a _ _ _ _ (by decide), up2_a _ _ _ _ (by decide), pcm_c (by decide), chn_o rfl]
    · rw [kept_o (by omega)]
      by_cases k7 : K = 7
      · subst k7; rw [up2_a _ _ _ _ (by decide), pcm_7id]; exact (np_r (by decide)).symm
      · rw [← np_ch (c := 0) (g := g) hK k7 k0 (fun _ => rfl) j]
        unfold up2
        rw [pcm_c ⟨k7, by omega, by omega, by omega⟩]
  · show up2 (up2 (up2 f 51 (m 0 0) 0) 51 (m 0 0) v) 5 (m 0 0) (E8 e) K j = up2 f 5 (m 0 0) (E8 e) K j
    unfold up2
    by_cases q : K = 5 ∧ j = m 0 0
    · rw [if_pos q, if_pos q]
    · rw [if_neg q, if_neg q, if_neg (by omega), if_neg (by omega)]
