/-! WHAT THE CLASS COMPUTES OTHERWISE (numbers: proved below, with the floats) -/
theorem rest_n {v : UInt32} (hv : okv v) {e : Int} (h1 : 1 ≤ e) (h2 : e ≤ 80000) : vf_n64 (FP.f2d (E8 e)) ∧ rmok (FP.f2d v) (FP.f2d (E8 e)) ∧ rmd (FP.f2d v) (FP.f2d (E8 e)) = FP.f2d (FP.frem v (E8 e)) := ⟨(rest_n' hv h1 h2).1, (rest_n' hv h1 h2).2.1, (rest_n' hv h1 h2).2.2.1⟩
theorem left_n {v : UInt32} (hv : okv v) {e : Int} (h1 : 1 ≤ e) (h2 : e ≤ 1000000) : rmok (FP.f2d v) (E10 e) ∧ rmd (FP.f2d v) (E10 e) = FP.drem (FP.f2d v) (E10 e) := ⟨(left_n' hv h1 h2).1, (left_n' hv h1 h2).2.1⟩
def TD (d : UInt64) : Prop := ∃ v e, okv v ∧ 0 ≤ e ∧ e ≤ 80000 ∧ d = td v e
theorem ceil_n {d : UInt64} (h : TD d) : -(flo (FP.dneg d)) = if zfc (FP.dcmp (ld (flo d)) d) CmpOp.g < 0 then flo d + 1 else flo d := by
  obtain ⟨v, e, hv, -, -, rfl⟩ := h
  exact ceil_d (td_DS hv e)
theorem near_n {d : UInt64} (h : TD d) : vf_n64 (FP.dsub d (ld (dl d))) ∧ vf_n64 (FP.dsub (FP.dneg d) (ld (dl (FP.dneg d)))) ∧ (if zfc (FP.dcmp d 0) CmpOp.g < 0 then -(neaC (FP.dneg d)) else neaC d) = nea d := by
  obtain ⟨v, e, hv, -, -, rfl⟩ := h
  exact near_d (td_DS hv e)
/-! CARRY -/
def cpk (m : Nat → Int → Int) (K : Nat) (p i o q n : Int) : Nat → Int → Int := fun K' => if K' = K then cpi m K p i o q n else m K'
def cp3 (m : Nat → Int → Int) (p i o q n : Int) : Nat → Int → Int := fun K => if K = 52 ∨ K = 53 ∨ K = 54 then cpi m K p i o q n else m K
theorem cp3_eq (m : Nat → Int → Int) (p i o q n : Int) : cpk (cpk (cpk m 52 p i o q n) 53 p i o q n) 54 p i o q n = cp3 m p i o q n := by
  funext K j
  unfold cpk cp3
  by_cases h54 : K = 54
  · subst h54; rw [if_pos rfl, if_pos (by decide)]; rfl
  · rw [if_neg h54]
    by_cases h53 : K = 53
    · subst h53; rw [if_pos rfl, if_pos (by decide)]; rfl
    · rw [if_neg h53]
      by_cases h52 : K = 52
      · subst h52; rw [if_pos rfl, if_pos (by decide)]
      · rw [if_neg h52, if_neg (by omega)]
theorem CA.copy {m : Nat → Int → Int} {f : Nat → Int → UInt32} {a : Nat → Int → Nat} {t : zT} (h : CA m f a t) {K s : Nat} {p o i k n : Int} (hK : K < 80 ∧ cTab K = (0, s, 0, 8)) (hp : cLive m s p) (ho : cLive m s o) (hb : 0 ≤ i ∧ 0 ≤ k ∧ 0 ≤ n ∧ i + n ≤ 8 ∧ k + n ≤ 8) : CA (cpk m K p i o k n) f a (sC t (a s p) (a s o) i k n) := by
  have e1 : cS K = s := by unfold cS; rw [hK.2]
  have e2 : cO K = 0 := by unfold cO; rw [hK.2]
  have e3 : cC K = 8 := by unfold cC; rw [hK.2]
  have e4 : (cTab K).1 = 0 := by rw [hK.2]
  have h9 : (cTab K).1 ≠ 9 := by rw [e4]; decide
  have hs : s < 15 := by rw [← e1]; exact ctab_s K hK.1 h9
  have hn := ctab_n K hK.1 h9
  have hl8 : ∀ j, cLn m s j = 8 := by
    intro j
    rcases ctab_c K hK.1 h9 with c | ⟨c, -⟩ | ⟨-, c⟩ | ⟨c, -⟩ | ⟨c, -⟩
    · rw [e3] at c; omega
    · rw [e3] at c; omega
    · rw [e1] at c; rcases c with c | c | c <;> rw [c] <;> rfl
    · rw [e3] at c; omega
    · rw [e3] at c; omega
  have eN : ∀ k' : Nat, k' = 60 ∨ k' = 62 ∨ k' = 64 ∨ k' = 6 → cpk m K p i o k n k' = m k' := fun k' hk' => if_neg (by omega)
  have hN : ∀ s, cN (cpk m K p i o k n) s = cN m s := fun s => by unfold cN; rw [eN 60 (by decide), eN 62 (by decide), eN 64 (by decide)]
  have hLn : ∀ s j, cLn (cpk m K p i o k n) s j = cLn m s j := fun s j => by unfold cLn; split <;> first | rfl | rw [eN 6 (by decide)]
  have hLv : ∀ s j, cLive (cpk m K p i o k n) s j ↔ cLive m s j := fun s j => by unfold cLive; rw [hN]
  have hIn : ∀ K' j i', cIn (cpk m K p i o k n) K' j i' ↔ cIn m K' j i' := fun K' j i' => by unfold cIn; rw [hLv, hLn]
  refine ⟨fun s j hs hl => ?_, fun s s' j1 j2 hs hs' hl hl' => ?_, fun j hl => ?_, fun K' hK' hT' j' i' hi' => ?_, fun K' hK' hT' j' i' hi' => ?_, fun K' hK' hT' j' i' hi' => ?_, fun L hL j hl => ?_⟩
  · rw [hLn]; exact h.lv s j hs ((hLv s j).mp hl)
  · exact h.inj s s' j1 j2 hs hs' ((hLv _ _).mp hl) ((hLv _ _).mp hl')
  · rw [eN 6 (by decide)]; exact h.n9 j ((hLv 7 j).mp hl)
  · have hi := (hIn K' j' i').mp hi'
    show (if a (cS K') j' = a s o ∧ k ≤ (cO K' : Int) + i' ∧ (cO K' : Int) + i' < k + n then tI t (a s p) (i + ((cO K' : Int) + i' - k)) else tI t (a (cS K') j') ((cO K' : Int) + i')) = (if K' = K then cpi m K p i o k n else m K') (cix (cC K') j' i')
    by_cases hKK : K' = K
    · subst hKK
      rw [if_pos rfl, e1, e2, e3]
      have hl := hi.2.2.2 (by omega)
      rw [e1, hl8] at hl
      have hj := hi.1
      rw [e1] at hj
      have hc : cix 8 j' i' = 8 * j' + i' := rfl
      rw [hc]
      unfold cpi
      have hinj : a s j' = a s o ↔ j' = o := ⟨fun e => (h.inj s s j' o hs hs hj ho e).2, fun e => by rw [e]⟩
      have hi0 := hi.2.1
      by_cases hin : j' = o ∧ k ≤ i' ∧ i' < k + n
      · rw [if_pos ⟨hinj.mpr hin.1, by omega, by omega⟩, if_pos (by omega)]
        have hh := h.ints K' hK.1 e4 p (i + (i' - k)) ⟨by rw [e1]; exact hp, by omega, fun q => by omega, fun _ => by rw [e1, hl8]; omega⟩
        rw [e1, e2, e3] at hh
        have hc2 : cix 8 p (i + (i' - k)) = 8 * p + (i + (i' - k)) := rfl
        rw [hc2] at hh
        rw [show i + (((0 : Nat) : Int) + i' - k) = ((0 : Nat) : Int) + (i + (i' - k)) by omega, hh]
        congr 1
        omega
      · rw [if_neg (fun q => hin ⟨hinj.mp q.1, by have := q.2.1; omega, by have := q.2.2; omega⟩), if_neg (by omega)]
        have hh := h.ints K' hK.1 e4 j' i' hi
        rw [e1, e2, e3, hc] at hh
        exact hh
    · rw [if_neg hKK, if_neg]
      · exact h.ints K' hK' hT' j' i' hi
      · intro q
        obtain ⟨es, -⟩ := h.inj _ _ _ _ (ctab_s K' hK' (by rw [hT']; decide)) hs hi.1 ho q.1
        rcases ctab_i K' hK' K hK.1 (by rw [hT']; decide) (by rw [hT', e4]) (by rw [es, e1]) with c | ⟨-, c, -⟩
        · exact hKK c
        · omega
  · exact h.flts K' hK' hT' j' i' ((hIn K' j' i').mp hi')
  · have hne : K' ≠ K := fun q => by rw [q, e4] at hT'; cases hT'
    rw [show cpk m K p i o k n K' = m K' from if_neg hne, hN]
    exact h.refs K' hK' hT' j' i' ((hIn K' j' i').mp hi')
  · exact h.lnk L hL j ((hLv L.1 j).mp hl)
section CC2
variable {m : Nat → Int → Int} {f : Nat → Int → UInt32} {a : Nat → Int → Nat} {t : zT}
variable {y : MethodName} {b : ByteArray} {nL : Nat} {ret : Option FieldType} {d mc ms : Nat} {Post : Option zV → zT → Prop} {cu su pc : Nat} {lv : List (Nat × zV)} {st : List zV}
theorem c_copy (pc' K : Nat) {idx s : Nat} {p o i k n : Int} (h : CA m f a t) (hL : Cond.methodLink y.cls idx arraycopyName ∈ lw_all) (hK : K < 80 ∧ cTab K = (0, s, 0, 8) ∧ cKd s = 6 ∧ s < 15 ∧ (s = 8 ∨ s = 9 ∨ s = 10)) (hp : cLive m s p) (ho : cLive m s o) (hb : 0 ≤ i ∧ 0 ≤ k ∧ 0 ≤ n ∧ i + n ≤ 8 ∧ k + n ≤ 8) (hdd : 1 < d) (hcs : zcs st ≤ 8) (hd : decode b pc = .ok (.invokestatic idx, 3)) (hpp : pc + 3 = pc') (kk : ∀ t, CA (cpk m K p i o k n) f a t → zOK y b nL ret d mc ms Post cu su pc' lv st t) : zOK y b nL ret d mc ms Post cu su pc lv (vI n :: vI k :: vR (rf a s o) :: vI i :: vR (rf a s p) :: st) t := by
  obtain ⟨g1, g2, g3⟩ := h.lv s p hK.2.2.2.1 hp
  obtain ⟨q1, q2, q3⟩ := h.lv s o hK.2.2.2.1 ho
  have hl8 : ∀ j, cLn m s j = 8 := fun j => by rcases hK.2.2.2.2 with c | c | c <;> rw [c] <;> rfl
  rw [rf_p hp.1, rf_p ho.1]
  exact z_copy pc' 8 8 hL la_cpy1 la_cpy2 la_sys g1 (g2.trans hK.2.2.1) (g3.trans (hl8 p)) q1 (q2.trans hK.2.2.1) (q3.trans (hl8 o)) (by decide) (by omega) hdd hcs hd hpp (kk _ (h.copy ⟨hK.1, hK.2.1⟩ hp ho hb))
end CC2
def tolds (m : Nat → Int → Int) (p : Int) : Nat → Int
  | 0 => 0
  | k + 1 => tolds m p k + (if 0 ≤ m 54 (8 * p + k) then 1 else 0)
theorem tolds_b {m : Nat → Int → Int} {p : Int} {n : Nat} : 0 ≤ tolds m p n ∧ tolds m p n ≤ n := by
  induction n with
  | zero => exact ⟨Int.le_refl 0, Int.le_refl 0⟩
  | succ n ih => show 0 ≤ tolds m p n + (if 0 ≤ m 54 (8 * p + n) then 1 else 0) ∧ tolds m p n + (if 0 ≤ m 54 (8 * p + n) then 1 else 0) ≤ ((n + 1 : Nat) : Int); omega
/-- the whole of carry -/
theorem cp_car {m : Nat → Int → Int} {f : Nat → Int → UInt32} {a : Nat → Int → Nat} {t : zT} {p i o k n : Int} (hR : CA (cp3 m p i o k n) f a t) (hW : WF m f) (hX : XI m f) (hp : there m p) (ho : there m o) (hno : ¬ (m 10 p < 0 ∨ m 10 o < 0)) (hc : ¬ car_no m p i o k n) : CP (a 0 0) (s_car m f p i o k n) t ∧ tolds (cp3 m p i o k n) o (m 10 o).toNat = told (cpm m p i o k n) o (m 10 o).toNat := by
  have e : s_car m f p i o k n = (cpm m p i o k n, cpmf f p i o k n) := if_neg (fun h => by rcases h with h | h | h | h | h; exact h hp; exact h ho; exact hno (Or.inl h); exact hno (Or.inr h); exact hc h)
  rw [e]
  have hbp := hW.b hp.1 hp.2.1
  have hbo := hW.b ho.1 ho.2.1
  have hc2 : 0 ≤ i ∧ 0 ≤ k ∧ 0 ≤ n ∧ i + n ≤ m 10 p ∧ k + n ≤ m 10 o := by unfold car_no at hc; omega
  have h2 : CA (fun K => if K < 25 then cpm m p i o k n K else cp3 m p i o k n K) (cpmf f p i o k n) a t := hR.congr (fun K _ hK j => by
    show (if K < 25 then cpm m p i o k n K else cp3 m p i o k n K) j = cp3 m p i o k n K j
    by_cases h25 : K < 25
    · rw [if_pos h25]
      have h11 : ¬ (K = 11 ∨ K = 12 ∨ K = 13) := fun q => by rcases q with q | q | q <;> (rw [q] at hK; revert hK; decide)
      unfold cpm cp3
      rw [if_neg h11, if_neg (by omega)]
    · rw [if_neg h25]) (fun K _ hK j => by
    have h14 : K ≠ 14 := fun q => by rw [q] at hK; revert hK; decide
    unfold cpmf; rw [if_neg h14])
  obtain ⟨x1, x2, x3, x4, x5, x6, x7⟩ := hX
  have hx : ∀ q j, 0 ≤ q → q < m 0 0 → 0 ≤ j → j < m 10 q → -1 ≤ cpi m 54 p i o k n (8 * q + j) ∧ cpi m 54 p i o k n (8 * q + j) ≤ 8 ∧ (cpi m 11 p i o k n (8 * q + j) = 1 ↔ 0 ≤ cpi m 54 p i o k n (8 * q + j)) ∧ (cpi m 11 p i o k n (8 * q + j) = 1 → cpi m 52 p i o k n (8 * q + j) = cpi m 12 p i o k n (8 * q + j) ∧ cpi m 53 p i o k n (8 * q + j) = cpi m 13 p i o k n (8 * q + j) ∧ cpf f 14 p i o k n (8 * q + j) = E8 (cpi m 54 p i o k n (8 * q + j))) := by
    intro q j q0 q1 j0 j1
    have hbq := hW.b q0 q1
    unfold cpi cpf
    by_cases hin : 8 * o + k ≤ 8 * q + j ∧ 8 * q + j < 8 * o + k + n
    · simp only [if_pos hin]
      have e2 : 8 * p + i + (8 * q + j - (8 * o + k)) = 8 * p + (i + (8 * q + j - (8 * o + k))) := by omega
      rw [e2]
      exact (x6 p hp.1 hp.2.1).2.2.2.2.2 _ (by omega) (by omega)
    · simp only [if_neg hin]
      exact (x6 q q0 q1).2.2.2.2.2 j j0 j1
  refine ⟨CP.of h2 ⟨x1, x2, x3, x4, x5, fun q q0 q1 => ?_, x7⟩ (eqs_p (fun K hK j => by show (if K < 25 then cpm m p i o k n K else cp3 m p i o k n K) j = _; rw [if_pos hK]) (fun _ _ _ => rfl)), ?_⟩
  · obtain ⟨y1, y2, y3, y4, y5, y6⟩ := x6 q q0 q1
    have hw : wt (fun K => if K < 25 then cpm m p i o k n K else cp3 m p i o k n K) = wt m := wt_cong rfl rfl rfl rfl
    exact ⟨y1, by rw [hw]; exact y2, y3, y4, y5, fun j j0 j1 => hx q j q0 q1 j0 j1⟩
  · have key : ∀ u : Nat, (u : Int) ≤ m 10 o → tolds (cp3 m p i o k n) o u = told (cpm m p i o k n) o u := by
      intro u
      induction u with
      | zero => intro _; rfl
      | succ u ih =>
        intro hu
        show tolds (cp3 m p i o k n) o u + (if 0 ≤ cpi m 54 p i o k n (8 * o + (u : Int)) then 1 else 0) = told (cpm m p i o k n) o u + (if cpi m 11 p i o k n (8 * o + (u : Int)) = 1 then 1 else 0)
        rw [ih (by omega)]
        have h3 := (hx o u ho.1 ho.2.1 (by omega) (by omega)).2.2.1
        by_cases h4 : cpi m 11 p i o k n (8 * o + (u : Int)) = 1
        · rw [if_pos h4, if_pos (h3.mp h4)]
        · rw [if_neg h4, if_neg (fun q => h4 (h3.mpr q))]
    exact key _ (by omega)
set_option maxRecDepth 20000 in
theorem c_hasSpots {m : Nat → Int → Int} {f : Nat → Int → UInt32} {a : Nat → Int → Nat} {t : zT} (hR : CA m f a t) {i : Int} (hi : zi i) {n : Int} (hn : zi n) {p : Int} (hW : WF m f) (hX : XI m f) (hp : 0 ≤ p ∧ p < m 0 0) (h10 : 0 ≤ m 10 p) : zM yX3_hasSpots cX3_hasSpots 3 (some .boolean) 0 0 0 [vR (rf a 6 p), vI i, vI n] t (fun r t1 => ∃ z, r = some (vI z) ∧ 0 ≤ z ∧ z ≤ 1 ∧ (z = 1 ↔ (0 ≤ i ∧ 0 ≤ n ∧ i + n ≤ m 10 p)) ∧ CA m f a t1) := by
  refine zM.of2 [(0, vR (rf a 6 p)), (1, vI i), (2, vI n)] (by decide +kernel) rfl (Nat.le_of_ble_eq_true rfl) ?_
  obtain ⟨hi1, hi2⟩ := hi
  obtain ⟨hn1, hn2⟩ := hn
  have hn1 := hW.n.1
  have hn2 := hW.n.2
  have h60 := hX.1.1
  have h62 := hX.1.2.1
  have h64 := hX.1.2.2
  have hB := hW.b (p := p) (by omega) (by omega)
  refine z_iload_n 1 dX3_hasSpots_0 rfl rfl ?_
  refine z_if_lt 31 4 dX3_hasSpots_1 (by decide) rfl ⟨by omega, by omega⟩ (fun h1 => ?_) (fun h1 => ?_)
  · refine z_iconst 32 dX3_hasSpots_31 rfl ?_
    refine z_zreturn rfl (by first | exact Or.inl rfl | exact Or.inr rfl | omega) dX3_hasSpots_32 (by decide) (by decide) ?_
    refine ⟨_, rfl, by omega, by omega, by omega, hR⟩
  · refine z_iload_n 5 dX3_hasSpots_4 rfl rfl ?_
    refine z_if_lt 31 8 dX3_hasSpots_5 (by decide) rfl ⟨by omega, by omega⟩ (fun h5 => ?_) (fun h5 => ?_)
    · refine z_iconst 32 dX3_hasSpots_31 rfl ?_
      refine z_zreturn rfl (by first | exact Or.inl rfl | exact Or.inr rfl | omega) dX3_hasSpots_32 (by decide) (by decide) ?_
      refine ⟨_, rfl, by omega, by omega, by omega, hR⟩
    · refine z_aload_n 9 dX3_hasSpots_8 rfl rfl ?_
      refine c_getI 12 10 hR fl_X3_137 (by decide) (show cLive m 6 p from lp ⟨by omega, by omega⟩) (show _ = m 10 p from rfl) dX3_hasSpots_9 rfl ?_
      refine z_bipush 14 dX3_hasSpots_12 rfl ⟨by decide, by decide⟩ ?_
      refine z_icmp_gt 31 17 dX3_hasSpots_14 (by decide) rfl ⟨by omega, by omega⟩ ⟨by omega, by omega⟩ (fun h14 => ?_) (fun h14 => ?_)
      · refine z_iconst 32 dX3_hasSpots_31 rfl ?_
        refine z_zreturn rfl (by first | exact Or.inl rfl | exact Or.inr rfl | omega) dX3_hasSpots_32 (by decide) (by decide) ?_
        refine ⟨_, rfl, by omega, by omega, by omega, hR⟩
      · refine z_iload_n 18 dX3_hasSpots_17 rfl rfl ?_
        refine z_aload_n 19 dX3_hasSpots_18 rfl rfl ?_
        refine c_getI 22 10 hR fl_X3_137 (by decide) (show cLive m 6 p from lp ⟨by omega, by omega⟩) (show _ = m 10 p from rfl) dX3_hasSpots_19 rfl ?_
        refine z_iload_n 23 dX3_hasSpots_22 rfl rfl ?_
        refine z_isub 24 dX3_hasSpots_23 rfl ?_
        refine z_icmp_gt 31 27 dX3_hasSpots_24 (by decide) rfl ⟨by omega, by omega⟩ ⟨by omega, by omega⟩ (fun h24 => ?_) (fun h24 => ?_)
        · refine z_iconst 32 dX3_hasSpots_31 rfl ?_
          refine z_zreturn rfl (by first | exact Or.inl rfl | exact Or.inr rfl | omega) dX3_hasSpots_32 (by decide) (by decide) ?_
          refine ⟨_, rfl, by omega, by omega, by omega, hR⟩
        · refine z_iconst 28 dX3_hasSpots_27 rfl ?_
          refine z_goto 32 dX3_hasSpots_28 (by decide) ?_
          refine z_zreturn rfl (by first | exact Or.inl rfl | exact Or.inr rfl | omega) dX3_hasSpots_32 (by decide) (by decide) ?_
          refine ⟨_, rfl, by omega, by omega, by omega, hR⟩
set_option maxRecDepth 20000 in
theorem c_toldSpots {m : Nat → Int → Int} {f : Nat → Int → UInt32} {a : Nat → Int → Nat} {t : zT} (hR : CA m f a t) {p : Int} (hp : 0 ≤ p ∧ p < m 60 0) (h10 : 0 ≤ m 10 p ∧ m 10 p ≤ 8) (h54 : ∀ i, 0 ≤ i → i < m 10 p → -1 ≤ m 54 (8 * p + i) ∧ m 54 (8 * p + i) ≤ 8) : zM yX3_toldSpots cX3_toldSpots 3 (some .int) 0 0 0 [vR (rf a 6 p)] t (fun r t1 => r = some (vI (tolds m p (m 10 p).toNat)) ∧ CA m f a t1) := by
  refine zM.of2 [(0, vR (rf a 6 p))] (by decide +kernel) rfl (Nat.le_of_ble_eq_true rfl) ?_
  have L4 : ∀ (fuel : Nat) (k : Nat) (t : zT) (hR : CA m f a t) (hk : (k : Int) ≤ m 10 p) (hf : 8 - (k : Int) < (fuel : Int)), zOK yX3_toldSpots cX3_toldSpots 3 (some .int) 0 0 0 (fun r t1 => r = some (vI (tolds m p (m 10 p).toNat)) ∧ CA m f a t1) 0 0 4 [(2, vI (k : Int)), (1, vI (tolds m p k)), (0, vR (rf a 6 p))] [] t := by
    intro fuel
    induction fuel with
    | zero => intro k t hR hk hf; exfalso; omega
    | succ fuel ih4 =>
      intro k t hR hk hf
      have hb := fun (h : (k : Int) < m 10 p) => h54 k (by omega) h
      have htb := tolds_b (m := m) (p := p) (n := k)
      refine z_iload_n 5 dX3_toldSpots_4 rfl rfl ?_
      refine z_aload_n 6 dX3_toldSpots_5 rfl rfl ?_
      refine c_getI 9 10 hR fl_X3_137 (by decide) (show cLive m 6 p from lp ⟨by omega, by omega⟩) (show _ = m 10 p from rfl) dX3_toldSpots_6 rfl ?_
      refine z_icmp_ge 36 12 dX3_toldSpots_9 (by decide) rfl ⟨by omega, by omega⟩ ⟨by omega, by omega⟩ (fun h9 => ?_) (fun h9 => ?_)
      · refine z_iload_n 37 dX3_toldSpots_36 rfl rfl ?_
        refine z_ireturn rfl dX3_toldSpots_37 (by decide) (by decide) ?_
        have hkk : (m 10 p).toNat = k := by omega
        exact ⟨congrArg (fun z => some (vI z)) (by rw [hkk]), hR⟩
      · refine z_iload_n 13 dX3_toldSpots_12 rfl rfl ?_
        refine z_bipush 15 dX3_toldSpots_13 rfl ⟨by decide, by decide⟩ ?_
        refine z_icmp_ge 36 18 dX3_toldSpots_15 (by decide) rfl ⟨by omega, by omega⟩ ⟨by omega, by omega⟩ (fun h15 => ?_) (fun h15 => ?_)
        · refine z_iload_n 37 dX3_toldSpots_36 rfl rfl ?_
          refine z_ireturn rfl dX3_toldSpots_37 (by decide) (by decide) ?_
          have hkk : (m 10 p).toNat = k := by omega
          exact ⟨congrArg (fun z => some (vI z)) (by rw [hkk]), hR⟩
        · refine z_aload_n 19 dX3_toldSpots_18 rfl rfl ?_
          refine c_getL 22 10 hR fl_X3_155 (by decide) (show cLive m 6 p from lp ⟨by omega, by omega⟩) dX3_toldSpots_19 rfl ?_
          refine z_iload_n 23 dX3_toldSpots_22 rfl rfl ?_
          refine c_iald 24 54 hR (c := 8) 8 (by decide) (show _ = 8 * p + ((k : Int)) from rfl) (show cLive m 10 p from lp ⟨by omega, by omega⟩) rfl rfl ⟨by omega, by omega⟩ (show _ = m 54 (8 * p + ((k : Int))) from rfl) dX3_toldSpots_23 rfl ?_
          refine z_if_lt 30 27 dX3_toldSpots_24 (by decide) rfl ⟨by omega, by omega⟩ (fun h24 => ?_) (fun h24 => ?_)
          · refine z_sub (lv' := [(1, vI (tolds m p (k + 1))), (2, _), (0, _)]) ⟨congrArg (fun z => some (vI z)) (show _ = tolds m p k + (if 0 ≤ m 54 (8 * p + (k : Int)) then 1 else 0) by split <;> omega), rfl, rfl, trivial⟩ ?_
            refine z_iinc (lv' := [(2, _), (1, _), (0, _)]) 33 dX3_toldSpots_30 rfl rfl rfl rfl ?_
            refine z_goto 4 dX3_toldSpots_33 (by decide) ?_
            refine z_sub (lv' := [(2, _), (1, _), (0, _)]) ⟨rfl, rfl, rfl, trivial⟩ ?_
            exact ih4 (k + 1) _ hR (by omega) (by omega)
          · refine z_iinc (lv' := [(1, _), (2, _), (0, _)]) 30 dX3_toldSpots_27 rfl rfl rfl rfl ?_
            refine z_sub (lv' := [(1, vI (tolds m p (k + 1))), (2, _), (0, _)]) ⟨congrArg (fun z => some (vI z)) (show _ = tolds m p k + (if 0 ≤ m 54 (8 * p + (k : Int)) then 1 else 0) by split <;> omega), rfl, rfl, trivial⟩ ?_
            refine z_iinc (lv' := [(2, _), (1, _), (0, _)]) 33 dX3_toldSpots_30 rfl rfl rfl rfl ?_
            refine z_goto 4 dX3_toldSpots_33 (by decide) ?_
            refine z_sub (lv' := [(2, _), (1, _), (0, _)]) ⟨rfl, rfl, rfl, trivial⟩ ?_
            exact ih4 (k + 1) _ hR (by omega) (by omega)
  refine z_iconst 1 dX3_toldSpots_0 rfl ?_
  refine z_istore_n (lv' := [(1, _), (0, _)]) 2 dX3_toldSpots_1 rfl rfl rfl ?_
  refine z_iconst 3 dX3_toldSpots_2 rfl ?_
  refine z_istore_n (lv' := [(2, _), (1, _), (0, _)]) 4 dX3_toldSpots_3 rfl rfl rfl ?_
  refine z_sub (lv' := [(2, _), (1, _), (0, _)]) ⟨rfl, rfl, rfl, trivial⟩ ?_
  exact L4 9 0 _ hR (by omega) (by omega)
set_option maxRecDepth 20000 in
theorem c_carry {m : Nat → Int → Int} {f : Nat → Int → UInt32} {a : Nat → Int → Nat} {t : zT} (hR : CA m f a t) {p : Int} (hp : zi p) {i : Int} (hi : zi i) {o : Int} (ho : zi o) {k : Int} (hk : zi k) {n : Int} (hn : zi n) (hW : WF m f) (hX : XI m f) : zM yX3_carry cX3_carry 8 (some .int) 2 0 0 [vR (rf a 0 0), vI p, vI i, vI o, vI k, vI n] t (fun r t1 => r = some (vI (a_car m p i o k n)) ∧ CP (a 0 0) (s_car m f p i o k n) t1) := by
  refine zM.of2 [(0, vR (rf a 0 0)), (1, vI p), (2, vI i), (3, vI o), (4, vI k), (5, vI n)] (by decide +kernel) rfl (Nat.le_of_ble_eq_true rfl) ?_
  obtain ⟨hp1, hp2⟩ := hp
  obtain ⟨hi1, hi2⟩ := hi
  obtain ⟨ho1, ho2⟩ := ho
  obtain ⟨hk1, hk2⟩ := hk
  obtain ⟨hn1, hn2⟩ := hn
  have hn1 := hW.n.1
  have hn2 := hW.n.2
  have h60 := hX.1.1
  have h62 := hX.1.2.1
  have h64 := hX.1.2.2
  refine z_aload_n 1 dX3_carry_0 rfl rfl ?_
  refine z_iload_n 2 dX3_carry_1 rfl rfl ?_
  refine z_callV 5 [_] la_X3_pieceNotGone ml_X3_152 im_X3_pieceNotGone se_X3_pieceNotGone (hR.lv 0 0 (by decide) l0).1 (hR.lv 0 0 (by decide) l0).2.1 (by decide) rfl rfl (c_pieceNotGone hR ⟨by omega, by omega⟩ hW hX) rfl rfl (by decide) (Nat.le_of_ble_eq_true rfl) (by decide) (by decide) dX3_carry_2 rfl (fun r t hq => ?_)
  obtain ⟨v, rfl, hv, hR⟩ := hq
  refine z_astore (lv' := [(6, _), (0, _), (1, _), (2, _), (3, _), (4, _), (5, _)]) 7 dX3_carry_5 rfl rfl rfl ?_
  refine z_aload_n 8 dX3_carry_7 rfl rfl ?_
  refine z_iload_n 9 dX3_carry_8 rfl rfl ?_
  refine z_callV 12 [_] la_X3_pieceNotGone ml_X3_152 im_X3_pieceNotGone se_X3_pieceNotGone (hR.lv 0 0 (by decide) l0).1 (hR.lv 0 0 (by decide) l0).2.1 (by decide) rfl rfl (c_pieceNotGone hR ⟨by omega, by omega⟩ hW hX) rfl rfl (by decide) (Nat.le_of_ble_eq_true rfl) (by decide) (by decide) dX3_carry_9 rfl (fun r t hq => ?_)
  obtain ⟨u, rfl, hu, hR⟩ := hq
  refine z_astore (lv' := [(7, _), (6, _), (0, _), (1, _), (2, _), (3, _), (4, _), (5, _)]) 14 dX3_carry_12 rfl rfl rfl ?_
  refine z_aload 16 dX3_carry_14 rfl rfl ?_
  refine c_ifnull 24 19 dX3_carry_16 (by decide) rfl  (fun h16 => ?_) (fun h16 => ?_)
  · refine z_bipush 26 dX3_carry_24 rfl ⟨by decide, by decide⟩ ?_
    refine z_ireturn rfl dX3_carry_26 (by decide) (by decide) ?_
    refine ⟨congrArg (fun z => some (vI z)) ?_, ?_⟩
    · unfold a_car cif there car_no; rw [if_pos (by omega)]
    · have e : s_car m f p i o k n = (m, f) := if_pos (by unfold there car_no; omega)
      rw [e]; exact CP.rf hR hX
  · obtain rfl : p = v := by omega
    have hBp := hW.b (p := p) (by omega) (by omega)
    refine z_aload 21 dX3_carry_19 rfl rfl ?_
    refine c_ifnonnull 27 24 dX3_carry_21 (by decide) rfl  (fun h21 => ?_) (fun h21 => ?_)
    · obtain rfl : o = u := by omega
      have hBo := hW.b (p := o) (by omega) (by omega)
      refine z_aload 29 dX3_carry_27 rfl rfl ?_
      refine c_getI 32 10 hR fl_X3_137 (by decide) (show cLive m 6 p from lp ⟨by omega, by omega⟩) (show _ = m 10 p from rfl) dX3_carry_29 rfl ?_
      refine z_if_lt 43 35 dX3_carry_32 (by decide) rfl ⟨by omega, by omega⟩ (fun h32 => ?_) (fun h32 => ?_)
      · refine z_bipush 45 dX3_carry_43 rfl ⟨by decide, by decide⟩ ?_
        refine z_ireturn rfl dX3_carry_45 (by decide) (by decide) ?_
        refine ⟨congrArg (fun z => some (vI z)) ?_, ?_⟩
        · unfold a_car cif there car_no; rw [if_neg (by omega), if_pos (by omega)]
        · have e : s_car m f p i o k n = (m, f) := if_pos (by unfold there car_no; omega)
          rw [e]; exact CP.rf hR hX
      · refine z_aload 37 dX3_carry_35 rfl rfl ?_
        refine c_getI 40 10 hR fl_X3_137 (by decide) (show cLive m 6 o from lp ⟨by omega, by omega⟩) (show _ = m 10 o from rfl) dX3_carry_37 rfl ?_
        refine z_if_ge 46 43 dX3_carry_40 (by decide) rfl ⟨by omega, by omega⟩ (fun h40 => ?_) (fun h40 => ?_)
        · refine z_aload 48 dX3_carry_46 rfl rfl ?_
          refine z_iload_n 49 dX3_carry_48 rfl rfl ?_
          refine z_iload 51 dX3_carry_49 rfl rfl ?_
          refine z_callS 54 [_, _, _] la_X3_hasSpots ml_X3_164 sm_X3_hasSpots (c_hasSpots hR ⟨by omega, by omega⟩ ⟨by omega, by omega⟩ hW hX ⟨by omega, by omega⟩ (by omega)) rfl rfl (by decide) (Nat.le_of_ble_eq_true rfl) (by decide) (by decide) dX3_carry_51 rfl (fun r t hq => ?_)
          obtain ⟨z, rfl, hz1, hz2, hz3, hR⟩ := hq
          refine z_if_eq 69 57 dX3_carry_54 (by decide) rfl ⟨by omega, by omega⟩ (fun h54 => ?_) (fun h54 => ?_)
          · refine z_bipush 71 dX3_carry_69 rfl ⟨by decide, by decide⟩ ?_
            refine z_ireturn rfl dX3_carry_71 (by decide) (by decide) ?_
            refine ⟨congrArg (fun z => some (vI z)) ?_, ?_⟩
            · unfold a_car cif there car_no; rw [if_neg (by omega), if_neg (by omega), if_pos (by omega)]
            · have e : s_car m f p i o k n = (m, f) := if_pos (by unfold there car_no; omega)
              rw [e]; exact CP.rf hR hX
          · refine z_aload 59 dX3_carry_57 rfl rfl ?_
            refine z_iload 61 dX3_carry_59 rfl rfl ?_
            refine z_iload 63 dX3_carry_61 rfl rfl ?_
            refine z_callS 66 [_, _, _] la_X3_hasSpots ml_X3_164 sm_X3_hasSpots (c_hasSpots hR ⟨by omega, by omega⟩ ⟨by omega, by omega⟩ hW hX ⟨by omega, by omega⟩ (by omega)) rfl rfl (by decide) (Nat.le_of_ble_eq_true rfl) (by decide) (by decide) dX3_carry_63 rfl (fun r t hq => ?_)
            obtain ⟨zo, rfl, hy1, hy2, hy3, hR⟩ := hq
            refine z_if_ne 72 69 dX3_carry_66 (by decide) rfl ⟨by omega, by omega⟩ (fun h66 => ?_) (fun h66 => ?_)
            · refine z_aload 74 dX3_carry_72 rfl rfl ?_
              refine c_getL 77 8 hR fl_X3_158 (by decide) (show cLive m 6 p from lp ⟨by omega, by omega⟩) dX3_carry_74 rfl ?_
              refine z_iload_n 78 dX3_carry_77 rfl rfl ?_
              refine z_aload 80 dX3_carry_78 rfl rfl ?_
              refine c_getL 83 8 hR fl_X3_158 (by decide) (show cLive m 6 o from lp ⟨by omega, by omega⟩) dX3_carry_80 rfl ?_
              refine z_iload 85 dX3_carry_83 rfl rfl ?_
              refine z_iload 87 dX3_carry_85 rfl rfl ?_
              refine c_copy 90 52 hR ml_X3_168 (by decide) (show cLive m 8 p from lp ⟨by omega, by omega⟩) (show cLive m 8 o from lp ⟨by omega, by omega⟩) ⟨by omega, by omega, by omega, by omega, by omega⟩ (by decide) (by decide) dX3_carry_87 rfl (fun t hR => ?_)
              refine z_aload 92 dX3_carry_90 rfl rfl ?_
              refine c_getL 95 9 hR fl_X3_161 (by decide) (show cLive m 6 p from lp ⟨by omega, by omega⟩) dX3_carry_92 rfl ?_
              refine z_iload_n 96 dX3_carry_95 rfl rfl ?_
              refine z_aload 98 dX3_carry_96 rfl rfl ?_
              refine c_getL 101 9 hR fl_X3_161 (by decide) (show cLive m 6 o from lp ⟨by omega, by omega⟩) dX3_carry_98 rfl ?_
              refine z_iload 103 dX3_carry_101 rfl rfl ?_
              refine z_iload 105 dX3_carry_103 rfl rfl ?_
              refine c_copy 108 53 hR ml_X3_168 (by decide) (show cLive m 9 p from lp ⟨by omega, by omega⟩) (show cLive m 9 o from lp ⟨by omega, by omega⟩) ⟨by omega, by omega, by omega, by omega, by omega⟩ (by decide) (by decide) dX3_carry_105 rfl (fun t hR => ?_)
              refine z_aload 110 dX3_carry_108 rfl rfl ?_
              refine c_getL 113 10 hR fl_X3_155 (by decide) (show cLive m 6 p from lp ⟨by omega, by omega⟩) dX3_carry_110 rfl ?_
              refine z_iload_n 114 dX3_carry_113 rfl rfl ?_
              refine z_aload 116 dX3_carry_114 rfl rfl ?_
              refine c_getL 119 10 hR fl_X3_155 (by decide) (show cLive m 6 o from lp ⟨by omega, by omega⟩) dX3_carry_116 rfl ?_
              refine z_iload 121 dX3_carry_119 rfl rfl ?_
              refine z_iload 123 dX3_carry_121 rfl rfl ?_
              refine c_copy 126 54 hR ml_X3_168 (by decide) (show cLive m 10 p from lp ⟨by omega, by omega⟩) (show cLive m 10 o from lp ⟨by omega, by omega⟩) ⟨by omega, by omega, by omega, by omega, by omega⟩ (by decide) (by decide) dX3_carry_123 rfl (fun t hR => ?_)
              rw [cp3_eq] at hR
              have hcn : ¬ car_no m p i o k n := by unfold car_no; omega
              have ht54 : ∀ j, 0 ≤ j → j < m 10 o → -1 ≤ cp3 m p i o k n 54 (8 * o + j) ∧ cp3 m p i o k n 54 (8 * o + j) ≤ 8 := fun j j0 j1 => by
                show -1 ≤ cpi m 54 p i o k n (8 * o + j) ∧ cpi m 54 p i o k n (8 * o + j) ≤ 8
                unfold cpi
                split
                · next hin => have y := (hX.p (p := p) (by omega) (by omega)).2.2.2.2.2 (i + (8 * o + j - (8 * o + k))) (by omega) (by omega); rw [← Int.add_assoc] at y; exact ⟨y.1, y.2.1⟩
                · have y := (hX.p (p := o) (by omega) (by omega)).2.2.2.2.2 j j0 j1; exact ⟨y.1, y.2.1⟩
              refine z_aload 128 dX3_carry_126 rfl rfl ?_
              refine z_callS 131 [_] la_X3_toldSpots ml_X3_174 sm_X3_toldSpots (c_toldSpots hR (show 0 ≤ o ∧ o < m 60 0 by omega) (show 0 ≤ m 10 o ∧ m 10 o ≤ 8 by omega) (fun j j0 j1 => ht54 j j0 j1)) rfl rfl (by decide) (Nat.le_of_ble_eq_true rfl) (by decide) (by decide) dX3_carry_128 rfl (fun r t hq => ?_)
              obtain ⟨rfl, hR⟩ := hq
              refine z_ireturn rfl dX3_carry_131 (by decide) (by decide) ?_
              obtain ⟨hc1, hc2⟩ := cp_car hR hW hX ⟨by omega, by omega, by omega⟩ ⟨by omega, by omega, by omega⟩ (by omega) hcn
              refine ⟨congrArg (fun z => some (vI z)) ?_, hc1⟩
              unfold a_car cif there
              rw [if_neg (by omega), if_neg (by omega), if_neg hcn]
              exact hc2
            · refine z_bipush 71 dX3_carry_69 rfl ⟨by decide, by decide⟩ ?_
              refine z_ireturn rfl dX3_carry_71 (by decide) (by decide) ?_
              refine ⟨congrArg (fun z => some (vI z)) ?_, ?_⟩
              · unfold a_car cif there car_no; rw [if_neg (by omega), if_neg (by omega), if_pos (by omega)]
              · have e : s_car m f p i o k n = (m, f) := if_pos (by unfold there car_no; omega)
                rw [e]; exact CP.rf hR hX
        · refine z_bipush 45 dX3_carry_43 rfl ⟨by decide, by decide⟩ ?_
          refine z_ireturn rfl dX3_carry_45 (by decide) (by decide) ?_
          refine ⟨congrArg (fun z => some (vI z)) ?_, ?_⟩
          · unfold a_car cif there car_no; rw [if_neg (by omega), if_pos (by omega)]
          · have e : s_car m f p i o k n = (m, f) := if_pos (by unfold there car_no; omega)
            rw [e]; exact CP.rf hR hX
    · refine z_bipush 26 dX3_carry_24 rfl ⟨by decide, by decide⟩ ?_
      refine z_ireturn rfl dX3_carry_26 (by decide) (by decide) ?_
      refine ⟨congrArg (fun z => some (vI z)) ?_, ?_⟩
      · unfold a_car cif there car_no; rw [if_pos (by omega)]
      · have e : s_car m f p i o k n = (m, f) := if_pos (by unfold there car_no; omega)
        rw [e]; exact CP.rf hR hX
