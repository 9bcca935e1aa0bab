section RW
variable {m : Nat → Int → Int} {f : Nat → Int → UInt32} {a : Nat → Int → Nat} {t : zT}
theorem samec_sP {q : Nat} {i : Int} {v : Option Nat} {b : Nat} (hb : b ∈ tL t) (hne : b ≠ q) : samec t (sP t q i v) b := ⟨hb, rfl, rfl, fun _ => rfl, fun _ => rfl, fun j => up2_a _ _ _ _ hne _⟩
theorem CA.raw (h : CA m f a t) {q : Nat} (hq : ∀ s j, s < 15 → cLive m s j → a s j ≠ q) (i : Int) (v : Option Nat) : CA m f a (sP t q i v) := h.ext (fun s j hs hl => samec_sP (h.lv s j hs hl).1 (hq s j hs hl))
variable {y : MethodName} {b : ByteArray} {nL : Nat} {ret : Option FieldType} {d mc ms : Nat} {Post : Option zV → zT → Prop} {cu su pc : Nat} {lv : List (Nat × zV)} {st : List zV}
theorem c_rast (pc' : Nat) {q n : Nat} {v i : Int} (h : CA m f a t) (hq : q ∈ tL t ∧ tK t q = 9 ∧ tN t q = n) (hv : cLive m 6 v) (hn : n ≤ 1000) (hi : 0 ≤ i ∧ i < n) (hd : decode b pc = .ok (.aastore, 1)) (hp : pc + 1 = pc') (kk : zOK y b nL ret d mc ms Post cu su pc' lv st (sP t q i (rf a 6 v))) : zOK y b nL ret d mc ms Post cu su pc lv (vR (rf a 6 v) :: vI i :: vR (some q) :: st) t := by
  rw [rf_p hv.1] at kk ⊢
  obtain ⟨g1, g2, -⟩ := h.lv 6 v (by decide) hv
  exact z_aast (ci := 1) pc' n hq.1 hq.2.1 g1 g2 (by decide) hq.2.2 (by omega) hi hd hp kk
end RW
set_option maxRecDepth 20000 in
theorem c_pickedParts {m : Nat → Int → Int} {f : Nat → Int → UInt32} {a : Nat → Int → Nat} {t : zT} {t0 : zT} (ht0 : t = t0) (hR : CA m f a t) (hW : WF m f) (hX : XI m f) : zM yX3_pickedParts cX3_pickedParts 4 (some (.array (.object "RopeWalk$Piece"))) 1 1 9 [vR (rf a 0 0)] t (fun r t1 => ∃ q, r = some (vR (some q)) ∧ (q ∉ tL t0 ∧ q ∈ tL t1 ∧ tK t1 q = 9 ∧ tN t1 q = (m 15 0).toNat ∧ (∀ i, 0 ≤ i → i < m 15 0 → tP t1 q i = rf a 6 (m 16 i)) ∧ ∀ b, b ∈ tL t0 → samec t0 t1 b) ∧ CA m f a t1) := by
  refine zM.of2 [(0, vR (rf a 0 0))] (by decide +kernel) rfl (Nat.le_of_ble_eq_true rfl) ?_
  have hn1 := hW.n.1
  have hn2 := hW.n.2
  have h60 := hX.1.1
  have h62 := hX.1.2.1
  have h64 := hX.1.2.2
  obtain ⟨hg1, hg2, hg3⟩ := hW.2.2.1
  have L21 : ∀ (N : Nat) (q : Nat) (k : Int) (t : zT) (hR : CA m f a t) (hk : 0 ≤ k ∧ k ≤ m 15 0) (hraw : (q ∉ tL t0 ∧ q ∈ tL t ∧ tK t q = 9 ∧ tN t q = (m 15 0).toNat ∧ (∀ i, 0 ≤ i → i < k → tP t q i = rf a 6 (m 16 i)) ∧ ∀ b, b ∈ tL t0 → samec t0 t b)) (hnq : ∀ s j, s < 15 → cLive m s j → a s j ≠ q) (hf : m 15 0 - k < (N : Int)), zOK yX3_pickedParts cX3_pickedParts 4 (some (.array (.object "RopeWalk$Piece"))) 1 1 9 (fun r t1 => ∃ q, r = some (vR (some q)) ∧ (q ∉ tL t0 ∧ q ∈ tL t1 ∧ tK t1 q = 9 ∧ tN t1 q = (m 15 0).toNat ∧ (∀ i, 0 ≤ i → i < m 15 0 → tP t1 q i = rf a 6 (m 16 i)) ∧ ∀ b, b ∈ tL t0 → samec t0 t1 b) ∧ CA m f a t1) (0 + 1) (0 + (m 15 0).toNat) 21 [(3, vI k), (2, vR (some q)), (0, vR (rf a 0 0)), (1, vI (m 15 0))] [] t := by
    intro N
    induction N with
    | zero => intro q k t hR hk hraw hnq hf; exfalso; omega
    | succ N ih21 =>
      intro q k t hR hk hraw hnq hf
      obtain ⟨r1, r2, r3, r4, r5, r6⟩ := hraw
      have hgi := fun (h : k < m 15 0) => hg3 k hk.1 h
      refine z_iload_n 22 dX3_pickedParts_21 rfl rfl ?_
      refine z_iload_n 23 dX3_pickedParts_22 rfl rfl ?_
      refine z_icmp_ge 41 26 dX3_pickedParts_23 (by decide) rfl ⟨by omega, by omega⟩ ⟨by omega, by omega⟩ (fun h23 => ?_) (fun h23 => ?_)
      · refine z_aload_n 42 dX3_pickedParts_41 rfl rfl ?_
        refine z_areturn rfl (Or.inr ⟨_, rfl⟩) dX3_pickedParts_42 (by decide) (by omega) ?_
        have hkk : k = m 15 0 := by omega
        rw [hkk] at r5
        exact ⟨q, rfl, ⟨r1, r2, r3, r4, r5, r6⟩, hR⟩
      · refine z_aload_n 27 dX3_pickedParts_26 rfl rfl ?_
        refine z_iload_n 28 dX3_pickedParts_27 rfl rfl ?_
        refine z_aload_n 29 dX3_pickedParts_28 rfl rfl ?_
        refine c_getL 32 2 hR fl_X3_15 (by decide) (show cLive m 0 0 from l0) dX3_pickedParts_29 rfl ?_
        refine z_iload_n 33 dX3_pickedParts_32 rfl rfl ?_
        refine c_aald 34 49 hR (c := 1) 9 (by decide) (show _ = k from rfl) (show cLive m 2 0 from l2) rfl (by decide) ⟨by omega, by omega⟩ (show _ = m 16 k from (hX.pk (by omega) (by omega))) dX3_pickedParts_33 rfl (fun hl33 => ?_)
        refine c_rast 35 hR ⟨r2, r3, r4⟩ (show cLive m 6 (m 16 k) from lp ⟨by omega, by omega⟩) (by omega) ⟨by omega, by omega⟩ dX3_pickedParts_34 rfl ?_
        refine z_iinc (lv' := [(3, _), (2, _), (0, _), (1, _)]) 38 dX3_pickedParts_35 rfl rfl rfl rfl ?_
        refine z_goto 21 dX3_pickedParts_38 (by decide) ?_
        refine z_sub (lv' := [(3, _), (2, _), (0, _), (1, _)]) ⟨rfl, rfl, rfl, rfl, trivial⟩ ?_
        refine ih21 q (k + 1) _ (hR.raw hnq _ _) (by omega) ⟨r1, r2, r3, r4, fun i i0 i1 => ?_, fun b hb => (r6 b hb).tr (samec_sP (r6 b hb).1 (fun e => r1 (e ▸ hb)))⟩ hnq (by omega)
        show up2 (tP t) q k _ q i = _
        rw [up_ite]
        by_cases e : i = k
        · rw [if_pos e, e]
        · rw [if_neg e]; exact r5 i i0 (by omega)
  refine z_iconst 1 dX3_pickedParts_0 rfl ?_
  refine z_aload_n 2 dX3_pickedParts_1 rfl rfl ?_
  refine c_getI 5 15 hR fl_X3_77 (by decide) (show cLive m 0 0 from l0) (show _ = m 15 0 from rfl) dX3_pickedParts_2 rfl ?_
  refine z_bipush 7 dX3_pickedParts_5 rfl ⟨by decide, by decide⟩ ?_
  refine z_min 10 ⟨by omega, by omega⟩ ⟨by omega, by omega⟩ ml_X3_116 la_min1 la_math la_min2 (by omega) (by decide) (by decide) (by decide) dX3_pickedParts_7 rfl ?_
  refine z_max 13 ⟨by omega, by omega⟩ ⟨by omega, by omega⟩ ml_X3_122 la_max1 la_math la_max2 (by omega) (by decide) (by decide) (by decide) dX3_pickedParts_10 rfl ?_
  refine z_top (w := vI (m 15 0)) (congrArg vI (by omega)) ?_
  refine z_istore_n (lv' := [(1, _), (0, _)]) 14 dX3_pickedParts_13 rfl rfl rfl ?_
  refine z_iload_n 15 dX3_pickedParts_14 rfl rfl ?_
  have hR15 := hR
  refine z_anew (ci := 1) 18 (m 15 0).toNat (by omega) (by first | decide | omega) (by decide) rfl cl_X3_9 (by decide) (by omega) dX3_pickedParts_15 rfl (fun q15 hq15 => ?_)
  replace hR := hR.new (kd := 9) (n := (m 15 0).toNat) hq15
  refine z_astore_n (lv' := [(2, _), (1, _), (0, _)]) 19 dX3_pickedParts_18 rfl rfl rfl ?_
  refine z_iconst 20 dX3_pickedParts_19 rfl ?_
  refine z_istore_n (lv' := [(3, _), (2, _), (1, _), (0, _)]) 21 dX3_pickedParts_20 rfl rfl rfl ?_
  refine z_sub (lv' := [(3, _), (2, _), (0, _), (1, _)]) ⟨rfl, rfl, rfl, rfl, trivial⟩ ?_
  have hn := sA_new (t := t) (q := q15) (kd := 9) (n := (m 15 0).toNat)
  subst ht0
  exact L21 11 q15 0 _ hR (by omega) ⟨hq15, hn.1, hn.2.1, hn.2.2.1, fun i i0 i1 => by omega, fun b hb => sA_old hb hq15⟩ (hR15.fresh hq15) (by omega)
/-- k of the parts taken into piece p -/
def tks (m : Nat → Int → Int) (p : Int) : Nat → Nat → Int → Int
  | 0 => m
  | k + 1 => up2 (up2 (up2 (tks m p k) 4 (m 7 (9 * p + k)) 1) 8 (m 7 (9 * p + k)) p) 50 p (tks m p k 50 p + m 50 (m 7 (9 * p + k)))
theorem tks_r {m : Nat → Int → Int} {p : Int} {n K : Nat} {j : Int} (h4 : K ≠ 4) (h8 : K ≠ 8) (h50 : K ≠ 50) : tks m p n K j = m K j := by
  induction n with
  | zero => rfl
  | succ n ih => show up2 _ _ _ _ _ _ = _; rw [up2_a _ _ _ _ h50, up2_a _ _ _ _ h8, up2_a _ _ _ _ h4]; exact ih
theorem tks_w {m : Nat → Int → Int} {p : Int} {n : Nat} {j : Int} (h : j ≠ p) : tks m p n 50 j = m 50 j := by
  induction n with
  | zero => rfl
  | succ n ih => show up2 _ _ _ _ _ _ = _; rw [up2_k _ _ _ _ _ h, up2_a _ _ _ _ (by decide), up2_a _ _ _ _ (by decide)]; exact ih
theorem tks_50 {m : Nat → Int → Int} {p : Int} {n : Nat} : tks m p n 50 p = m 50 p + wsum m (m 50) p n := by
  induction n with
  | zero => exact (Int.add_zero _).symm
  | succ n ih => show up2 _ _ _ _ _ _ = m 50 p + (wsum m (m 50) p n + m 50 (m 7 (9 * p + n))); rw [up2_s, ih]; omega
theorem up2_id (m : Nat → Int → Int) (K : Nat) (j : Int) : up2 m K j (m K j) = m := by
  funext k i
  unfold up2
  by_cases h : k = K ∧ i = j
  · rw [if_pos h, h.1, h.2]
  · rw [if_neg h]
set_option maxRecDepth 20000 in
theorem c_takeParts {m : Nat → Int → Int} {f : Nat → Int → UInt32} {a : Nat → Int → Nat} {t : zT} (hR : CA m f a t) {p : Int} (hp : 0 ≤ p ∧ p < m 60 0) (h6 : 0 ≤ m 6 p ∧ m 6 p ≤ 9) (h56 : m 56 p = p) (hpt : ∀ k, 0 ≤ k → k < m 6 p → 0 ≤ m 7 (9 * p + k) ∧ m 7 (9 * p + k) < m 60 0 ∧ m 7 (9 * p + k) ≠ p) : zM yX3_takeParts cX3_takeParts 3 none 0 0 0 [vR (rf a 6 p)] t (fun r t1 => r = none ∧ CA (tks m p (m 6 p).toNat) f a t1) := by
  refine zM.of2 [(0, vR (rf a 6 p))] (by decide +kernel) rfl (Nat.le_of_ble_eq_true rfl) ?_
  have L2 : ∀ (fuel : Nat) (k : Nat) (t : zT) (hR : CA (tks m p k) f a t) (hk : (k : Int) ≤ m 6 p) (hf : m 6 p - k < (fuel : Int)), zOK yX3_takeParts cX3_takeParts 3 none 0 0 0 (fun r t1 => r = none ∧ CA (tks m p (m 6 p).toNat) f a t1) 0 0 2 [(1, vI (k : Int)), (0, vR (rf a 6 p))] [] t := by
    intro fuel
    induction fuel with
    | zero => intro k t hR hk hf; exfalso; omega
    | succ fuel ih2 =>
      intro k t hR hk hf
      have hpk := fun (h : (k : Int) < m 6 p) => hpt k (by omega) h
      refine z_iload_n 3 dX3_takeParts_2 rfl rfl ?_
      refine z_aload_n 4 dX3_takeParts_3 rfl rfl ?_
      refine c_getL 7 7 hR fl_X3_125 (by decide) (cLive_c (fun K hK => tks_r (by omega) (by omega) (by omega)) (show cLive m 6 p from lp ⟨by omega, by omega⟩)) dX3_takeParts_4 rfl ?_
      refine c_alen 8 hR (by decide) (cLive_c (fun K hK => tks_r (by omega) (by omega) (by omega)) (show cLive m 7 p from lp ⟨by omega, by omega⟩)) ((congrArg (fun z : Int => ((z.toNat : Nat) : Int)) (tks_r (m := m) (p := p) (n := k) (K := 6) (j := p) (by decide) (by decide) (by decide))).trans (show _ = m 6 p from Int.toNat_of_nonneg (by omega))) dX3_takeParts_7 rfl ?_
      refine z_icmp_ge 54 11 dX3_takeParts_8 (by decide) rfl ⟨by omega, by omega⟩ ⟨by omega, by omega⟩ (fun h8 => ?_) (fun h8 => ?_)
      · refine z_return rfl dX3_takeParts_54 (by decide) (by decide) ?_
        have hkk : (m 6 p).toNat = k := by omega
        rw [hkk]
        exact ⟨rfl, hR⟩
      · refine z_aload_n 12 dX3_takeParts_11 rfl rfl ?_
        refine c_getL 15 7 hR fl_X3_125 (by decide) (cLive_c (fun K hK => tks_r (by omega) (by omega) (by omega)) (show cLive m 6 p from lp ⟨by omega, by omega⟩)) dX3_takeParts_12 rfl ?_
        refine z_iload_n 16 dX3_takeParts_15 rfl rfl ?_
        refine c_aald 17 7 hR (c := 9) (m 6 p).toNat (by decide) (show _ = 9 * p + ((k : Int)) from rfl) (cLive_c (fun K hK => tks_r (by omega) (by omega) (by omega)) (show cLive m 7 p from lp ⟨by omega, by omega⟩)) (congrArg Int.toNat (tks_r (m := m) (p := p) (n := k) (K := 6) (j := p) (by decide) (by decide) (by decide))) (by omega) ⟨by omega, by omega⟩ (show _ = m 7 (9 * p + ((k : Int))) from tks_r (by decide) (by decide) (by decide)) dX3_takeParts_16 rfl (fun hl16 => ?_)
        have hpk2 := hpk (by omega)
        refine z_astore_n (lv' := [(2, _), (1, _), (0, _)]) 18 dX3_takeParts_17 rfl rfl rfl ?_
        refine z_aload_n 19 dX3_takeParts_18 rfl rfl ?_
        refine c_ifnull 48 22 dX3_takeParts_19 (by decide) rfl  (fun h19 => ?_) (fun h19 => ?_)
        · exfalso; omega
        refine z_aload_n 23 dX3_takeParts_22 rfl rfl ?_
        refine z_iconst 24 dX3_takeParts_23 rfl ?_
        refine c_putI 27 4 hR fl_X3_67 (by decide) (cLive_c (fun K hK => tks_r (by omega) (by omega) (by omega)) (show cLive m 6 (m 7 (9 * p + ((k : Int)))) from lp ⟨by omega, by omega⟩)) dX3_takeParts_24 rfl (fun t hR => ?_)
        refine z_aload_n 28 dX3_takeParts_27 rfl rfl ?_
        refine z_aload_n 29 dX3_takeParts_28 rfl rfl ?_
        refine c_getI 32 56 hR fl_X3_60 (by decide) (cLive_c (fun K hK => tks_r (by omega) (by omega) (by omega)) (show cLive m 6 p from lp ⟨by omega, by omega⟩)) (show _ = p from (tks_r (by decide) (by decide) (by decide)).trans h56) dX3_takeParts_29 rfl ?_
        refine c_putI 35 8 hR fl_X3_128 (by decide) (cLive_c (fun K hK => tks_r (by omega) (by omega) (by omega)) (show cLive m 6 (m 7 (9 * p + ((k : Int)))) from lp ⟨by omega, by omega⟩)) dX3_takeParts_32 rfl (fun t hR => ?_)
        refine z_aload_n 36 dX3_takeParts_35 rfl rfl ?_
        refine z_dup 37 dX3_takeParts_36 rfl rfl ?_
        refine c_getI 40 50 hR fl_X3_53 (by decide) (cLive_c (fun K hK => tks_r (by omega) (by omega) (by omega)) (show cLive m 6 p from lp ⟨by omega, by omega⟩)) (show _ = (tks m p k 50 p) from rfl) dX3_takeParts_37 rfl ?_
        refine z_aload_n 41 dX3_takeParts_40 rfl rfl ?_
        refine c_getI 44 50 hR fl_X3_53 (by decide) (cLive_c (fun K hK => tks_r (by omega) (by omega) (by omega)) (show cLive m 6 (m 7 (9 * p + ((k : Int)))) from lp ⟨by omega, by omega⟩)) (show _ = (m 50 (m 7 (9 * p + (k : Int)))) from tks_w hpk2.2.2) dX3_takeParts_41 rfl ?_
        refine z_iadd 45 dX3_takeParts_44 rfl ?_
        refine c_putI 48 50 hR fl_X3_53 (by decide) (cLive_c (fun K hK => tks_r (by omega) (by omega) (by omega)) (show cLive m 6 p from lp ⟨by omega, by omega⟩)) dX3_takeParts_45 rfl (fun t hR => ?_)
        refine z_iinc (lv' := [(1, _), (2, _), (0, _)]) 51 dX3_takeParts_48 rfl rfl rfl rfl ?_
        refine z_goto 2 dX3_takeParts_51 (by decide) ?_
        refine z_sub (lv' := [(1, _), (0, _)]) ⟨rfl, rfl, trivial⟩ ?_
        exact ih2 (k + 1) _ hR (by omega) (by omega)
  refine z_iconst 1 dX3_takeParts_0 rfl ?_
  refine z_istore_n (lv' := [(1, _), (0, _)]) 2 dX3_takeParts_1 rfl rfl rfl ?_
  refine z_sub (lv' := [(1, _), (0, _)]) ⟨rfl, rfl, trivial⟩ ?_
  exact L2 10 0 _ hR (by omega) (by omega)
