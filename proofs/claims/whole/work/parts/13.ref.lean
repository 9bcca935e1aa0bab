
/-! THE REFERENCE'S STATE: m its ints (field k, place j; a plain field at place 0), f its floats; x its address, g its arrays' -/
def rkd (k : Nat) : Nat := if k = 11 ∨ k = 26 ∨ k = 33 then 7 else if k = 5 ∨ k = 14 ∨ k = 20 ∨ k = 29 ∨ k = 31 ∨ k = 34 then 5 else 6
def rln (k : Nat) : Nat := if k = 7 then 1080 else if k = 11 ∨ k = 12 ∨ k = 13 ∨ k = 14 then 960 else if k = 16 then 9 else if k = 17 ∨ k = 19 ∨ k = 20 ∨ k = 21 ∨ k = 22 ∨ k = 35 then 6 else if k = 24 then 10 else if k = 26 ∨ k = 27 ∨ k = 28 ∨ k = 29 then 8 else if k = 33 then 2001 else if k = 34 then 12006 else 120
def RS (x : Nat) (g : Nat → Nat) (t : zT) : Prop := x ∈ tL t ∧ tK t x = 4 ∧ (∀ k, k < 36 → zTg 4 k = 2 → tP t x k = some (g k) ∧ g k ∈ tL t ∧ tK t (g k) = rkd k ∧ tN t (g k) = rln k) ∧ ∀ i j, i < 36 → j < 36 → zTg 4 i = 2 → zTg 4 j = 2 → g i = g j → i = j
def RA (m : Nat → Int → Int) (f : Nat → Int → UInt32) (x : Nat) (g : Nat → Nat) (t : zT) : Prop := RS x g t ∧ (∀ k, k < 36 → zTg 4 k = 0 → tI t x k = m k 0) ∧ (∀ k, k < 36 → zTg 4 k = 2 → rkd k ≠ 5 → ∀ j, tI t (g k) j = m k j) ∧ (∀ k, k < 36 → zTg 4 k = 2 → rkd k = 5 → ∀ j, tF t (g k) j = f k j)
theorem zTg4 (k : Nat) : zTg 4 k = 0 ∨ zTg 4 k = 2 := by
  show (if k = 0 ∨ k = 15 ∨ k = 18 ∨ k = 23 ∨ k = 32 then 0 else 2) = 0 ∨ (if k = 0 ∨ k = 15 ∨ k = 18 ∨ k = 23 ∨ k = 32 then 0 else 2) = 2
  split
  · exact Or.inl rfl
  · exact Or.inr rfl
section RR
variable {m : Nat → Int → Int} {f : Nat → Int → UInt32} {x : Nat} {g : Nat → Nat} {t : zT}
theorem RS.xg (h : RS x g t) {k : Nat} (hk : k < 36) (h2 : zTg 4 k = 2) : g k ≠ x := by
  intro e
  have h3 := (h.2.2.1 k hk h2).2.2.1
  rw [e, h.2.1] at h3
  unfold rkd at h3
  split at h3
  · omega
  · split at h3 <;> omega
theorem RA.putI (h : RA m f x g t) {k : Nat} (hk : k < 36) (h2 : zTg 4 k = 0) (z : Int) : RA (up2 m k 0 z) f x g (sI t x k z) := by
  refine ⟨h.1, fun i hi hi2 => ?_, fun i hi hi2 hi5 j => ?_, h.2.2.2⟩
  · show up2 (tI t) x k z x i = up2 m k 0 z i 0
    by_cases e : i = k
    · subst e; rw [up2_s, up2_s]
    · rw [up2_k _ _ _ _ _ (by omega), up2_a _ _ _ _ e]; exact h.2.1 i hi hi2
  · show up2 (tI t) x k z (g i) j = up2 m k 0 z i j
    have e : i ≠ k := fun q => by rw [q, h2] at hi2; cases hi2
    rw [up2_a _ _ _ _ (h.1.xg hi hi2), up2_a _ _ _ _ e]
    exact h.2.2.1 i hi hi2 hi5 j
theorem RA.ast (h : RA m f x g t) {k : Nat} (hk : k < 36) (h2 : zTg 4 k = 2) (j z : Int) : RA (up2 m k j z) f x g (sI t (g k) j z) := by
  refine ⟨h.1, fun i hi hi2 => ?_, fun i hi hi2 hi5 j' => ?_, h.2.2.2⟩
  · show up2 (tI t) (g k) j z x i = up2 m k j z i 0
    have e : i ≠ k := fun q => by rw [q, h2] at hi2; cases hi2
    rw [up2_a _ _ _ _ (h.1.xg hk h2).symm, up2_a _ _ _ _ e]
    exact h.2.1 i hi hi2
  · show up2 (tI t) (g k) j z (g i) j' = up2 m k j z i j'
    by_cases e : i = k
    · subst e
      by_cases ej : j' = j
      · subst ej; rw [up2_s, up2_s]
      · rw [up2_k _ _ _ _ _ ej, up2_k _ _ _ _ _ ej]; exact h.2.2.1 i hi hi2 hi5 j'
    · rw [up2_a _ _ _ _ (fun q => e (h.1.2.2.2 i k hi hk hi2 h2 q)), up2_a _ _ _ _ e]; exact h.2.2.1 i hi hi2 hi5 j'
theorem RA.fst (h : RA m f x g t) {k : Nat} (hk : k < 36) (h2 : zTg 4 k = 2) (j : Int) (z : UInt32) : RA m (up2 f k j z) x g (sF t (g k) j z) := by
  refine ⟨h.1, h.2.1, h.2.2.1, fun i hi hi2 hi5 j' => ?_⟩
  show up2 (tF t) (g k) j z (g i) j' = up2 f k j z i j'
  by_cases e : i = k
  · subst e
    by_cases ej : j' = j
    · subst ej; rw [up2_s, up2_s]
    · rw [up2_k _ _ _ _ _ ej, up2_k _ _ _ _ _ ej]; exact h.2.2.2 i hi hi2 hi5 j'
  · rw [up2_a _ _ _ _ (fun q => e (h.1.2.2.2 i k hi hk hi2 h2 q)), up2_a _ _ _ _ e]; exact h.2.2.2 i hi hi2 hi5 j'
variable {y : MethodName} {b : ByteArray} {nL : Nat} {ret : Option FieldType} {d mc ms : Nat} {Post : Option zV → zT → Prop} {cu su pc : Nat} {lv : List (Nat × zV)} {st : List zV}
theorem r_getI (pc' : Nat) (h : RA m f x g t) {k idx : Nat} {fin : Bool} (hL : zFL y.cls idx 4 k 0 fin) (hk : k < 36 ∧ zTg 4 k = 0) (hd : decode b pc = .ok (.getfield idx, 3)) (hp : pc + 3 = pc') (kk : zOK y b nL ret d mc ms Post cu su pc' lv (vI (m k 0) :: st) t) : zOK y b nL ret d mc ms Post cu su pc lv (vR (some x) :: st) t :=
  z_getI pc' hL h.1.1 h.1.2.1 hd hp (by rw [h.2.1 k hk.1 hk.2]; exact kk)
theorem r_getP (pc' : Nat) (h : RA m f x g t) {k idx : Nat} {fin : Bool} (hL : zFL y.cls idx 4 k 2 fin) (hk : k < 36 ∧ zTg 4 k = 2) (hd : decode b pc = .ok (.getfield idx, 3)) (hp : pc + 3 = pc') (kk : zOK y b nL ret d mc ms Post cu su pc' lv (vR (some (g k)) :: st) t) : zOK y b nL ret d mc ms Post cu su pc lv (vR (some x) :: st) t :=
  z_getP pc' hL h.1.1 h.1.2.1 hd hp (by rw [(h.1.2.2.1 k hk.1 hk.2).1]; exact kk)
theorem r_putI (pc' : Nat) (h : RA m f x g t) {k idx : Nat} {z : Int} (hL : zFL y.cls idx 4 k 0 false) (hk : k < 36 ∧ zTg 4 k = 0) (hd : decode b pc = .ok (.putfield idx, 3)) (hp : pc + 3 = pc') (kk : ∀ t, RA (up2 m k 0 z) f x g t → zOK y b nL ret d mc ms Post cu su pc' lv st t) : zOK y b nL ret d mc ms Post cu su pc lv (vI z :: vR (some x) :: st) t :=
  z_putI pc' hL h.1.1 h.1.2.1 hd hp (kk _ (h.putI hk.1 hk.2 z))
theorem r_iald (pc' k n : Nat) (h : RA m f x g t) {j : Int} (hk : k < 36 ∧ zTg 4 k = 2 ∧ rkd k = 6 ∧ rln k = n ∧ n ≤ 2147483647) (hj : 0 ≤ j ∧ j < n) (hd : decode b pc = .ok (.iaload, 1)) (hp : pc + 1 = pc') (kk : zOK y b nL ret d mc ms Post cu su pc' lv (vI (m k j) :: st) t) : zOK y b nL ret d mc ms Post cu su pc lv (vI j :: vR (some (g k)) :: st) t := by
  obtain ⟨h1, h2, h3, h4⟩ := h.1.2.2.1 k hk.1 hk.2.1
  refine z_iald pc' n h2 (h3.trans hk.2.2.1) (h4.trans hk.2.2.2.1) (Nat.ble_eq_true_of_le hk.2.2.2.2) hj hd hp ?_
  rw [h.2.2.1 k hk.1 hk.2.1 (by rw [hk.2.2.1]; decide) j]
  exact kk
theorem r_bald (pc' k n : Nat) (h : RA m f x g t) {j : Int} (hk : k < 36 ∧ zTg 4 k = 2 ∧ rkd k = 7 ∧ rln k = n ∧ n ≤ 2147483647) (hj : 0 ≤ j ∧ j < n) (hd : decode b pc = .ok (.baload, 1)) (hp : pc + 1 = pc') (kk : zOK y b nL ret d mc ms Post cu su pc' lv (vI (m k j) :: st) t) : zOK y b nL ret d mc ms Post cu su pc lv (vI j :: vR (some (g k)) :: st) t := by
  obtain ⟨h1, h2, h3, h4⟩ := h.1.2.2.1 k hk.1 hk.2.1
  refine z_bald pc' n h2 (h3.trans hk.2.2.1) (h4.trans hk.2.2.2.1) (Nat.ble_eq_true_of_le hk.2.2.2.2) hj hd hp ?_
  rw [h.2.2.1 k hk.1 hk.2.1 (by rw [hk.2.2.1]; decide) j]
  exact kk
theorem r_fald (pc' k n : Nat) (h : RA m f x g t) {j : Int} (hk : k < 36 ∧ zTg 4 k = 2 ∧ rkd k = 5 ∧ rln k = n ∧ n ≤ 2147483647) (hj : 0 ≤ j ∧ j < n) (hd : decode b pc = .ok (.faload, 1)) (hp : pc + 1 = pc') (kk : zOK y b nL ret d mc ms Post cu su pc' lv (vF (f k j) :: st) t) : zOK y b nL ret d mc ms Post cu su pc lv (vI j :: vR (some (g k)) :: st) t := by
  obtain ⟨h1, h2, h3, h4⟩ := h.1.2.2.1 k hk.1 hk.2.1
  refine z_fald pc' n h2 (h3.trans hk.2.2.1) (h4.trans hk.2.2.2.1) (Nat.ble_eq_true_of_le hk.2.2.2.2) hj hd hp ?_
  rw [h.2.2.2 k hk.1 hk.2.1 hk.2.2.1 j]
  exact kk
theorem r_iast (pc' k n : Nat) (h : RA m f x g t) {j z : Int} (hk : k < 36 ∧ zTg 4 k = 2 ∧ rkd k = 6 ∧ rln k = n ∧ n ≤ 2147483647) (hj : 0 ≤ j ∧ j < n) (hd : decode b pc = .ok (.iastore, 1)) (hp : pc + 1 = pc') (kk : ∀ t, RA (up2 m k j z) f x g t → zOK y b nL ret d mc ms Post cu su pc' lv st t) : zOK y b nL ret d mc ms Post cu su pc lv (vI z :: vI j :: vR (some (g k)) :: st) t := by
  obtain ⟨h1, h2, h3, h4⟩ := h.1.2.2.1 k hk.1 hk.2.1
  exact z_iast pc' n h2 (h3.trans hk.2.2.1) (h4.trans hk.2.2.2.1) (Nat.ble_eq_true_of_le hk.2.2.2.2) hj hd hp (kk _ (h.ast hk.1 hk.2.1 j z))
theorem r_bast (pc' k n : Nat) (h : RA m f x g t) {j z : Int} (hk : k < 36 ∧ zTg 4 k = 2 ∧ rkd k = 7 ∧ rln k = n ∧ n ≤ 2147483647) (hj : 0 ≤ j ∧ j < n) (hz : z = 0 ∨ z = 1) (hd : decode b pc = .ok (.bastore, 1)) (hp : pc + 1 = pc') (kk : ∀ t, RA (up2 m k j z) f x g t → zOK y b nL ret d mc ms Post cu su pc' lv st t) : zOK y b nL ret d mc ms Post cu su pc lv (vI z :: vI j :: vR (some (g k)) :: st) t := by
  obtain ⟨h1, h2, h3, h4⟩ := h.1.2.2.1 k hk.1 hk.2.1
  exact z_bast pc' n h2 (h3.trans hk.2.2.1) (h4.trans hk.2.2.2.1) (Nat.ble_eq_true_of_le hk.2.2.2.2) hj hz hd hp (kk _ (h.ast hk.1 hk.2.1 j z))
theorem r_fast (pc' k n : Nat) (h : RA m f x g t) {j : Int} {z : UInt32} (hk : k < 36 ∧ zTg 4 k = 2 ∧ rkd k = 5 ∧ rln k = n ∧ n ≤ 2147483647) (hj : 0 ≤ j ∧ j < n) (hd : decode b pc = .ok (.fastore, 1)) (hp : pc + 1 = pc') (kk : ∀ t, RA m (up2 f k j z) x g t → zOK y b nL ret d mc ms Post cu su pc' lv st t) : zOK y b nL ret d mc ms Post cu su pc lv (vF z :: vI j :: vR (some (g k)) :: st) t := by
  obtain ⟨h1, h2, h3, h4⟩ := h.1.2.2.1 k hk.1 hk.2.1
  exact z_fast pc' n h2 (h3.trans hk.2.2.1) (h4.trans hk.2.2.2.1) (Nat.ble_eq_true_of_le hk.2.2.2.2) hj hd hp (kk _ (h.fst hk.1 hk.2.1 j z))
theorem rk1 : 1 < 36 ∧ zTg 4 1 = 2 ∧ rkd 1 = 6 ∧ rln 1 = 120 ∧ 120 ≤ 2147483647 := by decide
theorem rk2 : 2 < 36 ∧ zTg 4 2 = 2 ∧ rkd 2 = 6 ∧ rln 2 = 120 ∧ 120 ≤ 2147483647 := by decide
theorem rk3 : 3 < 36 ∧ zTg 4 3 = 2 ∧ rkd 3 = 6 ∧ rln 3 = 120 ∧ 120 ≤ 2147483647 := by decide
theorem rk4 : 4 < 36 ∧ zTg 4 4 = 2 ∧ rkd 4 = 6 ∧ rln 4 = 120 ∧ 120 ≤ 2147483647 := by decide
theorem rk5 : 5 < 36 ∧ zTg 4 5 = 2 ∧ rkd 5 = 5 ∧ rln 5 = 120 ∧ 120 ≤ 2147483647 := by decide
theorem rk6 : 6 < 36 ∧ zTg 4 6 = 2 ∧ rkd 6 = 6 ∧ rln 6 = 120 ∧ 120 ≤ 2147483647 := by decide
theorem rk7 : 7 < 36 ∧ zTg 4 7 = 2 ∧ rkd 7 = 6 ∧ rln 7 = 1080 ∧ 1080 ≤ 2147483647 := by decide
theorem rk8 : 8 < 36 ∧ zTg 4 8 = 2 ∧ rkd 8 = 6 ∧ rln 8 = 120 ∧ 120 ≤ 2147483647 := by decide
theorem rk9 : 9 < 36 ∧ zTg 4 9 = 2 ∧ rkd 9 = 6 ∧ rln 9 = 120 ∧ 120 ≤ 2147483647 := by decide
theorem rk10 : 10 < 36 ∧ zTg 4 10 = 2 ∧ rkd 10 = 6 ∧ rln 10 = 120 ∧ 120 ≤ 2147483647 := by decide
theorem rk11 : 11 < 36 ∧ zTg 4 11 = 2 ∧ rkd 11 = 7 ∧ rln 11 = 960 ∧ 960 ≤ 2147483647 := by decide
theorem rk12 : 12 < 36 ∧ zTg 4 12 = 2 ∧ rkd 12 = 6 ∧ rln 12 = 960 ∧ 960 ≤ 2147483647 := by decide
theorem rk13 : 13 < 36 ∧ zTg 4 13 = 2 ∧ rkd 13 = 6 ∧ rln 13 = 960 ∧ 960 ≤ 2147483647 := by decide
theorem rk14 : 14 < 36 ∧ zTg 4 14 = 2 ∧ rkd 14 = 5 ∧ rln 14 = 960 ∧ 960 ≤ 2147483647 := by decide
theorem rk16 : 16 < 36 ∧ zTg 4 16 = 2 ∧ rkd 16 = 6 ∧ rln 16 = 9 ∧ 9 ≤ 2147483647 := by decide
theorem rk17 : 17 < 36 ∧ zTg 4 17 = 2 ∧ rkd 17 = 6 ∧ rln 17 = 6 ∧ 6 ≤ 2147483647 := by decide
theorem rk19 : 19 < 36 ∧ zTg 4 19 = 2 ∧ rkd 19 = 6 ∧ rln 19 = 6 ∧ 6 ≤ 2147483647 := by decide
theorem rk20 : 20 < 36 ∧ zTg 4 20 = 2 ∧ rkd 20 = 5 ∧ rln 20 = 6 ∧ 6 ≤ 2147483647 := by decide
theorem rk21 : 21 < 36 ∧ zTg 4 21 = 2 ∧ rkd 21 = 6 ∧ rln 21 = 6 ∧ 6 ≤ 2147483647 := by decide
theorem rk22 : 22 < 36 ∧ zTg 4 22 = 2 ∧ rkd 22 = 6 ∧ rln 22 = 6 ∧ 6 ≤ 2147483647 := by decide
theorem rk24 : 24 < 36 ∧ zTg 4 24 = 2 ∧ rkd 24 = 6 ∧ rln 24 = 10 ∧ 10 ≤ 2147483647 := by decide
theorem rk25 : 25 < 36 ∧ zTg 4 25 = 2 ∧ rkd 25 = 6 ∧ rln 25 = 120 ∧ 120 ≤ 2147483647 := by decide
theorem rk26 : 26 < 36 ∧ zTg 4 26 = 2 ∧ rkd 26 = 7 ∧ rln 26 = 8 ∧ 8 ≤ 2147483647 := by decide
theorem rk27 : 27 < 36 ∧ zTg 4 27 = 2 ∧ rkd 27 = 6 ∧ rln 27 = 8 ∧ 8 ≤ 2147483647 := by decide
theorem rk28 : 28 < 36 ∧ zTg 4 28 = 2 ∧ rkd 28 = 6 ∧ rln 28 = 8 ∧ 8 ≤ 2147483647 := by decide
theorem rk29 : 29 < 36 ∧ zTg 4 29 = 2 ∧ rkd 29 = 5 ∧ rln 29 = 8 ∧ 8 ≤ 2147483647 := by decide
theorem rk30 : 30 < 36 ∧ zTg 4 30 = 2 ∧ rkd 30 = 6 ∧ rln 30 = 120 ∧ 120 ≤ 2147483647 := by decide
theorem rk31 : 31 < 36 ∧ zTg 4 31 = 2 ∧ rkd 31 = 5 ∧ rln 31 = 120 ∧ 120 ≤ 2147483647 := by decide
theorem rk33 : 33 < 36 ∧ zTg 4 33 = 2 ∧ rkd 33 = 7 ∧ rln 33 = 2001 ∧ 2001 ≤ 2147483647 := by decide
theorem rk34 : 34 < 36 ∧ zTg 4 34 = 2 ∧ rkd 34 = 5 ∧ rln 34 = 12006 ∧ 12006 ≤ 2147483647 := by decide
theorem rk35 : 35 < 36 ∧ zTg 4 35 = 2 ∧ rkd 35 = 6 ∧ rln 35 = 6 ∧ 6 ≤ 2147483647 := by decide
end RR

section RRe
variable {m : Nat → Int → Int} {f : Nat → Int → UInt32} {x : Nat} {g : Nat → Nat} {t : zT} {y : MethodName} {b : ByteArray} {nL : Nat} {ret : Option FieldType} {d mc ms : Nat} {Post : Option zV → zT → Prop} {cu su pc : Nat} {lv : List (Nat × zV)} {st : List zV}
theorem r_getIe (pc' : Nat) (h : RA m f x g t) {k idx : Nat} {fin : Bool} {z : Int} (hL : zFL y.cls idx 4 k 0 fin) (hk : k < 36 ∧ zTg 4 k = 0) (hz : m k 0 = z) (hd : decode b pc = .ok (.getfield idx, 3)) (hp : pc + 3 = pc') (kk : zOK y b nL ret d mc ms Post cu su pc' lv (vI z :: st) t) : zOK y b nL ret d mc ms Post cu su pc lv (vR (some x) :: st) t :=
  r_getI pc' h hL hk hd hp (by rw [hz]; exact kk)
theorem r_ialde (pc' k n : Nat) (h : RA m f x g t) {j z : Int} (hk : k < 36 ∧ zTg 4 k = 2 ∧ rkd k = 6 ∧ rln k = n ∧ n ≤ 2147483647) (hj : 0 ≤ j ∧ j < n) (hz : m k j = z) (hd : decode b pc = .ok (.iaload, 1)) (hp : pc + 1 = pc') (kk : zOK y b nL ret d mc ms Post cu su pc' lv (vI z :: st) t) : zOK y b nL ret d mc ms Post cu su pc lv (vI j :: vR (some (g k)) :: st) t :=
  r_iald pc' k n h hk hj hd hp (by rw [hz]; exact kk)
theorem r_balde (pc' k n : Nat) (h : RA m f x g t) {j z : Int} (hk : k < 36 ∧ zTg 4 k = 2 ∧ rkd k = 7 ∧ rln k = n ∧ n ≤ 2147483647) (hj : 0 ≤ j ∧ j < n) (hz : m k j = z) (hd : decode b pc = .ok (.baload, 1)) (hp : pc + 1 = pc') (kk : zOK y b nL ret d mc ms Post cu su pc' lv (vI z :: st) t) : zOK y b nL ret d mc ms Post cu su pc lv (vI j :: vR (some (g k)) :: st) t :=
  r_bald pc' k n h hk hj hd hp (by rw [hz]; exact kk)
theorem r_falde (pc' k n : Nat) (h : RA m f x g t) {j : Int} {z : UInt32} (hk : k < 36 ∧ zTg 4 k = 2 ∧ rkd k = 5 ∧ rln k = n ∧ n ≤ 2147483647) (hj : 0 ≤ j ∧ j < n) (hz : f k j = z) (hd : decode b pc = .ok (.faload, 1)) (hp : pc + 1 = pc') (kk : zOK y b nL ret d mc ms Post cu su pc' lv (vF z :: st) t) : zOK y b nL ret d mc ms Post cu su pc lv (vI j :: vR (some (g k)) :: st) t :=
  r_fald pc' k n h hk hj hd hp (by rw [hz]; exact kk)
end RRe
theorem RA_if {c : Prop} {m1 m2 : Nat → Int → Int} {f : Nat → Int → UInt32} {x : Nat} {g : Nat → Nat} {t : zT} (h1 : c → RA m1 f x g t) (h2 : ¬ c → RA m2 f x g t) : RA (@ite _ c (Classical.propDecidable c) m1 m2) f x g t := by
  by_cases h : c
  · rw [if_pos h]; exact h1 h
  · rw [if_neg h]; exact h2 h
theorem RA_if2 {c : Prop} {s1 s2 : (Nat → Int → Int) × (Nat → Int → UInt32)} {x : Nat} {g : Nat → Nat} {t : zT} (h1 : c → RA s1.1 s1.2 x g t) (h2 : ¬ c → RA s2.1 s2.2 x g t) : RA (@ite _ c (Classical.propDecidable c) s1 s2).1 (@ite _ c (Classical.propDecidable c) s1 s2).2 x g t := by
  by_cases h : c
  · rw [if_pos h]; exact h1 h
  · rw [if_neg h]; exact h2 h
