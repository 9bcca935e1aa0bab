/-! BOTH SIDES TOGETHER: one state for the class and the reference -/
def J (x y : Nat) (t : zT) : Prop := ∃ (M : Nat → Int → Int) (F : Nat → Int → UInt32) (g : Nat → Nat) (a : Nat → Int → Nat) (tC tR : zT), t = glue tC tR ∧ RA M F y g tR ∧ CA M F a tC ∧ XI M F ∧ WG M F ∧ a 0 0 = x ∧ ∀ q, q ∈ tL tC → q ∉ tL tR
def jM (m1 m2 : Nat → Int → Int) : Nat → Int → Int := fun k => if k = 22 ∨ (25 ≤ k ∧ k < 36) then m1 k else m2 k
def jF (f1 f2 : Nat → Int → UInt32) : Nat → Int → UInt32 := fun k => if k < 36 then f1 k else f2 k
theorem ctab_m : ∀ K, K < 80 → (cTab K).1 = 0 ∨ (cTab K).1 = 2 ∨ K = 60 ∨ K = 62 ∨ K = 64 ∨ K = 6 → ¬ (K = 22 ∨ (25 ≤ K ∧ K < 36)) := by decide +kernel
theorem ctab_f : ∀ K, K < 80 → (cTab K).1 = 1 → K < 25 ∨ 36 ≤ K := by decide +kernel
theorem xsl_m : ∀ K, K < 80 → xsl K = true → K = 22 ∨ ¬ (K = 22 ∨ (25 ≤ K ∧ K < 36)) := by decide +kernel
theorem xsl_f : ∀ K, K < 80 → xslf K = true → K < 25 ∨ 36 ≤ K := by decide +kernel
theorem J.join {S : zS} {x y : Nat} {t1 t2 : zT} {g : Nat → Nat} (hC : CP x S t1) (hR : ∃ m1 f1, RA m1 f1 y g t2 ∧ eqs S.1 m1 S.2 f1) (hW : WG S.1 S.2) (hD : ∀ q, q ∈ tL t1 → q ∉ tL t2) : J x y (glue t1 t2) := by
  obtain ⟨m2, f2, a2, hx, hCA, hX, e2⟩ := hC
  obtain ⟨m1, f1, hRA, e1⟩ := hR
  have mo : ∀ k, ¬ (k = 22 ∨ (25 ≤ k ∧ k < 36)) → jM m1 m2 k = m2 k := fun k hk => if_neg hk
  have ms : ∀ k, k < 36 → jM m1 m2 k = m1 k := fun k hk => by
    by_cases c : k = 22 ∨ (25 ≤ k ∧ k < 36)
    · exact if_pos c
    · rw [mo k c]
      funext j
      rw [e1.1 k (by omega) (by omega) j, e2.1 k (by omega) (by omega) j]
  have fs : ∀ k, k < 36 → jF f1 f2 k = f1 k := fun k hk => if_pos hk
  have fo : ∀ k, k < 25 ∨ 36 ≤ k → jF f1 f2 k = f2 k := fun k hk => by
    by_cases c : k < 36
    · rw [fs k c]
      funext j
      rw [e1.2.2 k (by omega) j, e2.2.2 k (by omega) j]
    · exact if_neg c
  have e : eqs S.1 (jM m1 m2) S.2 (jF f1 f2) := ⟨fun k hk h22 j => by rw [ms k (by omega)]; exact e1.1 k hk h22 j, fun o o0 o1 o2 => by rw [ms 22 (by decide)]; exact e1.2.1 o o0 o1 o2, fun k hk j => by rw [fs k (by omega)]; exact e1.2.2 k hk j⟩
  refine ⟨jM m1 m2, jF f1 f2, g, a2, t1, t2, rfl, ?_, ?_, ?_, hW.keqs e, hx, hD⟩
  · obtain ⟨r1, r2, r3, r4⟩ := hRA
    refine ⟨r1, fun k hk h2 => ?_, fun k hk h2 h5 j => ?_, fun k hk h2 h5 j => ?_⟩
    · rw [ms k hk]; exact r2 k hk h2
    · rw [ms k hk]; exact r3 k hk h2 h5 j
    · rw [fs k hk]; exact r4 k hk h2 h5 j
  · exact hCA.congr (fun K hK h i => congrFun (mo K (ctab_m K hK h)) i) (fun K hK h i => congrFun (fo K (ctab_f K hK h)) i)
  · have hX2 : XI (fun k => if k = 22 then m2 22 else jM m1 m2 k) (jF f1 f2) := hX.cong (fun k hk hs => by
      show (if k = 22 then m2 22 else jM m1 m2 k) = m2 k
      by_cases c : k = 22
      · rw [if_pos c, c]
      · rw [if_neg c]; exact mo k ((xsl_m k hk hs).resolve_left c)) (fun k hk hs => fo k (xsl_f k hk hs))
    obtain ⟨x1, x2, x3, x4, x5, x6, x7⟩ := hX2
    have hw : wt (fun k => if k = 22 then m2 22 else jM m1 m2 k) = wt (jM m1 m2) := wt_cong rfl rfl rfl rfl
    refine ⟨x1, x2, x3, x4, x5, fun p p0 p1 => ?_, fun o o0 o1 o2 => ?_⟩
    · have h := x6 p p0 p1
      unfold XP at h ⊢
      rw [hw] at h
      exact h
    · have h : jM m1 m2 48 o = m2 22 o := x7 o o0 o1 o2
      rw [h, ms 22 (by decide)]
      have o1' : o < S.1 18 0 := by rw [ms 18 (by decide)] at o1; rw [← e1.1 18 (by decide) (by decide) 0]; exact o1
      have o2' : 0 ≤ S.1 21 o := by rw [ms 21 (by decide)] at o2; rw [← e1.1 21 (by decide) (by decide) o]; exact o2
      rw [e1.2.1 o o0 o1' o2', e2.2.1 o o0 o1' o2']
def ze : zT := ([], fun _ => 0, fun _ => 0, fun _ _ => 0, fun _ _ => 0, fun _ _ => none)
theorem glue_new {t : zT} {q kd n : Nat} : sA t q kd n = glue t (sA ze q kd n) := by
  have hm : ∀ b, b ∈ tL (sA ze q kd n) ↔ b = q := fun b => List.mem_singleton
  have g : ∀ {α : Type} (f : Nat → α) (h : Nat → α) (v : α), up1 f q v = fun b => if b ∈ tL (sA ze q kd n) then up1 h q v b else f b := fun f h v => by
    funext b
    unfold up1
    by_cases c : b = q
    · rw [if_pos c, if_pos ((hm b).mpr c), if_pos c]
    · rw [if_neg c, if_neg (fun z => c ((hm b).mp z))]
  unfold glue
  show (tL t ++ [q], up1 (tK t) q kd, up1 (tN t) q n, up1 (tI t) q (fun _ => 0), up1 (tF t) q (fun _ => 0), up1 (tP t) q (fun _ => none)) = _
  rw [g (tK t) (tK ze) kd, g (tN t) (tN ze) n, g (tI t) (tI ze) (fun _ => 0), g (tF t) (tF ze) (fun _ => 0), g (tP t) (tP ze) (fun _ => none)]
  rfl
