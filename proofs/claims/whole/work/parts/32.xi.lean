/-! WHAT THE CLASS KEEPS BESIDE: XI ties its own slots to the reference's -/
def XP (m : Nat → Int → Int) (f : Nat → Int → UInt32) (p : Int) : Prop :=
  m 56 p = p ∧ m 50 p = wt m p ∧ (m 1 p = 0 → f 51 p = f 5 p) ∧ (m 1 p = 4 → f 51 p = FP.fmul (f 5 p) 1056964608) ∧ (m 1 p = 5 → m 55 p = m 2 (m 7 (9 * p)) - m 9 p) ∧
  ∀ i, 0 ≤ i → i < m 10 p → -1 ≤ m 54 (8 * p + i) ∧ m 54 (8 * p + i) ≤ 8 ∧ (m 11 (8 * p + i) = 1 ↔ 0 ≤ m 54 (8 * p + i)) ∧ (m 11 (8 * p + i) = 1 → m 52 (8 * p + i) = m 12 (8 * p + i) ∧ m 53 (8 * p + i) = m 13 (8 * p + i) ∧ f 14 (8 * p + i) = E8 (m 54 (8 * p + i)))
def XI (m : Nat → Int → Int) (f : Nat → Int → UInt32) : Prop :=
  (m 60 0 = m 0 0 ∧ m 62 0 = m 18 0 ∧ m 64 0 = 6) ∧
  (∀ i, 0 ≤ i → i < 120 → m 61 i = if i < m 0 0 then i else -1) ∧
  (∀ i, 0 ≤ i → i < 6 → m 63 i = if i < m 18 0 then i else -1) ∧
  (∀ r, 0 ≤ r → r < 6 → m 65 r = r) ∧
  (∀ i, 0 ≤ i → i < m 15 0 → m 49 i = m 16 i) ∧
  (∀ p, 0 ≤ p → p < m 0 0 → XP m f p) ∧
  (∀ o, 0 ≤ o → o < m 18 0 → 0 ≤ m 21 o → m 48 o = m 22 o)
/-- a contract by its body, where arguments may be null -/
def zargs : Nat → List zV → List (Nat × zV)
  | _, [] => []
  | i, v :: l => (i, v) :: zargs (if vcat v = 2 then i + 2 else i + 1) l
theorem zargs_eq : ∀ (l : List zV) (i : Nat), lv_args i (l.map rv) = zlv (zargs i l)
  | [], _ => rfl
  | v :: l, i => by
    show (i, rv v) :: lv_args (if (rv v).category = 2 then i + 2 else i + 1) (l.map rv) = (i, rv v) :: zlv (zargs (if vcat v = 2 then i + 2 else i + 1) l)
    rw [rv_cat, zargs_eq l]
theorem vcat_12 (v : zV) : vcat v = 1 ∨ vcat v = 2 := by
  rcases v with z | z | z | z | z
  · exact Or.inl rfl
  · exact Or.inr rfl
  · exact Or.inl rfl
  · exact Or.inr rfl
  · exact Or.inl rfl
theorem zsl_eq : ∀ (l : List zV), (lg_sl (l.map rv)).length = zcs l
  | [] => rfl
  | v :: l => by
    have h : lg_sl ((v :: l).map rv) = (if (rv v).category = 2 then [Slot.val (rv v), Slot.second] else [Slot.val (rv v)]) ++ lg_sl (l.map rv) := rfl
    have h2 : zcs (v :: l) = vcat v + zcs l := by unfold zcs; simp
    rw [h, List.length_append, zsl_eq l, h2, rv_cat]
    rcases vcat_12 v with e | e <;> rw [e] <;> rfl
theorem zM.of2 {y : MethodName} {b : ByteArray} {nL : Nat} {ret : Option FieldType} {d mc ms : Nat} {as : List zV} {t : zT} {Post : Option zV → zT → Prop} (lv : List (Nat × zV)) (hy : plainName y.cls = true) (hl : zargs 0 as = lv) (hn : zcs as ≤ nL) (h : zOK y b nL ret d mc ms Post 0 0 0 lv [] t) : zM y b nL ret d mc ms as t Post := by
  subst hl
  exact zM.of _ hy (zargs_eq as 0) (by rw [zsl_eq]; exact hn) h
section XX
variable {m m1 : Nat → Int → Int} {f f1 : Nat → Int → UInt32} {a : Nat → Int → Nat} {t : zT}
theorem XI.pc (h : XI m f) {p : Int} (h0 : 0 ≤ p) (h1 : p < m 0 0) (h2 : m 0 0 ≤ 120) : m 61 p = p := (h.2.1 p h0 (by omega)).trans (if_pos h1)
theorem XI.od (h : XI m f) {p : Int} (h0 : 0 ≤ p) (h1 : p < m 18 0) (h2 : m 18 0 ≤ 6) : m 63 p = p := (h.2.2.1 p h0 (by omega)).trans (if_pos h1)
theorem XI.rl (h : XI m f) {p : Int} (h0 : 0 ≤ p) (h1 : p < 6) : m 65 p = p := h.2.2.2.1 p h0 h1
theorem XI.pk (h : XI m f) {p : Int} (h0 : 0 ≤ p) (h1 : p < m 15 0) : m 49 p = m 16 p := h.2.2.2.2.1 p h0 h1
theorem XI.p (h : XI m f) {p : Int} (h0 : 0 ≤ p) (h1 : p < m 0 0) : XP m f p := h.2.2.2.2.2.1 p h0 h1
theorem XI.cut (h : XI m f) {o : Int} (h0 : 0 ≤ o) (h1 : o < m 18 0) (h2 : 0 ≤ m 21 o) : m 48 o = m 22 o := h.2.2.2.2.2.2 o h0 h1 h2
theorem wt_cong (e1 : m1 1 = m 1) (e2 : m1 2 = m 2) (e6 : m1 6 = m 6) (e7 : m1 7 = m 7) : wt m1 = wt m := by
  have hs : ∀ w q n, wsum m1 w q n = wsum m w q n := fun w q n => by
    induction n with
    | zero => rfl
    | succ n ih => unfold wsum; rw [ih, e7]
  have hg : ∀ w, wgt m1 w = wgt m w := fun w => by
    funext q; unfold wgt; rw [e1, e2, e6]; simp only [hs]
  have hf : ∀ n, wtf m1 n = wtf m n := fun n => by
    induction n with
    | zero => rfl
    | succ n ih => unfold wtf; rw [ih, hg]
  funext q; unfold wt; rw [hf]
def xsl (k : Nat) : Bool := k == 0 || k == 1 || k == 2 || k == 6 || k == 7 || (9 ≤ k && k ≤ 16) || k == 18 || k == 21 || k == 22 || (48 ≤ k && k ≤ 65)
def xslf (k : Nat) : Bool := k == 5 || k == 14 || k == 51
theorem XI.cong (h : XI m f) (e : ∀ k, k < 80 → xsl k = true → m1 k = m k) (ef : ∀ k, k < 80 → xslf k = true → f1 k = f k) : XI m1 f1 := by
  have q : ∀ k, k < 80 → xsl k = true → m1 k = m k := e
  have hw : wt m1 = wt m := wt_cong (q 1 (by decide) rfl) (q 2 (by decide) rfl) (q 6 (by decide) rfl) (q 7 (by decide) rfl)
  unfold XI XP
  rw [hw, q 0 (by decide) rfl, q 1 (by decide) rfl, q 2 (by decide) rfl, q 7 (by decide) rfl, q 9 (by decide) rfl, q 10 (by decide) rfl, q 11 (by decide) rfl, q 12 (by decide) rfl, q 13 (by decide) rfl, q 15 (by decide) rfl, q 16 (by decide) rfl, q 18 (by decide) rfl, q 21 (by decide) rfl, q 22 (by decide) rfl, q 48 (by decide) rfl, q 49 (by decide) rfl, q 50 (by decide) rfl, q 52 (by decide) rfl, q 53 (by decide) rfl, q 54 (by decide) rfl, q 55 (by decide) rfl, q 56 (by decide) rfl, q 60 (by decide) rfl, q 61 (by decide) rfl, q 62 (by decide) rfl, q 63 (by decide) rfl, q 64 (by decide) rfl, q 65 (by decide) rfl, ef 5 (by decide) rfl, ef 14 (by decide) rfl, ef 51 (by decide) rfl]
  exact h
theorem XI.up (h : XI m f) {k : Nat} (hk : xsl k = false) (j v : Int) : XI (up2 m k j v) f :=
  h.cong (fun i _ hi => funext fun j' => up2_a _ _ _ _ (fun e => by rw [e, hk] at hi; cases hi) _) (fun _ _ _ => rfl)
theorem XI.upf (h : XI m f) {k : Nat} (hk : xslf k = false) (j : Int) (v : UInt32) : XI m (up2 f k j v) :=
  h.cong (fun _ _ _ => rfl) (fun i _ hi => funext fun j' => up2_a _ _ _ _ (fun e => by rw [e, hk] at hi; cases hi) _)
/-- a slot that no object has -/
theorem CA.up (h : CA m f a t) {k : Nat} (hk : (cTab k).1 = 9 ∧ k ≠ 60 ∧ k ≠ 62 ∧ k ≠ 64 ∧ k ≠ 6) (j v : Int) : CA (up2 m k j v) f a t :=
  h.congr (fun K _ hK i => up2_a _ _ _ _ (fun e => by rw [e, hk.1] at hK; omega) _) (fun _ _ _ _ => rfl)
theorem CA.upf (h : CA m f a t) {k : Nat} (hk : (cTab k).1 ≠ 1) (j : Int) (v : UInt32) : CA m (up2 f k j v) a t :=
  h.congr (fun _ _ _ _ => rfl) (fun K _ hK i => up2_a _ _ _ _ (fun e => by rw [e] at hK; exact hk hK) _)
/-- THE CLASS AFTER A CALL: s what the reference's state is then -/
def CP (x : Nat) (s : zS) (t : zT) : Prop := ∃ m1 f1 a1, a1 0 0 = x ∧ CA m1 f1 a1 t ∧ XI m1 f1 ∧ eqs s.1 m1 s.2 f1
theorem CP.rf (h : CA m f a t) (hX : XI m f) : CP (a 0 0) (m, f) t := ⟨m, f, a, rfl, h, hX, eqs.rf⟩
theorem CP.of (h : CA m1 f1 a t) (hX : XI m1 f1) {s : zS} (e : eqs s.1 m1 s.2 f1) : CP (a 0 0) s t := ⟨m1, f1, a, rfl, h, hX, e⟩
theorem eqs_p {s : zS} (h : ∀ k, k < 25 → ∀ j, m1 k j = s.1 k j) (hf : ∀ k, k < 25 → ∀ j, f1 k j = s.2 k j) : eqs s.1 m1 s.2 f1 := ⟨fun k a _ j => h k a j, fun o _ _ _ => h 22 (by decide) o, hf⟩
end XX
