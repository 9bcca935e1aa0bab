/-- the spots kept aside: n of them -/
def aside (m m1 : Nat → Int → Int) (f f1 : Nat → Int → UInt32) (b n : Int) : Prop := ∀ j, 0 ≤ j → j < n → m1 26 j = m 11 (b + j) ∧ m1 27 j = m 12 (b + j) ∧ m1 28 j = m 13 (b + j) ∧ f1 29 j = f 14 (b + j)
def same (m m1 : Nat → Int → Int) (f f1 : Nat → Int → UInt32) : Prop := (∀ k, k < 25 → ∀ j, m1 k j = m k j) ∧ ∀ k, k < 25 → ∀ j, f1 k j = f k j
theorem cpm_0 (m : Nat → Int → Int) (p i o q : Int) : cpm m p i o q 0 = m := by
  funext k j; unfold cpm
  by_cases h : k = 11 ∨ k = 12 ∨ k = 13
  · rw [if_pos h]; unfold cpi; rw [if_neg (by omega)]
  · rw [if_neg h]
theorem cpmf_0 (f : Nat → Int → UInt32) (p i o q : Int) : cpmf f p i o q 0 = f := by
  funext k j; unfold cpmf
  by_cases h : k = 14
  · rw [if_pos h]; unfold cpf; rw [if_neg (by omega)]
  · rw [if_neg h]
theorem cpi_s {m : Nat → Int → Int} {k : Nat} {p i o q n j : Int} (hn : 0 ≤ n) : cpi m k p i o q (n + 1) j = if j = 8 * o + q + n then m k (8 * p + i + n) else cpi m k p i o q n j := by
  unfold cpi
  by_cases h : j = 8 * o + q + n
  · subst h; rw [if_pos (by omega), if_pos rfl]; congr 1; omega
  · rw [if_neg h]
    by_cases h2 : 8 * o + q ≤ j ∧ j < 8 * o + q + n
    · rw [if_pos h2, if_pos (by omega)]
    · rw [if_neg h2, if_neg (by omega)]
theorem cpf_s {f : Nat → Int → UInt32} {k : Nat} {p i o q n j : Int} (hn : 0 ≤ n) : cpf f k p i o q (n + 1) j = if j = 8 * o + q + n then f k (8 * p + i + n) else cpf f k p i o q n j := by
  unfold cpf
  by_cases h : j = 8 * o + q + n
  · subst h; rw [if_pos (by omega), if_pos rfl]; congr 1; omega
  · rw [if_neg h]
    by_cases h2 : 8 * o + q ≤ j ∧ j < 8 * o + q + n
    · rw [if_pos h2, if_pos (by omega)]
    · rw [if_neg h2, if_neg (by omega)]
theorem up_ite {α : Type} (m : Nat → Int → α) (k : Nat) (j v : Int) (w : α) : up2 m k j w k v = if v = j then w else m k v := by
  unfold up2
  by_cases h : v = j
  · rw [if_pos h, if_pos ⟨rfl, h⟩]
  · rw [if_neg h, if_neg (fun e => h e.2)]
/-- one more of them carried -/
theorem carry_s {m m2 : Nat → Int → Int} {f f2 : Nat → Int → UInt32} {p i o q n N : Int} (hn : 0 ≤ n) (h : same (cpm m p i o q n) m2 (cpmf f p i o q n) f2) (ha : aside m m2 f f2 (8 * p + i) N) (hN : n < N) :
    same (cpm m p i o q (n + 1)) (up2 (up2 (up2 m2 11 (8 * o + q + n) (m 11 (8 * p + i + n))) 12 (8 * o + q + n) (m 12 (8 * p + i + n))) 13 (8 * o + q + n) (m 13 (8 * p + i + n))) (cpmf f p i o q (n + 1)) (up2 f2 14 (8 * o + q + n) (f 14 (8 * p + i + n))) ∧
    aside m (up2 (up2 (up2 m2 11 (8 * o + q + n) (m 11 (8 * p + i + n))) 12 (8 * o + q + n) (m 12 (8 * p + i + n))) 13 (8 * o + q + n) (m 13 (8 * p + i + n))) f (up2 f2 14 (8 * o + q + n) (f 14 (8 * p + i + n))) (8 * p + i) N := by
  refine ⟨⟨fun k hk j => ?_, fun k hk j => ?_⟩, fun j j0 j1 => ?_⟩
  · by_cases h11 : k = 11
    · subst h11
      rw [up2_a _ _ _ _ (by decide), up2_a _ _ _ _ (by decide), up_ite, h.1 11 (by decide)]
      show _ = cpi m 11 p i o q (n + 1) j
      rw [cpi_s hn]; rfl
    · by_cases h12 : k = 12
      · subst h12
        rw [up2_a _ _ _ _ (by decide), up_ite, up2_a _ _ _ _ (by decide), h.1 12 (by decide)]
        show _ = cpi m 12 p i o q (n + 1) j
        rw [cpi_s hn]; rfl
      · by_cases h13 : k = 13
        · subst h13
          rw [up_ite, up2_a _ _ _ _ (by decide), up2_a _ _ _ _ (by decide), h.1 13 (by decide)]
          show _ = cpi m 13 p i o q (n + 1) j
          rw [cpi_s hn]; rfl
        · rw [up2_a _ _ _ _ (by omega), up2_a _ _ _ _ (by omega), up2_a _ _ _ _ (by omega), h.1 k hk]
          unfold cpm
          rw [if_neg (by omega), if_neg (by omega)]
  · by_cases h14 : k = 14
    · subst h14
      rw [up_ite, h.2 14 (by decide)]
      show _ = cpf f 14 p i o q (n + 1) j
      rw [cpf_s hn]; rfl
    · rw [up2_a _ _ _ _ (by omega), h.2 k hk]
      unfold cpmf
      rw [if_neg (by omega), if_neg (by omega)]
  · obtain ⟨a1, a2, a3, a4⟩ := ha j j0 j1
    rw [up2_a _ _ _ _ (by decide), up2_a _ _ _ _ (by decide), up2_a _ _ _ _ (by decide), up2_a _ _ _ _ (by decide), up2_a _ _ _ _ (by decide), up2_a _ _ _ _ (by decide), up2_a _ _ _ _ (by decide), up2_a _ _ _ _ (by decide), up2_a _ _ _ _ (by decide), up2_a _ _ _ _ (by decide)]
    exact ⟨a1, a2, a3, a4⟩
theorem aside_s {m m1 : Nat → Int → Int} {f f1 : Nat → Int → UInt32} {b n : Int} (hn : 0 ≤ n) (h : same m m1 f f1) (ha : aside m m1 f f1 b n) :
    same m (up2 (up2 (up2 m1 26 n (m 11 (b + n))) 27 n (m 12 (b + n))) 28 n (m 13 (b + n))) f (up2 f1 29 n (f 14 (b + n))) ∧
    aside m (up2 (up2 (up2 m1 26 n (m 11 (b + n))) 27 n (m 12 (b + n))) 28 n (m 13 (b + n))) f (up2 f1 29 n (f 14 (b + n))) b (n + 1) := by
  refine ⟨⟨fun k hk j => ?_, fun k hk j => ?_⟩, fun j j0 j1 => ?_⟩
  · rw [up2_a _ _ _ _ (by omega), up2_a _ _ _ _ (by omega), up2_a _ _ _ _ (by omega), h.1 k hk]
  · rw [up2_a _ _ _ _ (by omega), h.2 k hk]
  · rw [up_ite, up_ite, up2_a _ _ _ _ (by decide), up2_a _ _ _ _ (by decide), up_ite, up2_a _ _ _ _ (by decide), up_ite, up2_a _ _ _ _ (by decide)]
    by_cases hj : j = n
    · subst hj; simp only [if_true, and_self]
    · simp only [if_neg hj]; exact ha j j0 (by omega)
theorem same.eqs {m m1 : Nat → Int → Int} {f f1 : Nat → Int → UInt32} (h : same m m1 f f1) : eqs m m1 f f1 := ⟨fun k hk _ j => h.1 k hk j, fun o _ _ _ => h.1 22 (by decide) o, h.2⟩
/-- what is carried is told or not -/
theorem cpm_01 {m : Nat → Int → Int} {f : Nat → Int → UInt32} (hW : WF m f) {p i o q n j : Int} (hp : 0 ≤ p ∧ p < m 0 0) (ho : 0 ≤ o ∧ o < m 0 0) (hi : 0 ≤ i) (hq : 0 ≤ q) (h1 : i + n ≤ m 10 p) (h2 : q + n ≤ m 10 o) (hj : 0 ≤ j) (hj2 : j < m 10 o) : 0 ≤ cpm m p i o q n 11 (8 * o + j) ∧ cpm m p i o q n 11 (8 * o + j) ≤ 1 := by
  show 0 ≤ cpi m 11 p i o q n (8 * o + j) ∧ cpi m 11 p i o q n (8 * o + j) ≤ 1
  unfold cpi
  by_cases h : 8 * o + q ≤ 8 * o + j ∧ 8 * o + j < 8 * o + q + n
  · rw [if_pos h]
    have e := (hW.2.1 p hp.1 hp.2).2.2.2.2.2.1 (i + (j - q)) (by omega) (by omega)
    rw [show 8 * p + i + (8 * o + j - (8 * o + q)) = 8 * p + (i + (j - q)) by omega]
    exact ⟨e.1, e.2.1⟩
  · rw [if_neg h]
    have e := (hW.2.1 o ho.1 ho.2).2.2.2.2.2.1 j hj hj2
    exact ⟨e.1, e.2.1⟩
set_option maxRecDepth 20000 in
theorem r_carry {m : Nat → Int → Int} {f : Nat → Int → UInt32} {x : Nat} {g : Nat → Nat} {t : zT} (hR : RA m f x g t) {p : Int} (hp : zi p) {i : Int} (hi : zi i) {o : Int} (ho : zi o) {k : Int} (hk : zi k) {n : Int} (hn : zi n) (hW : WF m f) : zM yX4_carry cX4_carry 8 (some .int) 2 0 0 [vR (some x), vI p, vI i, vI o, vI k, vI n] t (fun r t1 => r = some (vI (a_car m p i o k n)) ∧ ∃ m1 f1, RA m1 f1 x g t1 ∧ eqs (s_car m f p i o k n).1 m1 (s_car m f p i o k n).2 f1) := by
  refine zM.of [(0, vR (some x)), (1, vI p), (2, vI i), (3, vI o), (4, vI k), (5, vI n)] (by decide +kernel) rfl (Nat.le_of_ble_eq_true rfl) ?_
  obtain ⟨hp1, hp2⟩ := hp
  obtain ⟨hi1, hi2⟩ := hi
  obtain ⟨ho1, ho2⟩ := ho
  obtain ⟨hk1, hk2⟩ := hk
  obtain ⟨hn1, hn2⟩ := hn
  have hn1 := hW.n.1
  have hn2 := hW.n.2
  have L264 : ∀ (fuel : Nat) (j : Nat) (m1 : Nat → Int → Int) (f1 : Nat → Int → UInt32) (t : zT) (hR : RA m1 f1 x g t) (he : same (cpm m p i o k n) m1 (cpmf f p i o k n) f1) (hj : (j : Int) ≤ m 10 o) (hq : (0 ≤ p ∧ p < m 0 0 ∧ m 4 p ≠ 3) ∧ (0 ≤ o ∧ o < m 0 0 ∧ m 4 o ≠ 3) ∧ 0 ≤ m 10 p ∧ 0 ≤ m 10 o ∧ 0 ≤ i ∧ 0 ≤ k ∧ 0 ≤ n ∧ n ≤ 8 ∧ i + n ≤ m 10 p ∧ k + n ≤ m 10 o) (hf : m 10 o - j < (fuel : Int)), zOK yX4_carry cX4_carry 8 (some .int) 2 0 0 (fun r t1 => r = some (vI (a_car m p i o k n)) ∧ ∃ m1 f1, RA m1 f1 x g t1 ∧ eqs (s_car m f p i o k n).1 m1 (s_car m f p i o k n).2 f1) 0 0 264 [(7, vI (j : Int)), (6, vI (told (cpm m p i o k n) o j)), (0, vR (some x)), (1, vI p), (2, vI i), (3, vI o), (4, vI k), (5, vI n)] [] t := by
    intro fuel
    induction fuel with
    | zero => intro j m1 f1 t hR he hj hq hf; exfalso; omega
    | succ fuel ih264 =>
      intro j m1 f1 t hR he hj hq hf
      have hbp := hW.b hq.1.1 hq.1.2.1
      have hbo := hW.b hq.2.1.1 hq.2.1.2.1
      have h01 := fun (h : (j : Int) < m 10 o) => cpm_01 hW (n := n) ⟨hq.1.1, hq.1.2.1⟩ ⟨hq.2.1.1, hq.2.1.2.1⟩ hq.2.2.2.2.1 hq.2.2.2.2.2.1 (by omega) (by omega) (show (0 : Int) ≤ j by omega) h
      refine z_iload 266 dX4_carry_264 rfl rfl ?_
      refine z_aload_n 267 dX4_carry_266 rfl rfl ?_
      refine r_getP 270 hR fl_X4_38 (by decide) dX4_carry_267 rfl ?_
      refine z_iload_n 271 dX4_carry_270 rfl rfl ?_
      refine r_ialde 272 10 120 hR rk10 ⟨by omega, by omega⟩ (show _ = m 10 _ from he.1 10 (by decide) _) dX4_carry_271 rfl ?_
      refine z_icmp_ge 306 275 dX4_carry_272 (by decide) rfl ⟨by omega, by omega⟩ ⟨by omega, by omega⟩ (fun h272 => ?_) (fun h272 => ?_)
      · refine z_iload 308 dX4_carry_306 rfl rfl ?_
        refine z_ireturn rfl dX4_carry_308 (by decide) (by decide) ?_
        have hjj : j = (m 10 o).toNat := by omega
        subst hjj
        refine ⟨congrArg (fun z => some (vI z)) ?_, m1, f1, hR, ?_⟩
        · unfold a_car cif there car_no; rw [if_neg (by omega), if_neg (by omega), if_neg (by omega)]
        · unfold s_car cif there car_no; rw [if_neg (by omega)]; exact he.eqs
      · refine z_iload 277 dX4_carry_275 rfl rfl ?_
        refine z_aload_n 278 dX4_carry_277 rfl rfl ?_
        refine r_getP 281 hR fl_X4_41 (by decide) dX4_carry_278 rfl ?_
        refine z_bipush 283 dX4_carry_281 rfl ⟨by decide, by decide⟩ ?_
        refine z_iload_n 284 dX4_carry_283 rfl rfl ?_
        refine z_imul 285 dX4_carry_284 rfl ?_
        refine z_iload 287 dX4_carry_285 rfl rfl ?_
        refine z_iadd 288 dX4_carry_287 rfl ?_
        refine r_balde 289 11 960 hR rk11 ⟨by omega, by omega⟩ (show _ = cpm m p i o k n 11 _ from he.1 11 (by decide) _) dX4_carry_288 rfl ?_
        refine z_if_eq 296 292 dX4_carry_289 (by decide) rfl ⟨by omega, by omega⟩ (fun h289 => ?_) (fun h289 => ?_)
        · refine z_iconst 297 dX4_carry_296 rfl ?_
          refine z_top (w := vI (if cpm m p i o k n 11 (8 * o + j) = 1 then 1 else 0)) (congrArg vI (by split <;> omega)) ?_
          refine z_iadd 298 dX4_carry_297 rfl ?_
          refine z_istore (lv' := [(6, _), (7, _), (0, _), (1, _), (2, _), (3, _), (4, _), (5, _)]) 300 dX4_carry_298 rfl rfl rfl ?_
          refine z_iinc (lv' := [(7, _), (6, _), (0, _), (1, _), (2, _), (3, _), (4, _), (5, _)]) 303 dX4_carry_300 rfl rfl rfl rfl ?_
          refine z_goto 264 dX4_carry_303 (by decide) ?_
          refine z_sub (lv' := [(7, _), (6, _), (0, _), (1, _), (2, _), (3, _), (4, _), (5, _)]) ⟨rfl, rfl, rfl, rfl, rfl, rfl, rfl, rfl, trivial⟩ ?_
          exact ih264 (j + 1) _ _ _ hR (he) (by omega) (hq) (by omega)
        · refine z_iconst 293 dX4_carry_292 rfl ?_
          refine z_goto 297 dX4_carry_293 (by decide) ?_
          refine z_top (w := vI (if cpm m p i o k n 11 (8 * o + j) = 1 then 1 else 0)) (congrArg vI (by split <;> omega)) ?_
          refine z_iadd 298 dX4_carry_297 rfl ?_
          refine z_istore (lv' := [(6, _), (7, _), (0, _), (1, _), (2, _), (3, _), (4, _), (5, _)]) 300 dX4_carry_298 rfl rfl rfl ?_
          refine z_iinc (lv' := [(7, _), (6, _), (0, _), (1, _), (2, _), (3, _), (4, _), (5, _)]) 303 dX4_carry_300 rfl rfl rfl rfl ?_
          refine z_goto 264 dX4_carry_303 (by decide) ?_
          refine z_sub (lv' := [(7, _), (6, _), (0, _), (1, _), (2, _), (3, _), (4, _), (5, _)]) ⟨rfl, rfl, rfl, rfl, rfl, rfl, rfl, rfl, trivial⟩ ?_
          exact ih264 (j + 1) _ _ _ hR (he) (by omega) (hq) (by omega)
  have L177 : ∀ (fuel : Nat) (j : Int) (m1 : Nat → Int → Int) (f1 : Nat → Int → UInt32) (t : zT) (hR : RA m1 f1 x g t) (he : same (cpm m p i o k j) m1 (cpmf f p i o k j) f1) (ha : aside m m1 f f1 (8 * p + i) n) (hj : 0 ≤ j ∧ j ≤ n) (hq : (0 ≤ p ∧ p < m 0 0 ∧ m 4 p ≠ 3) ∧ (0 ≤ o ∧ o < m 0 0 ∧ m 4 o ≠ 3) ∧ 0 ≤ m 10 p ∧ 0 ≤ m 10 o ∧ 0 ≤ i ∧ 0 ≤ k ∧ 0 ≤ n ∧ n ≤ 8 ∧ i + n ≤ m 10 p ∧ k + n ≤ m 10 o) (hf : n - j < (fuel : Int)), zOK yX4_carry cX4_carry 8 (some .int) 2 0 0 (fun r t1 => r = some (vI (a_car m p i o k n)) ∧ ∃ m1 f1, RA m1 f1 x g t1 ∧ eqs (s_car m f p i o k n).1 m1 (s_car m f p i o k n).2 f1) 0 0 177 [(6, vI j), (0, vR (some x)), (1, vI p), (2, vI i), (3, vI o), (4, vI k), (5, vI n)] [] t := by
    intro fuel
    induction fuel with
    | zero => intro j m1 f1 t hR he ha hj hq hf; exfalso; omega
    | succ fuel ih177 =>
      intro j m1 f1 t hR he ha hj hq hf
      have hbp := hW.b hq.1.1 hq.1.2.1
      have hbo := hW.b hq.2.1.1 hq.2.1.2.1
      have h01 := fun (h : j < n) => (hW.2.1 p hq.1.1 hq.1.2.1).2.2.2.2.2.1 (i + j) (by omega) (by omega)
      rw [← Int.add_assoc] at h01
      have hcs := fun (h : j < n) => carry_s hj.1 he ha h
      refine z_iload 179 dX4_carry_177 rfl rfl ?_
      refine z_iload 181 dX4_carry_179 rfl rfl ?_
      refine z_icmp_ge 258 184 dX4_carry_181 (by decide) rfl ⟨by omega, by omega⟩ ⟨by omega, by omega⟩ (fun h181 => ?_) (fun h181 => ?_)
      · refine z_iconst 259 dX4_carry_258 rfl ?_
        refine z_istore (lv' := [(6, _), (0, _), (1, _), (2, _), (3, _), (4, _), (5, _)]) 261 dX4_carry_259 rfl rfl rfl ?_
        refine z_iconst 262 dX4_carry_261 rfl ?_
        refine z_istore (lv' := [(7, _), (6, _), (0, _), (1, _), (2, _), (3, _), (4, _), (5, _)]) 264 dX4_carry_262 rfl rfl rfl ?_
        have hjn : j = n := by omega
        refine z_sub (lv' := [(7, _), (6, _), (0, _), (1, _), (2, _), (3, _), (4, _), (5, _)]) ⟨rfl, rfl, rfl, rfl, rfl, rfl, rfl, rfl, trivial⟩ ?_
        exact L264 9 0 _ _ _ hR (by rw [← hjn]; exact he) (by omega) (hq) (by omega)
      · refine z_bipush 186 dX4_carry_184 rfl ⟨by decide, by decide⟩ ?_
        refine z_iload_n 187 dX4_carry_186 rfl rfl ?_
        refine z_imul 188 dX4_carry_187 rfl ?_
        refine z_iload 190 dX4_carry_188 rfl rfl ?_
        refine z_iadd 191 dX4_carry_190 rfl ?_
        refine z_iload 193 dX4_carry_191 rfl rfl ?_
        refine z_iadd 194 dX4_carry_193 rfl ?_
        refine z_istore (lv' := [(7, _), (6, _), (0, _), (1, _), (2, _), (3, _), (4, _), (5, _)]) 196 dX4_carry_194 rfl rfl rfl ?_
        refine z_aload_n 197 dX4_carry_196 rfl rfl ?_
        refine r_getP 200 hR fl_X4_41 (by decide) dX4_carry_197 rfl ?_
        refine z_iload 202 dX4_carry_200 rfl rfl ?_
        refine z_aload_n 203 dX4_carry_202 rfl rfl ?_
        refine r_getP 206 hR fl_X4_78 (by decide) dX4_carry_203 rfl ?_
        refine z_iload 208 dX4_carry_206 rfl rfl ?_
        refine r_balde 209 26 8 hR rk26 ⟨by omega, by omega⟩ (show _ = m 11 (8 * p + i + j) from (ha j hj.1 (by omega)).1) dX4_carry_208 rfl ?_
        refine r_bast 210 11 960 hR rk11 ⟨by omega, by omega⟩ (by have := h01 (by omega); omega) dX4_carry_209 rfl (fun t hR => ?_)
        refine z_aload_n 211 dX4_carry_210 rfl rfl ?_
        refine r_getP 214 hR fl_X4_45 (by decide) dX4_carry_211 rfl ?_
        refine z_iload 216 dX4_carry_214 rfl rfl ?_
        refine z_aload_n 217 dX4_carry_216 rfl rfl ?_
        refine r_getP 220 hR fl_X4_81 (by decide) dX4_carry_217 rfl ?_
        refine z_iload 222 dX4_carry_220 rfl rfl ?_
        refine r_ialde 223 27 8 hR rk27 ⟨by omega, by omega⟩ (show _ = m 12 (8 * p + i + j) from (ha j hj.1 (by omega)).2.1) dX4_carry_222 rfl ?_
        refine r_iast 224 12 960 hR rk12 ⟨by omega, by omega⟩ dX4_carry_223 rfl (fun t hR => ?_)
        refine z_aload_n 225 dX4_carry_224 rfl rfl ?_
        refine r_getP 228 hR fl_X4_48 (by decide) dX4_carry_225 rfl ?_
        refine z_iload 230 dX4_carry_228 rfl rfl ?_
        refine z_aload_n 231 dX4_carry_230 rfl rfl ?_
        refine r_getP 234 hR fl_X4_84 (by decide) dX4_carry_231 rfl ?_
        refine z_iload 236 dX4_carry_234 rfl rfl ?_
        refine r_ialde 237 28 8 hR rk28 ⟨by omega, by omega⟩ (show _ = m 13 (8 * p + i + j) from (ha j hj.1 (by omega)).2.2.1) dX4_carry_236 rfl ?_
        refine r_iast 238 13 960 hR rk13 ⟨by omega, by omega⟩ dX4_carry_237 rfl (fun t hR => ?_)
        refine z_aload_n 239 dX4_carry_238 rfl rfl ?_
        refine r_getP 242 hR fl_X4_51 (by decide) dX4_carry_239 rfl ?_
        refine z_iload 244 dX4_carry_242 rfl rfl ?_
        refine z_aload_n 245 dX4_carry_244 rfl rfl ?_
        refine r_getP 248 hR fl_X4_87 (by decide) dX4_carry_245 rfl ?_
        refine z_iload 250 dX4_carry_248 rfl rfl ?_
        refine r_falde 251 29 8 hR rk29 ⟨by omega, by omega⟩ (show _ = f 14 (8 * p + i + j) from (ha j hj.1 (by omega)).2.2.2) dX4_carry_250 rfl ?_
        refine r_fast 252 14 960 hR rk14 ⟨by omega, by omega⟩ dX4_carry_251 rfl (fun t hR => ?_)
        refine z_iinc (lv' := [(6, _), (7, _), (0, _), (1, _), (2, _), (3, _), (4, _), (5, _)]) 255 dX4_carry_252 rfl rfl rfl rfl ?_
        refine z_goto 177 dX4_carry_255 (by decide) ?_
        refine z_sub (lv' := [(6, _), (0, _), (1, _), (2, _), (3, _), (4, _), (5, _)]) ⟨rfl, rfl, rfl, rfl, rfl, rfl, rfl, trivial⟩ ?_
        exact ih177 (j + 1) _ _ _ hR ((hcs (by omega)).1) ((hcs (by omega)).2) (by omega) (hq) (by omega)
  have L94 : ∀ (fuel : Nat) (j : Int) (m1 : Nat → Int → Int) (f1 : Nat → Int → UInt32) (t : zT) (hR : RA m1 f1 x g t) (he : same m m1 f f1) (ha : aside m m1 f f1 (8 * p + i) j) (hj : 0 ≤ j ∧ j ≤ n) (hq : (0 ≤ p ∧ p < m 0 0 ∧ m 4 p ≠ 3) ∧ (0 ≤ o ∧ o < m 0 0 ∧ m 4 o ≠ 3) ∧ 0 ≤ m 10 p ∧ 0 ≤ m 10 o ∧ 0 ≤ i ∧ 0 ≤ k ∧ 0 ≤ n ∧ n ≤ 8 ∧ i + n ≤ m 10 p ∧ k + n ≤ m 10 o) (hf : n - j < (fuel : Int)), zOK yX4_carry cX4_carry 8 (some .int) 2 0 0 (fun r t1 => r = some (vI (a_car m p i o k n)) ∧ ∃ m1 f1, RA m1 f1 x g t1 ∧ eqs (s_car m f p i o k n).1 m1 (s_car m f p i o k n).2 f1) 0 0 94 [(6, vI j), (0, vR (some x)), (1, vI p), (2, vI i), (3, vI o), (4, vI k), (5, vI n)] [] t := by
    intro fuel
    induction fuel with
    | zero => intro j m1 f1 t hR he ha hj hq hf; exfalso; omega
    | succ fuel ih94 =>
      intro j m1 f1 t hR he ha hj hq hf
      have hbp := hW.b hq.1.1 hq.1.2.1
      have hbo := hW.b hq.2.1.1 hq.2.1.2.1
      have h01 := fun (h : j < n) => (hW.2.1 p hq.1.1 hq.1.2.1).2.2.2.2.2.1 (i + j) (by omega) (by omega)
      rw [← Int.add_assoc] at h01
      have hcs := aside_s hj.1 he ha
      refine z_iload 96 dX4_carry_94 rfl rfl ?_
      refine z_iload 98 dX4_carry_96 rfl rfl ?_
      refine z_icmp_ge 174 101 dX4_carry_98 (by decide) rfl ⟨by omega, by omega⟩ ⟨by omega, by omega⟩ (fun h98 => ?_) (fun h98 => ?_)
      · refine z_iconst 175 dX4_carry_174 rfl ?_
        refine z_istore (lv' := [(6, _), (0, _), (1, _), (2, _), (3, _), (4, _), (5, _)]) 177 dX4_carry_175 rfl rfl rfl ?_
        have hjn : j = n := by omega
        refine z_sub (lv' := [(6, _), (0, _), (1, _), (2, _), (3, _), (4, _), (5, _)]) ⟨rfl, rfl, rfl, rfl, rfl, rfl, rfl, trivial⟩ ?_
        exact L177 9 0 _ _ _ hR (by rw [cpm_0, cpmf_0]; exact he) (by rw [← hjn]; exact ha) (by omega) (hq) (by omega)
      · refine z_bipush 103 dX4_carry_101 rfl ⟨by decide, by decide⟩ ?_
        refine z_iload_n 104 dX4_carry_103 rfl rfl ?_
        refine z_imul 105 dX4_carry_104 rfl ?_
        refine z_iload_n 106 dX4_carry_105 rfl rfl ?_
        refine z_iadd 107 dX4_carry_106 rfl ?_
        refine z_iload 109 dX4_carry_107 rfl rfl ?_
        refine z_iadd 110 dX4_carry_109 rfl ?_
        refine z_istore (lv' := [(7, _), (6, _), (0, _), (1, _), (2, _), (3, _), (4, _), (5, _)]) 112 dX4_carry_110 rfl rfl rfl ?_
        refine z_aload_n 113 dX4_carry_112 rfl rfl ?_
        refine r_getP 116 hR fl_X4_78 (by decide) dX4_carry_113 rfl ?_
        refine z_iload 118 dX4_carry_116 rfl rfl ?_
        refine z_aload_n 119 dX4_carry_118 rfl rfl ?_
        refine r_getP 122 hR fl_X4_41 (by decide) dX4_carry_119 rfl ?_
        refine z_iload 124 dX4_carry_122 rfl rfl ?_
        refine r_balde 125 11 960 hR rk11 ⟨by omega, by omega⟩ (show _ = m 11 _ from he.1 11 (by decide) _) dX4_carry_124 rfl ?_
        refine r_bast 126 26 8 hR rk26 ⟨by omega, by omega⟩ (by have := h01 (by omega); omega) dX4_carry_125 rfl (fun t hR => ?_)
        refine z_aload_n 127 dX4_carry_126 rfl rfl ?_
        refine r_getP 130 hR fl_X4_81 (by decide) dX4_carry_127 rfl ?_
        refine z_iload 132 dX4_carry_130 rfl rfl ?_
        refine z_aload_n 133 dX4_carry_132 rfl rfl ?_
        refine r_getP 136 hR fl_X4_45 (by decide) dX4_carry_133 rfl ?_
        refine z_iload 138 dX4_carry_136 rfl rfl ?_
        refine r_ialde 139 12 960 hR rk12 ⟨by omega, by omega⟩ (show _ = m 12 _ from he.1 12 (by decide) _) dX4_carry_138 rfl ?_
        refine r_iast 140 27 8 hR rk27 ⟨by omega, by omega⟩ dX4_carry_139 rfl (fun t hR => ?_)
        refine z_aload_n 141 dX4_carry_140 rfl rfl ?_
        refine r_getP 144 hR fl_X4_84 (by decide) dX4_carry_141 rfl ?_
        refine z_iload 146 dX4_carry_144 rfl rfl ?_
        refine z_aload_n 147 dX4_carry_146 rfl rfl ?_
        refine r_getP 150 hR fl_X4_48 (by decide) dX4_carry_147 rfl ?_
        refine z_iload 152 dX4_carry_150 rfl rfl ?_
        refine r_ialde 153 13 960 hR rk13 ⟨by omega, by omega⟩ (show _ = m 13 _ from he.1 13 (by decide) _) dX4_carry_152 rfl ?_
        refine r_iast 154 28 8 hR rk28 ⟨by omega, by omega⟩ dX4_carry_153 rfl (fun t hR => ?_)
        refine z_aload_n 155 dX4_carry_154 rfl rfl ?_
        refine r_getP 158 hR fl_X4_87 (by decide) dX4_carry_155 rfl ?_
        refine z_iload 160 dX4_carry_158 rfl rfl ?_
        refine z_aload_n 161 dX4_carry_160 rfl rfl ?_
        refine r_getP 164 hR fl_X4_51 (by decide) dX4_carry_161 rfl ?_
        refine z_iload 166 dX4_carry_164 rfl rfl ?_
        refine r_falde 167 14 960 hR rk14 ⟨by omega, by omega⟩ (show _ = f 14 _ from he.2 14 (by decide) _) dX4_carry_166 rfl ?_
        refine r_fast 168 29 8 hR rk29 ⟨by omega, by omega⟩ dX4_carry_167 rfl (fun t hR => ?_)
        refine z_iinc (lv' := [(6, _), (7, _), (0, _), (1, _), (2, _), (3, _), (4, _), (5, _)]) 171 dX4_carry_168 rfl rfl rfl rfl ?_
        refine z_goto 94 dX4_carry_171 (by decide) ?_
        refine z_sub (lv' := [(6, _), (0, _), (1, _), (2, _), (3, _), (4, _), (5, _)]) ⟨rfl, rfl, rfl, rfl, rfl, rfl, rfl, trivial⟩ ?_
        exact ih94 (j + 1) _ _ _ hR (hcs.1) (hcs.2) (by omega) (hq) (by omega)
  refine z_aload_n 1 dX4_carry_0 rfl rfl ?_
  refine z_iload_n 2 dX4_carry_1 rfl rfl ?_
  refine z_callV 5 [_] la_X4_isThere ml_X4_149 im_X4_isThere se_X4_isThere hR.1.1 hR.1.2.1 (by decide) rfl rfl (r_isThere hR ⟨hp1, hp2⟩ hW.n hW.h4) rfl rfl (by decide) (Nat.le_of_ble_eq_true rfl) (by decide) (by decide) dX4_carry_2 rfl (fun r t hq => ?_)
  obtain ⟨zp, rfl, hzp1, hzp2, hzp3, hR⟩ := hq
  have hBp := fun (h : zp = 1) => hW.b (p := p) (by omega) (by omega)
  refine z_if_eq 16 8 dX4_carry_5 (by decide) rfl ⟨by omega, by omega⟩ (fun h5 => ?_) (fun h5 => ?_)
  · refine z_bipush 18 dX4_carry_16 rfl ⟨by decide, by decide⟩ ?_
    refine z_ireturn rfl dX4_carry_18 (by decide) (by decide) ?_
    refine ⟨congrArg (fun z => some (vI z)) ?_, m, f, hR, ?_⟩
    · unfold a_car cif there car_no; rw [if_pos (by omega)]
    · unfold s_car cif there car_no; rw [if_pos (by omega)]; exact eqs.rf
  · refine z_aload_n 9 dX4_carry_8 rfl rfl ?_
    refine z_iload_n 10 dX4_carry_9 rfl rfl ?_
    refine z_callV 13 [_] la_X4_isThere ml_X4_149 im_X4_isThere se_X4_isThere hR.1.1 hR.1.2.1 (by decide) rfl rfl (r_isThere hR ⟨ho1, ho2⟩ hW.n hW.h4) rfl rfl (by decide) (Nat.le_of_ble_eq_true rfl) (by decide) (by decide) dX4_carry_10 rfl (fun r t hq => ?_)
    obtain ⟨zo, rfl, hzo1, hzo2, hzo3, hR⟩ := hq
    have hBo := fun (h : zo = 1) => hW.b (p := o) (by omega) (by omega)
    refine z_if_ne 19 16 dX4_carry_13 (by decide) rfl ⟨by omega, by omega⟩ (fun h13 => ?_) (fun h13 => ?_)
    · refine z_aload_n 20 dX4_carry_19 rfl rfl ?_
      refine r_getP 23 hR fl_X4_38 (by decide) dX4_carry_20 rfl ?_
      refine z_iload_n 24 dX4_carry_23 rfl rfl ?_
      refine r_iald 25 10 120 hR rk10 ⟨by omega, by omega⟩ dX4_carry_24 rfl ?_
      refine z_if_lt 37 28 dX4_carry_25 (by decide) rfl ⟨by omega, by omega⟩ (fun h25 => ?_) (fun h25 => ?_)
      · refine z_bipush 39 dX4_carry_37 rfl ⟨by decide, by decide⟩ ?_
        refine z_ireturn rfl dX4_carry_39 (by decide) (by decide) ?_
        refine ⟨congrArg (fun z => some (vI z)) ?_, m, f, hR, ?_⟩
        · unfold a_car cif there car_no; rw [if_neg (by omega), if_pos (by omega)]
        · unfold s_car cif there car_no; rw [if_pos (by omega)]; exact eqs.rf
      · refine z_aload_n 29 dX4_carry_28 rfl rfl ?_
        refine r_getP 32 hR fl_X4_38 (by decide) dX4_carry_29 rfl ?_
        refine z_iload_n 33 dX4_carry_32 rfl rfl ?_
        refine r_iald 34 10 120 hR rk10 ⟨by omega, by omega⟩ dX4_carry_33 rfl ?_
        refine z_if_ge 40 37 dX4_carry_34 (by decide) rfl ⟨by omega, by omega⟩ (fun h34 => ?_) (fun h34 => ?_)
        · refine z_iload_n 41 dX4_carry_40 rfl rfl ?_
          refine z_if_lt 88 44 dX4_carry_41 (by decide) rfl ⟨by omega, by omega⟩ (fun h41 => ?_) (fun h41 => ?_)
          · refine z_bipush 90 dX4_carry_88 rfl ⟨by decide, by decide⟩ ?_
            refine z_ireturn rfl dX4_carry_90 (by decide) (by decide) ?_
            refine ⟨congrArg (fun z => some (vI z)) ?_, m, f, hR, ?_⟩
            · unfold a_car cif there car_no; rw [if_neg (by omega), if_neg (by omega), if_pos (by omega)]
            · unfold s_car cif there car_no; rw [if_pos (by omega)]; exact eqs.rf
          · refine z_iload 46 dX4_carry_44 rfl rfl ?_
            refine z_if_lt 88 49 dX4_carry_46 (by decide) rfl ⟨by omega, by omega⟩ (fun h46 => ?_) (fun h46 => ?_)
            · refine z_bipush 90 dX4_carry_88 rfl ⟨by decide, by decide⟩ ?_
              refine z_ireturn rfl dX4_carry_90 (by decide) (by decide) ?_
              refine ⟨congrArg (fun z => some (vI z)) ?_, m, f, hR, ?_⟩
              · unfold a_car cif there car_no; rw [if_neg (by omega), if_neg (by omega), if_pos (by omega)]
              · unfold s_car cif there car_no; rw [if_pos (by omega)]; exact eqs.rf
            · refine z_iload 51 dX4_carry_49 rfl rfl ?_
              refine z_if_lt 88 54 dX4_carry_51 (by decide) rfl ⟨by omega, by omega⟩ (fun h51 => ?_) (fun h51 => ?_)
              · refine z_bipush 90 dX4_carry_88 rfl ⟨by decide, by decide⟩ ?_
                refine z_ireturn rfl dX4_carry_90 (by decide) (by decide) ?_
                refine ⟨congrArg (fun z => some (vI z)) ?_, m, f, hR, ?_⟩
                · unfold a_car cif there car_no; rw [if_neg (by omega), if_neg (by omega), if_pos (by omega)]
                · unfold s_car cif there car_no; rw [if_pos (by omega)]; exact eqs.rf
              · refine z_iload 56 dX4_carry_54 rfl rfl ?_
                refine z_bipush 58 dX4_carry_56 rfl ⟨by decide, by decide⟩ ?_
                refine z_icmp_gt 88 61 dX4_carry_58 (by decide) rfl ⟨by omega, by omega⟩ ⟨by omega, by omega⟩ (fun h58 => ?_) (fun h58 => ?_)
                · refine z_bipush 90 dX4_carry_88 rfl ⟨by decide, by decide⟩ ?_
                  refine z_ireturn rfl dX4_carry_90 (by decide) (by decide) ?_
                  refine ⟨congrArg (fun z => some (vI z)) ?_, m, f, hR, ?_⟩
                  · unfold a_car cif there car_no; rw [if_neg (by omega), if_neg (by omega), if_pos (by omega)]
                  · unfold s_car cif there car_no; rw [if_pos (by omega)]; exact eqs.rf
                · refine z_iload_n 62 dX4_carry_61 rfl rfl ?_
                  refine z_aload_n 63 dX4_carry_62 rfl rfl ?_
                  refine r_getP 66 hR fl_X4_38 (by decide) dX4_carry_63 rfl ?_
                  refine z_iload_n 67 dX4_carry_66 rfl rfl ?_
                  refine r_iald 68 10 120 hR rk10 ⟨by omega, by omega⟩ dX4_carry_67 rfl ?_
                  refine z_iload 70 dX4_carry_68 rfl rfl ?_
                  refine z_isub 71 dX4_carry_70 rfl ?_
                  refine z_icmp_gt 88 74 dX4_carry_71 (by decide) rfl ⟨by omega, by omega⟩ ⟨by omega, by omega⟩ (fun h71 => ?_) (fun h71 => ?_)
                  · refine z_bipush 90 dX4_carry_88 rfl ⟨by decide, by decide⟩ ?_
                    refine z_ireturn rfl dX4_carry_90 (by decide) (by decide) ?_
                    refine ⟨congrArg (fun z => some (vI z)) ?_, m, f, hR, ?_⟩
                    · unfold a_car cif there car_no; rw [if_neg (by omega), if_neg (by omega), if_pos (by omega)]
                    · unfold s_car cif there car_no; rw [if_pos (by omega)]; exact eqs.rf
                  · refine z_iload 76 dX4_carry_74 rfl rfl ?_
                    refine z_aload_n 77 dX4_carry_76 rfl rfl ?_
                    refine r_getP 80 hR fl_X4_38 (by decide) dX4_carry_77 rfl ?_
                    refine z_iload_n 81 dX4_carry_80 rfl rfl ?_
                    refine r_iald 82 10 120 hR rk10 ⟨by omega, by omega⟩ dX4_carry_81 rfl ?_
                    refine z_iload 84 dX4_carry_82 rfl rfl ?_
                    refine z_isub 85 dX4_carry_84 rfl ?_
                    refine z_icmp_le 91 88 dX4_carry_85 (by decide) rfl ⟨by omega, by omega⟩ ⟨by omega, by omega⟩ (fun h85 => ?_) (fun h85 => ?_)
                    · refine z_iconst 92 dX4_carry_91 rfl ?_
                      refine z_istore (lv' := [(6, _), (0, _), (1, _), (2, _), (3, _), (4, _), (5, _)]) 94 dX4_carry_92 rfl rfl rfl ?_
                      refine z_sub (lv' := [(6, _), (0, _), (1, _), (2, _), (3, _), (4, _), (5, _)]) ⟨rfl, rfl, rfl, rfl, rfl, rfl, rfl, trivial⟩ ?_
                      exact L94 9 0 _ _ _ hR (⟨fun _ _ _ => rfl, fun _ _ _ => rfl⟩) (fun j j0 j1 => by omega) (by omega) (⟨⟨by omega, by omega, by omega⟩, ⟨by omega, by omega, by omega⟩, by omega, by omega, by omega, by omega, by omega, by omega, by omega, by omega⟩) (by omega)
                    · refine z_bipush 90 dX4_carry_88 rfl ⟨by decide, by decide⟩ ?_
                      refine z_ireturn rfl dX4_carry_90 (by decide) (by decide) ?_
                      refine ⟨congrArg (fun z => some (vI z)) ?_, m, f, hR, ?_⟩
                      · unfold a_car cif there car_no; rw [if_neg (by omega), if_neg (by omega), if_pos (by omega)]
                      · unfold s_car cif there car_no; rw [if_pos (by omega)]; exact eqs.rf
        · refine z_bipush 39 dX4_carry_37 rfl ⟨by decide, by decide⟩ ?_
          refine z_ireturn rfl dX4_carry_39 (by decide) (by decide) ?_
          refine ⟨congrArg (fun z => some (vI z)) ?_, m, f, hR, ?_⟩
          · unfold a_car cif there car_no; rw [if_neg (by omega), if_pos (by omega)]
          · unfold s_car cif there car_no; rw [if_pos (by omega)]; exact eqs.rf
    · refine z_bipush 18 dX4_carry_16 rfl ⟨by decide, by decide⟩ ?_
      refine z_ireturn rfl dX4_carry_18 (by decide) (by decide) ?_
      refine ⟨congrArg (fun z => some (vI z)) ?_, m, f, hR, ?_⟩
      · unfold a_car cif there car_no; rw [if_pos (by omega)]
      · unfold s_car cif there car_no; rw [if_pos (by omega)]; exact eqs.rf
