/-! THE REFERENCE'S CONSTRUCTOR -/
def RP (x n : Nat) (g : Nat → Nat) (t : zT) : Prop := x ∈ tL t ∧ tK t x = 4 ∧ (∀ i, tI t x i = 0) ∧
  (∀ k, k < n → zTg 4 k = 2 → tP t x k = some (g k) ∧ g k ∈ tL t ∧ g k ≠ x ∧ tK t (g k) = rkd k ∧ tN t (g k) = rln k ∧ (∀ j, tI t (g k) j = 0) ∧ ∀ j, tF t (g k) j = 0) ∧
  ∀ i j, i < n → j < n → zTg 4 i = 2 → zTg 4 j = 2 → g i = g j → i = j
def rgn (g : Nat → Nat) (n q : Nat) : Nat → Nat := fun k => if k = n then q else g k
theorem rgn_s {g : Nat → Nat} {n q : Nat} : rgn g n q n = q := if_pos rfl
theorem rgn_o {g : Nat → Nat} {n q k : Nat} (h : k ≠ n) : rgn g n q k = g k := if_neg h
theorem RP.kx {x n q kd N : Nat} {g : Nat → Nat} {t : zT} (h : RP x n g t) (hq : q ∉ tL t) : x ∈ tL (sA t q kd N) ∧ tK (sA t q kd N) x = 4 := by
  have s := sA_old (kd := kd) (n := N) h.1 hq
  exact ⟨s.1, s.2.1.trans h.2.1⟩
theorem RP.skip {x n : Nat} {g : Nat → Nat} {t : zT} (h : RP x n g t) (h0 : zTg 4 n = 0) : RP x (n + 1) g t := by
  obtain ⟨h1, h2, h3, h4, h5⟩ := h
  have hn : ∀ k, k < n + 1 → zTg 4 k = 2 → k < n := fun k hk k2 => by
    have : k ≠ n := fun e => by rw [e, h0] at k2; cases k2
    omega
  exact ⟨h1, h2, h3, fun k hk k2 => h4 k (hn k hk k2) k2, fun i j hi hj i2 j2 => h5 i j (hn i hi i2) (hn j hj j2) i2 j2⟩
theorem RP.step {x n q kd N : Nat} {g : Nat → Nat} {t : zT} (h : RP x n g t) (hk : rkd n = kd ∧ rln n = N) (hq : q ∉ tL t) : ∃ g', RP x (n + 1) g' (sP (sA t q kd N) x n (some q)) := by
  obtain ⟨rfl, rfl⟩ := hk
  obtain ⟨h1, h2, h3, h4, h5⟩ := h
  have hx : x ≠ q := fun e => hq (e ▸ h1)
  have hn := sA_new (t := t) (q := q) (kd := rkd n) (n := rln n)
  have sx := sA_old (kd := rkd n) (n := rln n) h1 hq
  refine ⟨rgn g n q, sx.1, sx.2.1.trans h2, fun i => (sx.2.2.2.1 i).trans (h3 i), fun k hk k2 => ?_, fun i j hi hj i2 j2 e => ?_⟩
  · by_cases e : k = n
    · subst e
      rw [rgn_s]
      refine ⟨up2_s _ _ _ _, hn.1, Ne.symm hx, hn.2.1, hn.2.2.1, hn.2.2.2.1, hn.2.2.2.2.1⟩
    · rw [rgn_o e]
      obtain ⟨a1, a2, a3, a4, a5, a6, a7⟩ := h4 k (by omega) k2
      have s := sA_old (kd := rkd n) (n := rln n) a2 hq
      refine ⟨?_, s.1, a3, s.2.1.trans a4, s.2.2.1.trans a5, fun j => (s.2.2.2.1 j).trans (a6 j), fun j => (s.2.2.2.2.1 j).trans (a7 j)⟩
      show up2 (tP (sA t q (rkd n) (rln n))) x n (some q) x k = some (g k)
      rw [up2_k _ _ _ _ _ (by omega)]
      exact (sx.2.2.2.2.2 _).trans a1
  · have hg : ∀ k, k < n + 1 → k ≠ n → zTg 4 k = 2 → g k ≠ q := fun k hk hne k2 e => hq (e ▸ (h4 k (by omega) k2).2.1)
    by_cases ei : i = n
    · by_cases ej : j = n
      · omega
      · rw [ei, rgn_s, rgn_o ej] at e; exact absurd e.symm (hg j hj ej j2)
    · by_cases ej : j = n
      · rw [ej, rgn_s, rgn_o ei] at e; exact absurd e (hg i hi ei i2)
      · rw [rgn_o ei, rgn_o ej] at e; exact h5 i j (by omega) (by omega) i2 j2 e
theorem RP.RA {x : Nat} {g : Nat → Nat} {t : zT} (h : RP x 36 g t) : RA (fun _ _ => 0) f0 x g t := by
  obtain ⟨h1, h2, h3, h4, h5⟩ := h
  refine ⟨⟨h1, h2, fun k hk k2 => ?_, h5⟩, fun k _ _ => h3 _, fun k hk k2 _ j => (h4 k hk k2).2.2.2.2.2.1 j, fun k hk k2 _ j => (h4 k hk k2).2.2.2.2.2.2 j⟩
  obtain ⟨a1, a2, a3, a4, a5, -⟩ := h4 k hk k2
  exact ⟨a1, a2, a4, a5⟩
theorem RP.new {x : Nat} {t : zT} (ha : x ∈ tL t) (hk : tK t x = 4) (hz : ∀ i, tI t x i = 0) : RP x 1 (fun _ => 0) t :=
  RP.skip (n := 0) ⟨ha, hk, hz, fun k hk _ => absurd hk (Nat.not_lt_zero k), fun i _ hi => absurd hi (Nat.not_lt_zero i)⟩ rfl
set_option maxRecDepth 20000 in
theorem r_init {t : zT} {x : Nat} (hq : x ∈ tL t) (hk : tK t x = 4) (hz : ∀ i, tI t x i = 0) : zM yX4_init cX4_init 2 none 1 31 20454 [vR (some x)] t (fun r t1 => r = none ∧ ∃ g, RA zm0 f0 x g t1) := by
  refine zM.of [(0, vR (some x))] (by decide +kernel) rfl (Nat.le_of_ble_eq_true rfl) ?_
  have L261 : ∀ (fuel : Nat) (k : Nat) (m : Nat → Int → Int) (g : Nat → Nat) (t : zT) (hR : RA m f0 x g t) (hk6 : k ≤ 6) (hm : ∀ K j, m K j = if K = 17 ∧ 0 ≤ j ∧ j < k then -1 else 0) (hf : 6 - (k : Int) < (fuel : Int)), zOK yX4_init cX4_init 2 none 1 31 20454 (fun r t1 => r = none ∧ ∃ g, RA zm0 f0 x g t1) 31 20454 261 [(1, vI (k : Int)), (0, vR (some x))] [] t := by
    intro fuel
    induction fuel with
    | zero => intro k m g t hR hk6 hm hf; exfalso; omega
    | succ fuel ih261 =>
      intro k m g t hR hk6 hm hf
      refine z_iload_n 262 dX4_init_261 rfl rfl ?_
      refine z_bipush 264 dX4_init_262 rfl ⟨by decide, by decide⟩ ?_
      refine z_icmp_ge 280 267 dX4_init_264 (by decide) rfl ⟨by omega, by omega⟩ ⟨by omega, by omega⟩ (fun h264 => ?_) (fun h264 => ?_)
      · refine z_return rfl dX4_init_280 (by decide) (by decide) ?_
        have hk : k = 6 := by omega
        subst hk
        have e : m = zm0 := by funext K j; exact hm K j
        subst e
        exact ⟨rfl, g, hR⟩
      · refine z_aload_n 268 dX4_init_267 rfl rfl ?_
        refine r_getP 271 hR fl_X4_57 (by decide) dX4_init_268 rfl ?_
        refine z_iload_n 272 dX4_init_271 rfl rfl ?_
        refine z_iconst 273 dX4_init_272 rfl ?_
        refine r_iast 274 17 6 hR rk17 ⟨by omega, by omega⟩ dX4_init_273 rfl (fun t hR => ?_)
        refine z_iinc (lv' := [(1, _), (0, _)]) 277 dX4_init_274 rfl rfl rfl rfl ?_
        refine z_goto 261 dX4_init_277 (by decide) ?_
        refine z_sub (lv' := [(1, _), (0, _)]) ⟨rfl, rfl, trivial⟩ ?_
        exact ih261 (k + 1) _ _ _ hR (by omega) (fun K j => by unfold up2; rw [hm K j]; (repeat' split) <;> omega) (by omega)
  have h := RP.new hq hk hz
  refine z_aload_n 1 dX4_init_0 rfl rfl ?_
  refine z_objInit 4 ml_X4_1 la_obj1 la_obj2 (by decide) (by decide) dX4_init_1 rfl ?_
  refine z_aload_n 5 dX4_init_4 rfl rfl ?_
  refine z_bipush 7 dX4_init_5 rfl ⟨by decide, by decide⟩ ?_
  refine z_newaI 9 120 rfl rfl la_arr_int (by decide) (by decide) dX4_init_7 rfl (fun q hq => ?_)
  refine z_putPF 12 fl_X4_9 rfl fo_X4_9 (h.kx hq).1 (h.kx hq).2 dX4_init_9 rfl ?_
  obtain ⟨g1, h1⟩ := h.step (n := 1) (kd := 6) (N := 120) ⟨rfl, rfl⟩ hq
  clear h
  revert h1
  generalize sP (sA _ q 6 120) x 1 (some q) = t
  intro h
  refine z_aload_n 13 dX4_init_12 rfl rfl ?_
  refine z_bipush 15 dX4_init_13 rfl ⟨by decide, by decide⟩ ?_
  refine z_newaI 17 120 rfl rfl la_arr_int (by decide) (by decide) dX4_init_15 rfl (fun q hq => ?_)
  refine z_putPF 20 fl_X4_13 rfl fo_X4_13 (h.kx hq).1 (h.kx hq).2 dX4_init_17 rfl ?_
  obtain ⟨g2, h2⟩ := h.step (n := 2) (kd := 6) (N := 120) ⟨rfl, rfl⟩ hq
  clear h
  revert h2
  generalize sP (sA _ q 6 120) x 2 (some q) = t
  intro h
  refine z_aload_n 21 dX4_init_20 rfl rfl ?_
  refine z_bipush 23 dX4_init_21 rfl ⟨by decide, by decide⟩ ?_
  refine z_newaI 25 120 rfl rfl la_arr_int (by decide) (by decide) dX4_init_23 rfl (fun q hq => ?_)
  refine z_putPF 28 fl_X4_16 rfl fo_X4_16 (h.kx hq).1 (h.kx hq).2 dX4_init_25 rfl ?_
  obtain ⟨g3, h3⟩ := h.step (n := 3) (kd := 6) (N := 120) ⟨rfl, rfl⟩ hq
  clear h
  revert h3
  generalize sP (sA _ q 6 120) x 3 (some q) = t
  intro h
  refine z_aload_n 29 dX4_init_28 rfl rfl ?_
  refine z_bipush 31 dX4_init_29 rfl ⟨by decide, by decide⟩ ?_
  refine z_newaI 33 120 rfl rfl la_arr_int (by decide) (by decide) dX4_init_31 rfl (fun q hq => ?_)
  refine z_putPF 36 fl_X4_19 rfl fo_X4_19 (h.kx hq).1 (h.kx hq).2 dX4_init_33 rfl ?_
  obtain ⟨g4, h4⟩ := h.step (n := 4) (kd := 6) (N := 120) ⟨rfl, rfl⟩ hq
  clear h
  revert h4
  generalize sP (sA _ q 6 120) x 4 (some q) = t
  intro h
  refine z_aload_n 37 dX4_init_36 rfl rfl ?_
  refine z_bipush 39 dX4_init_37 rfl ⟨by decide, by decide⟩ ?_
  refine z_newaF 41 120 rfl rfl la_arr_float (by decide) (by decide) dX4_init_39 rfl (fun q hq => ?_)
  refine z_putPF 44 fl_X4_22 rfl fo_X4_22 (h.kx hq).1 (h.kx hq).2 dX4_init_41 rfl ?_
  obtain ⟨g5, h5⟩ := h.step (n := 5) (kd := 5) (N := 120) ⟨rfl, rfl⟩ hq
  clear h
  revert h5
  generalize sP (sA _ q 5 120) x 5 (some q) = t
  intro h
  refine z_aload_n 45 dX4_init_44 rfl rfl ?_
  refine z_bipush 47 dX4_init_45 rfl ⟨by decide, by decide⟩ ?_
  refine z_newaI 49 120 rfl rfl la_arr_int (by decide) (by decide) dX4_init_47 rfl (fun q hq => ?_)
  refine z_putPF 52 fl_X4_26 rfl fo_X4_26 (h.kx hq).1 (h.kx hq).2 dX4_init_49 rfl ?_
  obtain ⟨g6, h6⟩ := h.step (n := 6) (kd := 6) (N := 120) ⟨rfl, rfl⟩ hq
  clear h
  revert h6
  generalize sP (sA _ q 6 120) x 6 (some q) = t
  intro h
  refine z_aload_n 53 dX4_init_52 rfl rfl ?_
  refine z_sipush 56 dX4_init_53 rfl ⟨by decide, by decide⟩ ?_
  refine z_newaI 58 1080 rfl rfl la_arr_int (by decide) (by decide) dX4_init_56 rfl (fun q hq => ?_)
  refine z_putPF 61 fl_X4_29 rfl fo_X4_29 (h.kx hq).1 (h.kx hq).2 dX4_init_58 rfl ?_
  obtain ⟨g7, h7⟩ := h.step (n := 7) (kd := 6) (N := 1080) ⟨rfl, rfl⟩ hq
  clear h
  revert h7
  generalize sP (sA _ q 6 1080) x 7 (some q) = t
  intro h
  refine z_aload_n 62 dX4_init_61 rfl rfl ?_
  refine z_bipush 64 dX4_init_62 rfl ⟨by decide, by decide⟩ ?_
  refine z_newaI 66 120 rfl rfl la_arr_int (by decide) (by decide) dX4_init_64 rfl (fun q hq => ?_)
  refine z_putPF 69 fl_X4_32 rfl fo_X4_32 (h.kx hq).1 (h.kx hq).2 dX4_init_66 rfl ?_
  obtain ⟨g8, h8⟩ := h.step (n := 8) (kd := 6) (N := 120) ⟨rfl, rfl⟩ hq
  clear h
  revert h8
  generalize sP (sA _ q 6 120) x 8 (some q) = t
  intro h
  refine z_aload_n 70 dX4_init_69 rfl rfl ?_
  refine z_bipush 72 dX4_init_70 rfl ⟨by decide, by decide⟩ ?_
  refine z_newaI 74 120 rfl rfl la_arr_int (by decide) (by decide) dX4_init_72 rfl (fun q hq => ?_)
  refine z_putPF 77 fl_X4_35 rfl fo_X4_35 (h.kx hq).1 (h.kx hq).2 dX4_init_74 rfl ?_
  obtain ⟨g9, h9⟩ := h.step (n := 9) (kd := 6) (N := 120) ⟨rfl, rfl⟩ hq
  clear h
  revert h9
  generalize sP (sA _ q 6 120) x 9 (some q) = t
  intro h
  refine z_aload_n 78 dX4_init_77 rfl rfl ?_
  refine z_bipush 80 dX4_init_78 rfl ⟨by decide, by decide⟩ ?_
  refine z_newaI 82 120 rfl rfl la_arr_int (by decide) (by decide) dX4_init_80 rfl (fun q hq => ?_)
  refine z_putPF 85 fl_X4_38 rfl fo_X4_38 (h.kx hq).1 (h.kx hq).2 dX4_init_82 rfl ?_
  obtain ⟨g10, h10⟩ := h.step (n := 10) (kd := 6) (N := 120) ⟨rfl, rfl⟩ hq
  clear h
  revert h10
  generalize sP (sA _ q 6 120) x 10 (some q) = t
  intro h
  refine z_aload_n 86 dX4_init_85 rfl rfl ?_
  refine z_sipush 89 dX4_init_86 rfl ⟨by decide, by decide⟩ ?_
  refine z_newaZ 91 960 rfl rfl la_arr_boolean (by decide) (by decide) dX4_init_89 rfl (fun q hq => ?_)
  refine z_putPF 94 fl_X4_41 rfl fo_X4_41 (h.kx hq).1 (h.kx hq).2 dX4_init_91 rfl ?_
  obtain ⟨g11, h11⟩ := h.step (n := 11) (kd := 7) (N := 960) ⟨rfl, rfl⟩ hq
  clear h
  revert h11
  generalize sP (sA _ q 7 960) x 11 (some q) = t
  intro h
  refine z_aload_n 95 dX4_init_94 rfl rfl ?_
  refine z_sipush 98 dX4_init_95 rfl ⟨by decide, by decide⟩ ?_
  refine z_newaI 100 960 rfl rfl la_arr_int (by decide) (by decide) dX4_init_98 rfl (fun q hq => ?_)
  refine z_putPF 103 fl_X4_45 rfl fo_X4_45 (h.kx hq).1 (h.kx hq).2 dX4_init_100 rfl ?_
  obtain ⟨g12, h12⟩ := h.step (n := 12) (kd := 6) (N := 960) ⟨rfl, rfl⟩ hq
  clear h
  revert h12
  generalize sP (sA _ q 6 960) x 12 (some q) = t
  intro h
  refine z_aload_n 104 dX4_init_103 rfl rfl ?_
  refine z_sipush 107 dX4_init_104 rfl ⟨by decide, by decide⟩ ?_
  refine z_newaI 109 960 rfl rfl la_arr_int (by decide) (by decide) dX4_init_107 rfl (fun q hq => ?_)
  refine z_putPF 112 fl_X4_48 rfl fo_X4_48 (h.kx hq).1 (h.kx hq).2 dX4_init_109 rfl ?_
  obtain ⟨g13, h13⟩ := h.step (n := 13) (kd := 6) (N := 960) ⟨rfl, rfl⟩ hq
  clear h
  revert h13
  generalize sP (sA _ q 6 960) x 13 (some q) = t
  intro h
  refine z_aload_n 113 dX4_init_112 rfl rfl ?_
  refine z_sipush 116 dX4_init_113 rfl ⟨by decide, by decide⟩ ?_
  refine z_newaF 118 960 rfl rfl la_arr_float (by decide) (by decide) dX4_init_116 rfl (fun q hq => ?_)
  refine z_putPF 121 fl_X4_51 rfl fo_X4_51 (h.kx hq).1 (h.kx hq).2 dX4_init_118 rfl ?_
  obtain ⟨g14, h14⟩ := h.step (n := 14) (kd := 5) (N := 960) ⟨rfl, rfl⟩ hq
  clear h
  revert h14
  generalize sP (sA _ q 5 960) x 14 (some q) = t
  intro h
  refine z_aload_n 122 dX4_init_121 rfl rfl ?_
  refine z_bipush 124 dX4_init_122 rfl ⟨by decide, by decide⟩ ?_
  replace h := h.skip rfl
  refine z_newaI 126 9 rfl rfl la_arr_int (by decide) (by decide) dX4_init_124 rfl (fun q hq => ?_)
  refine z_putPF 129 fl_X4_54 rfl fo_X4_54 (h.kx hq).1 (h.kx hq).2 dX4_init_126 rfl ?_
  obtain ⟨g16, h16⟩ := h.step (n := 16) (kd := 6) (N := 9) ⟨rfl, rfl⟩ hq
  clear h
  revert h16
  generalize sP (sA _ q 6 9) x 16 (some q) = t
  intro h
  refine z_aload_n 130 dX4_init_129 rfl rfl ?_
  refine z_bipush 132 dX4_init_130 rfl ⟨by decide, by decide⟩ ?_
  refine z_newaI 134 6 rfl rfl la_arr_int (by decide) (by decide) dX4_init_132 rfl (fun q hq => ?_)
  refine z_putPF 137 fl_X4_57 rfl fo_X4_57 (h.kx hq).1 (h.kx hq).2 dX4_init_134 rfl ?_
  obtain ⟨g17, h17⟩ := h.step (n := 17) (kd := 6) (N := 6) ⟨rfl, rfl⟩ hq
  clear h
  revert h17
  generalize sP (sA _ q 6 6) x 17 (some q) = t
  intro h
  refine z_aload_n 138 dX4_init_137 rfl rfl ?_
  refine z_bipush 140 dX4_init_138 rfl ⟨by decide, by decide⟩ ?_
  replace h := h.skip rfl
  refine z_newaI 142 6 rfl rfl la_arr_int (by decide) (by decide) dX4_init_140 rfl (fun q hq => ?_)
  refine z_putPF 145 fl_X4_60 rfl fo_X4_60 (h.kx hq).1 (h.kx hq).2 dX4_init_142 rfl ?_
  obtain ⟨g19, h19⟩ := h.step (n := 19) (kd := 6) (N := 6) ⟨rfl, rfl⟩ hq
  clear h
  revert h19
  generalize sP (sA _ q 6 6) x 19 (some q) = t
  intro h
  refine z_aload_n 146 dX4_init_145 rfl rfl ?_
  refine z_bipush 148 dX4_init_146 rfl ⟨by decide, by decide⟩ ?_
  refine z_newaF 150 6 rfl rfl la_arr_float (by decide) (by decide) dX4_init_148 rfl (fun q hq => ?_)
  refine z_putPF 153 fl_X4_63 rfl fo_X4_63 (h.kx hq).1 (h.kx hq).2 dX4_init_150 rfl ?_
  obtain ⟨g20, h20⟩ := h.step (n := 20) (kd := 5) (N := 6) ⟨rfl, rfl⟩ hq
  clear h
  revert h20
  generalize sP (sA _ q 5 6) x 20 (some q) = t
  intro h
  refine z_aload_n 154 dX4_init_153 rfl rfl ?_
  refine z_bipush 156 dX4_init_154 rfl ⟨by decide, by decide⟩ ?_
  refine z_newaI 158 6 rfl rfl la_arr_int (by decide) (by decide) dX4_init_156 rfl (fun q hq => ?_)
  refine z_putPF 161 fl_X4_66 rfl fo_X4_66 (h.kx hq).1 (h.kx hq).2 dX4_init_158 rfl ?_
  obtain ⟨g21, h21⟩ := h.step (n := 21) (kd := 6) (N := 6) ⟨rfl, rfl⟩ hq
  clear h
  revert h21
  generalize sP (sA _ q 6 6) x 21 (some q) = t
  intro h
  refine z_aload_n 162 dX4_init_161 rfl rfl ?_
  refine z_bipush 164 dX4_init_162 rfl ⟨by decide, by decide⟩ ?_
  refine z_newaI 166 6 rfl rfl la_arr_int (by decide) (by decide) dX4_init_164 rfl (fun q hq => ?_)
  refine z_putPF 169 fl_X4_69 rfl fo_X4_69 (h.kx hq).1 (h.kx hq).2 dX4_init_166 rfl ?_
  obtain ⟨g22, h22⟩ := h.step (n := 22) (kd := 6) (N := 6) ⟨rfl, rfl⟩ hq
  clear h
  revert h22
  generalize sP (sA _ q 6 6) x 22 (some q) = t
  intro h
  refine z_aload_n 170 dX4_init_169 rfl rfl ?_
  refine z_bipush 172 dX4_init_170 rfl ⟨by decide, by decide⟩ ?_
  replace h := h.skip rfl
  refine z_newaI 174 10 rfl rfl la_arr_int (by decide) (by decide) dX4_init_172 rfl (fun q hq => ?_)
  refine z_putPF 177 fl_X4_72 rfl fo_X4_72 (h.kx hq).1 (h.kx hq).2 dX4_init_174 rfl ?_
  obtain ⟨g24, h24⟩ := h.step (n := 24) (kd := 6) (N := 10) ⟨rfl, rfl⟩ hq
  clear h
  revert h24
  generalize sP (sA _ q 6 10) x 24 (some q) = t
  intro h
  refine z_aload_n 178 dX4_init_177 rfl rfl ?_
  refine z_bipush 180 dX4_init_178 rfl ⟨by decide, by decide⟩ ?_
  refine z_newaI 182 120 rfl rfl la_arr_int (by decide) (by decide) dX4_init_180 rfl (fun q hq => ?_)
  refine z_putPF 185 fl_X4_75 rfl fo_X4_75 (h.kx hq).1 (h.kx hq).2 dX4_init_182 rfl ?_
  obtain ⟨g25, h25⟩ := h.step (n := 25) (kd := 6) (N := 120) ⟨rfl, rfl⟩ hq
  clear h
  revert h25
  generalize sP (sA _ q 6 120) x 25 (some q) = t
  intro h
  refine z_aload_n 186 dX4_init_185 rfl rfl ?_
  refine z_bipush 188 dX4_init_186 rfl ⟨by decide, by decide⟩ ?_
  refine z_newaZ 190 8 rfl rfl la_arr_boolean (by decide) (by decide) dX4_init_188 rfl (fun q hq => ?_)
  refine z_putPF 193 fl_X4_78 rfl fo_X4_78 (h.kx hq).1 (h.kx hq).2 dX4_init_190 rfl ?_
  obtain ⟨g26, h26⟩ := h.step (n := 26) (kd := 7) (N := 8) ⟨rfl, rfl⟩ hq
  clear h
  revert h26
  generalize sP (sA _ q 7 8) x 26 (some q) = t
  intro h
  refine z_aload_n 194 dX4_init_193 rfl rfl ?_
  refine z_bipush 196 dX4_init_194 rfl ⟨by decide, by decide⟩ ?_
  refine z_newaI 198 8 rfl rfl la_arr_int (by decide) (by decide) dX4_init_196 rfl (fun q hq => ?_)
  refine z_putPF 201 fl_X4_81 rfl fo_X4_81 (h.kx hq).1 (h.kx hq).2 dX4_init_198 rfl ?_
  obtain ⟨g27, h27⟩ := h.step (n := 27) (kd := 6) (N := 8) ⟨rfl, rfl⟩ hq
  clear h
  revert h27
  generalize sP (sA _ q 6 8) x 27 (some q) = t
  intro h
  refine z_aload_n 202 dX4_init_201 rfl rfl ?_
  refine z_bipush 204 dX4_init_202 rfl ⟨by decide, by decide⟩ ?_
  refine z_newaI 206 8 rfl rfl la_arr_int (by decide) (by decide) dX4_init_204 rfl (fun q hq => ?_)
  refine z_putPF 209 fl_X4_84 rfl fo_X4_84 (h.kx hq).1 (h.kx hq).2 dX4_init_206 rfl ?_
  obtain ⟨g28, h28⟩ := h.step (n := 28) (kd := 6) (N := 8) ⟨rfl, rfl⟩ hq
  clear h
  revert h28
  generalize sP (sA _ q 6 8) x 28 (some q) = t
  intro h
  refine z_aload_n 210 dX4_init_209 rfl rfl ?_
  refine z_bipush 212 dX4_init_210 rfl ⟨by decide, by decide⟩ ?_
  refine z_newaF 214 8 rfl rfl la_arr_float (by decide) (by decide) dX4_init_212 rfl (fun q hq => ?_)
  refine z_putPF 217 fl_X4_87 rfl fo_X4_87 (h.kx hq).1 (h.kx hq).2 dX4_init_214 rfl ?_
  obtain ⟨g29, h29⟩ := h.step (n := 29) (kd := 5) (N := 8) ⟨rfl, rfl⟩ hq
  clear h
  revert h29
  generalize sP (sA _ q 5 8) x 29 (some q) = t
  intro h
  refine z_aload_n 218 dX4_init_217 rfl rfl ?_
  refine z_bipush 220 dX4_init_218 rfl ⟨by decide, by decide⟩ ?_
  refine z_newaI 222 120 rfl rfl la_arr_int (by decide) (by decide) dX4_init_220 rfl (fun q hq => ?_)
  refine z_putPF 225 fl_X4_90 rfl fo_X4_90 (h.kx hq).1 (h.kx hq).2 dX4_init_222 rfl ?_
  obtain ⟨g30, h30⟩ := h.step (n := 30) (kd := 6) (N := 120) ⟨rfl, rfl⟩ hq
  clear h
  revert h30
  generalize sP (sA _ q 6 120) x 30 (some q) = t
  intro h
  refine z_aload_n 226 dX4_init_225 rfl rfl ?_
  refine z_bipush 228 dX4_init_226 rfl ⟨by decide, by decide⟩ ?_
  refine z_newaF 230 120 rfl rfl la_arr_float (by decide) (by decide) dX4_init_228 rfl (fun q hq => ?_)
  refine z_putPF 233 fl_X4_93 rfl fo_X4_93 (h.kx hq).1 (h.kx hq).2 dX4_init_230 rfl ?_
  obtain ⟨g31, h31⟩ := h.step (n := 31) (kd := 5) (N := 120) ⟨rfl, rfl⟩ hq
  clear h
  revert h31
  generalize sP (sA _ q 5 120) x 31 (some q) = t
  intro h
  refine z_aload_n 234 dX4_init_233 rfl rfl ?_
  refine z_sipush 237 dX4_init_234 rfl ⟨by decide, by decide⟩ ?_
  replace h := h.skip rfl
  refine z_newaZ 239 2001 rfl rfl la_arr_boolean (by decide) (by decide) dX4_init_237 rfl (fun q hq => ?_)
  refine z_putPF 242 fl_X4_96 rfl fo_X4_96 (h.kx hq).1 (h.kx hq).2 dX4_init_239 rfl ?_
  obtain ⟨g33, h33⟩ := h.step (n := 33) (kd := 7) (N := 2001) ⟨rfl, rfl⟩ hq
  clear h
  revert h33
  generalize sP (sA _ q 7 2001) x 33 (some q) = t
  intro h
  refine z_aload_n 243 dX4_init_242 rfl rfl ?_
  refine z_sipush 246 dX4_init_243 rfl ⟨by decide, by decide⟩ ?_
  refine z_newaF 248 12006 rfl rfl la_arr_float (by decide) (by decide) dX4_init_246 rfl (fun q hq => ?_)
  refine z_putPF 251 fl_X4_99 rfl fo_X4_99 (h.kx hq).1 (h.kx hq).2 dX4_init_248 rfl ?_
  obtain ⟨g34, h34⟩ := h.step (n := 34) (kd := 5) (N := 12006) ⟨rfl, rfl⟩ hq
  clear h
  revert h34
  generalize sP (sA _ q 5 12006) x 34 (some q) = t
  intro h
  refine z_aload_n 252 dX4_init_251 rfl rfl ?_
  refine z_bipush 254 dX4_init_252 rfl ⟨by decide, by decide⟩ ?_
  refine z_newaI 256 6 rfl rfl la_arr_int (by decide) (by decide) dX4_init_254 rfl (fun q hq => ?_)
  refine z_putPF 259 fl_X4_102 rfl fo_X4_102 (h.kx hq).1 (h.kx hq).2 dX4_init_256 rfl ?_
  obtain ⟨g35, h35⟩ := h.step (n := 35) (kd := 6) (N := 6) ⟨rfl, rfl⟩ hq
  clear h
  revert h35
  generalize sP (sA _ q 6 6) x 35 (some q) = t
  intro h
  refine z_iconst 260 dX4_init_259 rfl ?_
  refine z_istore_n (lv' := [(1, _), (0, _)]) 261 dX4_init_260 rfl rfl rfl ?_
  exact L261 7 0 _ _ _ h.RA (by decide) (fun K j => (if_neg (by omega)).symm) (by decide)
