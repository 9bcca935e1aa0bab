/-! TWO WORLDS SIDE BY SIDE -/
theorem Met.conseq {l : Launch} {y : MethodName} {ws : List Cond} {rm : Room} {Pc Pc' : Array Value → State → Prop} {Qc Qc' : Array Value → State → Outcome → State → Prop} {mc ms : Nat} {free free' : Addr → Prop} (hM : Met l y ws rm Pc Qc mc ms free) (hP : ∀ a s, Pc' a s → Pc a s) (hQ : ∀ a s o t, Pc' a s → Qc a s o t → Qc' a s o t) (hf : ∀ q, free q → free' q) : Met l y ws rm Pc' Qc' mc ms free' := by
  intro p e ha h1 h2 s m args below hfr hS hp hK
  obtain ⟨n, o, a, b, c, hq, L, hF, hL⟩ := hM p e ha h1 h2 s m args below hfr hS (hP _ _ hp) hK
  exact ⟨n, o, a, b, c, hQ _ _ _ _ hp hq, L, hF, fun q hq => hf _ (hL q hq)⟩
def glue (tC tR : zT) : zT := (tL tC ++ tL tR, (fun q => if q ∈ tL tR then tK tR q else tK tC q), (fun q => if q ∈ tL tR then tN tR q else tN tC q), (fun q => if q ∈ tL tR then tI tR q else tI tC q), (fun q => if q ∈ tL tR then tF tR q else tF tC q), (fun q => if q ∈ tL tR then tP tR q else tP tC q))
theorem glue_R {tC tR : zT} {q : Nat} (h : q ∈ tL tR) : tK (glue tC tR) q = tK tR q ∧ tN (glue tC tR) q = tN tR q ∧ tI (glue tC tR) q = tI tR q ∧ tF (glue tC tR) q = tF tR q ∧ tP (glue tC tR) q = tP tR q := ⟨if_pos h, if_pos h, if_pos h, if_pos h, if_pos h⟩
theorem glue_C {tC tR : zT} {q : Nat} (h : q ∉ tL tR) : tK (glue tC tR) q = tK tC q ∧ tN (glue tC tR) q = tN tC q ∧ tI (glue tC tR) q = tI tC q ∧ tF (glue tC tR) q = tF tC q ∧ tP (glue tC tR) q = tP tC q := ⟨if_neg h, if_neg h, if_neg h, if_neg h, if_neg h⟩
section GL
variable {cy : Nat → ClassId} {D : va_G} {tC tR t t1 : zT} {A : Nat → Prop} {sz : Nat} {H : Heap}
theorem zA_iff {q : Nat} : va_A (zW cy t) sz q ↔ q ∈ tL t ∨ sz ≤ q := by
  constructor
  · rintro (⟨k, e, h⟩ | h)
    · have h2 : ((tL t).map (fun a => (a, zE cy t a)))[k]? = some (q, e) := h
      rw [List.getElem?_map] at h2
      cases h3 : (tL t)[k]? with
      | none => rw [h3] at h2; cases h2
      | some z =>
        rw [h3] at h2
        have h4 : z = q := congrArg Prod.fst (Option.some.inj h2)
        rw [← h4]; exact Or.inl (List.mem_of_getElem? h3)
    · exact Or.inr h
  · rintro (h | h)
    · obtain ⟨k, hk⟩ := zW_get (cy := cy) h
      exact Or.inl ⟨k, _, hk⟩
    · exact Or.inr h
theorem zP_mem (h : va_P D vwCl (zW cy t) H) {q : Nat} (hq : q ∈ tL t) : va_at D vwCl (q, zE cy t q) H := by
  obtain ⟨k, hk⟩ := zW_get (cy := cy) hq
  exact h k _ hk
theorem zW_some {k : Nat} {q : Nat × va_E} (h : (zW cy t)[k]? = some q) : (tL t)[k]? = some q.1 ∧ q.2 = zE cy t q.1 := by
  have h2 : ((tL t).map (fun a => (a, zE cy t a)))[k]? = some q := h
  rw [List.getElem?_map] at h2
  cases h3 : (tL t)[k]? with
  | none => rw [h3] at h2; cases h2
  | some z =>
    rw [h3] at h2
    have h4 : (z, zE cy t z) = q := Option.some.inj h2
    rw [← h4]; exact ⟨rfl, rfl⟩
theorem zP_of (h : ∀ q, q ∈ tL t → va_at D vwCl (q, zE cy t q) H) : va_P D vwCl (zW cy t) H := fun k q hk => by
  obtain ⟨h1, h2⟩ := zW_some hk
  have h3 := h q.1 (List.mem_of_getElem? h1)
  rw [← h2] at h3
  exact h3
theorem zD_mem (h : va_D A (zW cy t)) {q : Nat} (hq : q ∈ tL t) : A q := by
  obtain ⟨k, hk⟩ := zW_get (cy := cy) hq
  exact h.2 k _ hk
/-- the addresses are apart -/
def zND (l : List Nat) : Prop := ∀ i j q : Nat, l[i]? = some q → l[j]? = some q → i = j
theorem zD_nd (h : va_D A (zW cy t)) : zND (tL t) := fun i j q hi hj => by
  have g : ∀ k : Nat, (tL t)[k]? = some q → (zW cy t)[k]? = some (q, zE cy t q) := fun k hk => by
    show ((tL t).map (fun a => (a, zE cy t a)))[k]? = _
    rw [List.getElem?_map, hk]; rfl
  exact h.1 i j _ _ (g i hi) (g j hj) rfl
theorem zD_of (hn : zND (tL t)) (h : ∀ q, q ∈ tL t → A q) : va_D A (zW cy t) := by
  refine ⟨fun i j p q hi hj e => ?_, fun k q hk => h _ (List.mem_of_getElem? (zW_some hk).1)⟩
  have h1 := (zW_some hi).1
  have h2 := (zW_some hj).1
  rw [← e] at h2
  exact hn i j _ h1 h2
theorem zND_app {l1 l2 : List Nat} : zND (l1 ++ l2) ↔ zND l1 ∧ zND l2 ∧ ∀ q, q ∈ l1 → q ∉ l2 := by
  have gl : ∀ {i q : Nat}, l1[i]? = some q → (l1 ++ l2)[i]? = some q := fun {i q} h => by
    have hi : i < l1.length := by
      by_cases c : i < l1.length
      · exact c
      · rw [List.getElem?_eq_none (by omega)] at h; cases h
    rw [List.getElem?_append_left hi]; exact h
  have gr : ∀ {i q : Nat}, l2[i]? = some q → (l1 ++ l2)[l1.length + i]? = some q := fun {i q} h => by
    rw [List.getElem?_append_right (by omega), show l1.length + i - l1.length = i by omega]; exact h
  constructor
  · intro h
    refine ⟨fun i j q hi hj => h i j q (gl hi) (gl hj), fun i j q hi hj => ?_, fun q h1 h2 => ?_⟩
    · have := h _ _ q (gr hi) (gr hj); omega
    · obtain ⟨i, hi⟩ := List.getElem?_of_mem h1
      obtain ⟨j, hj⟩ := List.getElem?_of_mem h2
      have h3 := h _ _ q (gl hi) (gr hj)
      have h4 : i < l1.length := by
        by_cases c : i < l1.length
        · exact c
        · rw [List.getElem?_eq_none (by omega)] at hi; cases hi
      omega
  · rintro ⟨h1, h2, h3⟩ i j q hi hj
    have sp : ∀ {k : Nat}, (l1 ++ l2)[k]? = some q → (k < l1.length ∧ l1[k]? = some q) ∨ (l1.length ≤ k ∧ l2[k - l1.length]? = some q) := fun {k} hk => by
      by_cases c : k < l1.length
      · rw [List.getElem?_append_left c] at hk; exact Or.inl ⟨c, hk⟩
      · rw [List.getElem?_append_right (by omega)] at hk; exact Or.inr ⟨by omega, hk⟩
    rcases sp hi with ⟨a, b⟩ | ⟨a, b⟩ <;> rcases sp hj with ⟨c, d⟩ | ⟨c, d⟩
    · exact h1 i j q b d
    · exact absurd (List.mem_of_getElem? d) (h3 q (List.mem_of_getElem? b))
    · exact absurd (List.mem_of_getElem? b) (h3 q (List.mem_of_getElem? d))
    · have := h2 _ _ q b d; omega
theorem zE_glueR {q : Nat} (h : q ∈ tL tR) : zE cy (glue tC tR) q = zE cy tR q := by
  obtain ⟨a, b, c, d, e⟩ := glue_R (tC := tC) h
  exact zE_congr a b (fun j => congrFun c j) (fun j => congrFun d j) (fun j => congrFun e j)
theorem zE_glueC {q : Nat} (h : q ∉ tL tR) : zE cy (glue tC tR) q = zE cy tC q := by
  obtain ⟨a, b, c, d, e⟩ := glue_C (tC := tC) h
  exact zE_congr a b (fun j => congrFun c j) (fun j => congrFun d j) (fun j => congrFun e j)
theorem glue_P (hn : zND (tL tC ++ tL tR)) : va_P D vwCl (zW cy (glue tC tR)) H ↔ va_P D vwCl (zW cy tC) H ∧ va_P D vwCl (zW cy tR) H := by
  have hd := (zND_app.mp hn).2.2
  constructor
  · intro h
    refine ⟨zP_of fun q hq => ?_, zP_of fun q hq => ?_⟩
    · have := zP_mem h (q := q) (List.mem_append_left _ hq)
      rw [zE_glueC (hd q hq)] at this; exact this
    · have := zP_mem h (q := q) (List.mem_append_right _ hq)
      rw [zE_glueR hq] at this; exact this
  · rintro ⟨h1, h2⟩
    refine zP_of fun q hq => ?_
    by_cases c : q ∈ tL tR
    · rw [zE_glueR c]; exact zP_mem h2 c
    · rw [zE_glueC c]
      rcases List.mem_append.mp hq with h | h
      · exact zP_mem h1 h
      · exact absurd h c
variable {y : MethodName} {b : ByteArray} {nL : Nat} {ret : Option FieldType} {d mc ms : Nat} {as : List zV} {P1 : Option zV → zT → Prop}
theorem zB_part (hs : ∀ q, q ∈ tL t1 → q ∈ tL t) (hn : zND (tL t1)) (hP : ∀ H : Heap, va_P D vwCl (zW cy t) H → va_P D vwCl (zW cy t1) H) {U : State} (h : zB cy D t sz U) : zB cy D t1 sz U := by
  obtain ⟨q0, q1, q2, qK, qN, ⟨ta, qA1, qA2⟩, qO⟩ := h
  have hA : ∀ q, va_A (zW cy t1) sz q → va_A (zW cy t) sz q := fun q hq => zA_iff.mpr ((zA_iff.mp hq).imp (hs q) id)
  exact ⟨q0, hP _ q1, zD_of hn (fun _ _ => trivial), qK, qN, ⟨ta, qA1.narrow hA, qA2.narrow hA⟩, qO⟩
theorem zM.glueL (h : zM y b nL ret d mc ms as tC P1) : zM y b nL ret d mc ms as (glue tC tR) (fun r t => ∃ t1, P1 r t1 ∧ t = glue t1 tR ∧ ∀ q, q ∈ tL t1 → q ∉ tL tR) := by
  intro l D cy sz
  refine (h l D cy sz).conseq (fun a U hp => ?_) (fun a s o t hp hq => ?_) (fun q hq => zA_iff.mpr ((zA_iff.mp hq).imp (fun z => List.mem_append_left _ z) id))
  · obtain ⟨rfl, hB⟩ := hp
    have hn : zND (tL tC ++ tL tR) := zD_nd hB.2.2.1
    exact ⟨rfl, zB_part (fun q hq => List.mem_append_left _ hq) (zND_app.mp hn).1 (fun H hP => ((glue_P hn).mp hP).1) hB⟩
  · obtain ⟨-, hB⟩ := hp
    have hn : zND (tL tC ++ tL tR) := zD_nd hB.2.2.1
    obtain ⟨n1, n2, n3⟩ := zND_app.mp hn
    obtain ⟨⟨r, t1, ho, hP1, hPt, hDt, hKt⟩, hF1, hF2⟩ := hq
    obtain ⟨pC, pR⟩ := (glue_P hn).mp hB.2.1
    have hsz := hB.1
    have hlt : ∀ q, q ∈ tL tR → q < sz := fun q hq => hsz ▸ (zP_mem pR hq).lt
    have hdis : ∀ q, q ∈ tL t1 → q ∉ tL tR := fun q h1 h2 => by
      rcases zA_iff.mp (zD_mem hDt h1) with z | z
      · exact n3 q z h2
      · have := hlt q h2; omega
    have hn1 : zND (tL t1 ++ tL tR) := zND_app.mpr ⟨zD_nd hDt, n2, hdis⟩
    refine ⟨⟨r, glue t1 tR, ho, ⟨t1, hP1, rfl, hdis⟩, (glue_P hn1).mpr ⟨hPt, zP_of fun q hq => ?_⟩, zD_of hn1 (fun q hq => ?_), hKt⟩, hF1, fun q h1 h2 => hF2 q h1 (fun z => h2 (zA_iff.mpr ((zA_iff.mp z).imp (fun z => List.mem_append_left _ z) id)))⟩
    · refine (zP_mem pR hq).kept (hF2 q (by have := hlt q hq; omega) (fun z => ?_))
      rcases zA_iff.mp z with z | z
      · exact n3 q z hq
      · have := hlt q hq; omega
    · rcases List.mem_append.mp hq with z | z
      · exact zA_iff.mpr ((zA_iff.mp (zD_mem hDt z)).imp (fun z => List.mem_append_left _ z) id)
      · exact zA_iff.mpr (Or.inl (List.mem_append_right _ z))
theorem zM.glueR (h : zM y b nL ret d mc ms as tR P1) : zM y b nL ret d mc ms as (glue tC tR) (fun r t => ∃ t1, P1 r t1 ∧ t = glue tC t1 ∧ ∀ q, q ∈ tL tC → q ∉ tL t1) := by
  intro l D cy sz
  refine (h l D cy sz).conseq (fun a U hp => ?_) (fun a s o t hp hq => ?_) (fun q hq => zA_iff.mpr ((zA_iff.mp hq).imp (fun z => List.mem_append_right _ z) id))
  · obtain ⟨rfl, hB⟩ := hp
    have hn : zND (tL tC ++ tL tR) := zD_nd hB.2.2.1
    exact ⟨rfl, zB_part (fun q hq => List.mem_append_right _ hq) (zND_app.mp hn).2.1 (fun H hP => ((glue_P hn).mp hP).2) hB⟩
  · obtain ⟨-, hB⟩ := hp
    have hn : zND (tL tC ++ tL tR) := zD_nd hB.2.2.1
    obtain ⟨n1, n2, n3⟩ := zND_app.mp hn
    obtain ⟨⟨r, t1, ho, hP1, hPt, hDt, hKt⟩, hF1, hF2⟩ := hq
    obtain ⟨pC, pR⟩ := (glue_P hn).mp hB.2.1
    have hsz := hB.1
    have hlt : ∀ q, q ∈ tL tC → q < sz := fun q hq => hsz ▸ (zP_mem pC hq).lt
    have hdis : ∀ q, q ∈ tL tC → q ∉ tL t1 := fun q h2 h1 => by
      rcases zA_iff.mp (zD_mem hDt h1) with z | z
      · exact n3 q h2 z
      · have := hlt q h2; omega
    have hn1 : zND (tL tC ++ tL t1) := zND_app.mpr ⟨n1, zD_nd hDt, hdis⟩
    refine ⟨⟨r, glue tC t1, ho, ⟨t1, hP1, rfl, hdis⟩, (glue_P hn1).mpr ⟨zP_of fun q hq => ?_, hPt⟩, zD_of hn1 (fun q hq => ?_), hKt⟩, hF1, fun q h1 h2 => hF2 q h1 (fun z => h2 (zA_iff.mpr ((zA_iff.mp z).imp (fun z => List.mem_append_right _ z) id)))⟩
    · refine (zP_mem pC hq).kept (hF2 q (by have := hlt q hq; omega) (fun z => ?_))
      rcases zA_iff.mp z with z | z
      · exact n3 q hq z
      · have := hlt q hq; omega
    · rcases List.mem_append.mp hq with z | z
      · exact zA_iff.mpr (Or.inl (List.mem_append_left _ z))
      · exact zA_iff.mpr ((zA_iff.mp (zD_mem hDt z)).imp (fun z => List.mem_append_right _ z) id)
end GL
