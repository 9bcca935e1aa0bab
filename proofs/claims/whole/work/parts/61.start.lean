set_option maxHeartbeats 4000000 in
set_option maxRecDepth 100000 in
theorem whole_start {p : Program} {e : Env} {s : State} {m : MethodId} {below : List Frame} {meth : Method} {c : Code} (l : Launch) (hflags : l.flags = flags0) {b L : Nat} {xs : Nat → Int32} (hL : L ≤ 3072) (C0 : lw_At p s m meth c b L xs) : W p l e room_1 s m #[Value.ref b] below meth c s.heap [] 0 0 (lw_Z below #[Value.ref b] s) (entryFrame m ([Value.ref b] : List Value).toArray 8) := by
  obtain ⟨hx, hb, hr, hml, hown, hts, hX, hbl, hlocks, hgv⟩ := C0
  have hall : ∀ w ∈ lw_all, w.before #[Value.ref b] s = true := fun w hw => hts w (lw_all_tbl hw)
  have hns : ∀ w ∈ lw_nst, va_Nw w s := fun w hw => va_Nw.of (zNest_tab (List.mem_filter.mp hw).2) (hts w (List.mem_filter.mp hw).1)
  obtain ⟨c0, i0, k0⟩ := u_known (C := RX0) (T := TX0) (N := 6) (n := 6) hall zin_X0 (hts (.instantiable RX0 6) (by decide +kernel))
  obtain ⟨c1, i1, k1⟩ := u_known (C := RX1) (T := TX1) (N := 14) (n := 14) hall zin_X1 (hts (.instantiable RX1 14) (by decide +kernel))
  obtain ⟨c2, i2, k2⟩ := u_known (C := RX2) (T := TX2) (N := 4) (n := 4) hall zin_X2 (hts (.instantiable RX2 4) (by decide +kernel))
  obtain ⟨c3, i3, k3⟩ := u_known (C := RX3) (T := TX3) (N := 9) (n := 9) hall zin_X3 (hts (.instantiable RX3 9) (by decide +kernel))
  obtain ⟨c4, i4, k4⟩ := u_known (C := RX4) (T := TX4) (N := 36) (n := 36) hall zin_X4 (hts (.instantiable RX4 36) (by decide +kernel))
  obtain ⟨a5, y5, p5, e5, f5, g5⟩ := Cond.arrayClass_spec (hts (.arrayClass .float) (by decide +kernel))
  obtain ⟨a6, y6, p6, e6, f6, g6⟩ := Cond.arrayClass_spec (hts (.arrayClass .int) (by decide +kernel))
  obtain ⟨a7, y7, p7, e7, f7, g7⟩ := Cond.arrayClass_spec (hts (.arrayClass .boolean) (by decide +kernel))
  have h8 := hts (.arrayOver (.object RX0)) (by decide +kernel)
  have h9 := hts (.arrayOver (.object RX1)) (by decide +kernel)
  have h10 := hts (.arrayOver (.object RX2)) (by decide +kernel)
  obtain ⟨p8, a8, y8, d8, -, f8, g8, e8⟩ := Cond.arrayOver_spec h8
  obtain ⟨p9, a9, y9, d9, -, f9, g9, e9⟩ := Cond.arrayOver_spec h9
  obtain ⟨p10, a10, y10, d10, -, f10, g10, e10⟩ := Cond.arrayOver_spec h10
  have hA : ∀ a : Nat, a < s.heap.size → ¬ s.heap.size ≤ a := fun a h => Nat.not_le.mpr h
  have hs := flat_of_before _ hgv
  obtain ⟨ta, t1, t2⟩ := va_Tof (N := 6) (f := zab) (tm := .static "RopeWalk" "ABOVE" "[I") (ty := .int) (A := fun q : Nat => s.heap.size ≤ q) (by decide) (hs _ (by decide +kernel)) (va_eqt (z := 6) (hs _ (by decide +kernel))) (fun j hj => by
    have hj2 : j = 0 ∨ j = 1 ∨ j = 2 ∨ j = 3 ∨ j = 4 ∨ j = 5 := by omega
    rcases hj2 with rfl | rfl | rfl | rfl | rfl | rfl
    · exact va_eqt (z := -1) (hs _ (by decide +kernel))
    · exact va_eqt (z := 0) (hs _ (by decide +kernel))
    · exact va_eqt (z := 1) (hs _ (by decide +kernel))
    · exact va_eqt (z := 2) (hs _ (by decide +kernel))
    · exact va_eqt (z := 0) (hs _ (by decide +kernel))
    · exact va_eqt (z := 2) (hs _ (by decide +kernel))) hA
  have hZ := va_Zref (A := fun q : Nat => s.heap.size ≤ q) (hts (.laysStatic "RopeWalk" "ABOVE" "[I") (by decide +kernel)) (hts (.initialized "RopeWalk") (by decide +kernel)) t1 hA
  have hls := lv_entry ([Value.ref b] : List Value) (n := 8) (Nat.le_of_ble_eq_true rfl)
  rw [lg_entry_eq]
  refine law_all (bx := (b, L, xs)) hL p l e s m #[Value.ref b] below meth c ((fun k => if k = 0 then c0 else if k = 1 then c1 else if k = 2 then c2 else if k = 3 then c3 else c4), (fun k => if k = 0 then i0 else if k = 1 then i1 else if k = 2 then i2 else if k = 3 then i3 else i4))
    (fun k => if k = 5 then a5 else if k = 6 then a6 else if k = 7 then a7 else if k = 8 then a8 else if k = 9 then a9 else a10) (fun q => s.heap.size ≤ q)
    ⟨hx, hb, hr, hall, hns, hown, hml, hlocks, rfl, ⟨fun k q hq => ?_, fun k q hq => ?_⟩, fun q h => h, ⟨ta, hZ, t2⟩, ⟨va_AO.of h8, va_AO.of h9, va_AO.of h10⟩⟩ ⟨rfl, hX, hbl, Nat.not_le.mpr hbl, fun q h => h⟩ s.heap [] _ ⟨zP_of (t := ze) (fun q hq => by cases hq), zD_of (t := ze) (fun i j q hi => by cases hi) (fun q hq => by cases hq), va_S.rf⟩ hls
  · match k, hq with
    | 0, hq => cases hq; exact k0
    | 1, hq => cases hq; exact k1
    | 2, hq => cases hq; exact k2
    | 3, hq => cases hq; exact k3
    | 4, hq => cases hq; exact k4
    | k + 5, hq => cases hq
  · match k, hq with
    | 0, hq => cases hq; exact ⟨fun n z => ⟨fun k h => (by cases h), y5, f5, p5, g5⟩, e5⟩
    | 1, hq => cases hq; exact ⟨fun n z => ⟨fun k h => (by cases h), y6, f6, p6, g6⟩, e6⟩
    | 2, hq => cases hq; exact ⟨fun n z => ⟨fun k h => (by cases h), y7, f7, p7, g7⟩, e7⟩
    | 3, hq => cases hq; exact ⟨fun n z => ⟨fun k h => (by cases h), y8, f8, p8, g8⟩, y8, p8, f8, g8, d8, e8⟩
    | 4, hq => cases hq; exact ⟨fun n z => ⟨fun k h => (by cases h), y9, f9, p9, g9⟩, y9, p9, f9, g9, d9, e9⟩
    | 5, hq => cases hq; exact ⟨fun n z => ⟨fun k h => (by cases h), y10, f10, p10, g10⟩, y10, p10, f10, g10, d10, e10⟩
    | k + 6, hq => cases hq
