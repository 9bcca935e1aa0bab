theorem zin_X0 : ∀ w ∈ u_ws RX0 TX0 6, w ∈ lw_all := by decide +kernel
theorem zdf_X0 : ∀ k, k < 6 → defaultValue (tyX0 k) = if zTg 0 k = 0 then .int 0 else if zTg 0 k = 1 then .float 0 else .null := by decide +kernel
theorem zin_X1 : ∀ w ∈ u_ws RX1 TX1 14, w ∈ lw_all := by decide +kernel
theorem zdf_X1 : ∀ k, k < 14 → defaultValue (tyX1 k) = if zTg 1 k = 0 then .int 0 else if zTg 1 k = 1 then .float 0 else .null := by decide +kernel
theorem zin_X2 : ∀ w ∈ u_ws RX2 TX2 4, w ∈ lw_all := by decide +kernel
theorem zdf_X2 : ∀ k, k < 4 → defaultValue (tyX2 k) = if zTg 2 k = 0 then .int 0 else if zTg 2 k = 1 then .float 0 else .null := by decide +kernel
theorem zin_X3 : ∀ w ∈ u_ws RX3 TX3 9, w ∈ lw_all := by decide +kernel
theorem zdf_X3 : ∀ k, k < 9 → defaultValue (tyX3 k) = if zTg 3 k = 0 then .int 0 else if zTg 3 k = 1 then .float 0 else .null := by decide +kernel
theorem zin_X4 : ∀ w ∈ u_ws RX4 TX4 36, w ∈ lw_all := by decide +kernel
theorem zdf_X4 : ∀ k, k < 36 → defaultValue (tyX4 k) = if zTg 4 k = 0 then .int 0 else if zTg 4 k = 1 then .float 0 else .null := by decide +kernel
/-- RopeWalk$Order.reel -/
theorem fl_X0_7 : zFL RX0 7 0 2 0 false := ⟨RX0, TX0, 6, tyX0, rfl, by decide, rfl, by decide, zin_X0, rfl, rfl, rfl, tyX0_ok, nmX0, fun _ => rfl, fun h => absurd h (by decide), fun h => absurd h (by decide), Or.inl (zin (i := 443) (by decide +kernel) rfl)⟩
/-- RopeWalk$Order.trialReel -/
theorem fl_X0_13 : zFL RX0 13 0 4 0 false := ⟨RX0, TX0, 6, tyX0, rfl, by decide, rfl, by decide, zin_X0, rfl, rfl, rfl, tyX0_ok, nmX0, fun _ => rfl, fun h => absurd h (by decide), fun h => absurd h (by decide), Or.inl (zin (i := 446) (by decide +kernel) rfl)⟩
/-- RopeWalk$Order.length -/
theorem fl_X0_16 : zFL RX0 16 0 0 0 true := ⟨RX0, TX0, 6, tyX0, rfl, by decide, rfl, by decide, zin_X0, rfl, rfl, rfl, tyX0_ok, nmX0, fun _ => rfl, fun h => absurd h (by decide), fun h => absurd h (by decide), Or.inl (zin (i := 439) (by decide +kernel) rfl)⟩
theorem fo_X0_16 : zFLo RX0 16 0 0 := ⟨⟨_, rfl, rfl⟩, fun C F N h => by cases h; exact zin (i := 439) (by decide +kernel) rfl⟩
/-- RopeWalk$Order.need -/
theorem fl_X0_19 : zFL RX0 19 0 1 1 true := ⟨RX0, TX0, 6, tyX0, rfl, by decide, rfl, by decide, zin_X0, rfl, rfl, rfl, tyX0_ok, nmX0, fun h => absurd h (by decide), fun _ => rfl, fun h => absurd h (by decide), Or.inl (zin (i := 441) (by decide +kernel) rfl)⟩
theorem fo_X0_19 : zFLo RX0 19 0 1 := ⟨⟨_, rfl, rfl⟩, fun C F N h => by cases h; exact zin (i := 441) (by decide +kernel) rfl⟩
/-- RopeWalk$Piece.state -/
theorem fl_X1_9 : zFL RX1 9 1 8 0 false := ⟨RX1, TX1, 14, tyX1, rfl, by decide, rfl, by decide, zin_X1, rfl, rfl, rfl, tyX1_ok, nmX1, fun _ => rfl, fun h => absurd h (by decide), fun h => absurd h (by decide), Or.inl (zin (i := 145) (by decide +kernel) rfl)⟩
/-- RopeWalk$Piece.partOf -/
theorem fl_X1_15 : zFL RX1 15 1 9 0 false := ⟨RX1, TX1, 14, tyX1, rfl, by decide, rfl, by decide, zin_X1, rfl, rfl, rfl, tyX1_ok, nmX1, fun _ => rfl, fun h => absurd h (by decide), fun h => absurd h (by decide), Or.inl (zin (i := 147) (by decide +kernel) rfl)⟩
/-- RopeWalk$Piece.spots -/
theorem fl_X1_18 : zFL RX1 18 1 10 0 false := ⟨RX1, TX1, 14, tyX1, rfl, by decide, rfl, by decide, zin_X1, rfl, rfl, rfl, tyX1_ok, nmX1, fun _ => rfl, fun h => absurd h (by decide), fun h => absurd h (by decide), Or.inl (zin (i := 149) (by decide +kernel) rfl)⟩
/-- RopeWalk$Piece.from -/
theorem fl_X1_21 : zFL RX1 21 1 11 2 true := ⟨RX1, TX1, 14, tyX1, rfl, by decide, rfl, by decide, zin_X1, rfl, rfl, rfl, tyX1_ok, nmX1, fun h => absurd h (by decide), fun h => absurd h (by decide), fun _ => Or.inr ⟨_, rfl⟩, Or.inl (zin (i := 151) (by decide +kernel) rfl)⟩
theorem fo_X1_21 : zFLo RX1 21 1 11 := ⟨⟨_, rfl, rfl⟩, fun C F N h => by cases h; exact zin (i := 151) (by decide +kernel) rfl⟩
/-- RopeWalk$Piece.to -/
theorem fl_X1_25 : zFL RX1 25 1 12 2 true := ⟨RX1, TX1, 14, tyX1, rfl, by decide, rfl, by decide, zin_X1, rfl, rfl, rfl, tyX1_ok, nmX1, fun h => absurd h (by decide), fun h => absurd h (by decide), fun _ => Or.inr ⟨_, rfl⟩, Or.inl (zin (i := 153) (by decide +kernel) rfl)⟩
theorem fo_X1_25 : zFLo RX1 25 1 12 := ⟨⟨_, rfl, rfl⟩, fun C F N h => by cases h; exact zin (i := 153) (by decide +kernel) rfl⟩
/-- RopeWalk$Piece.share -/
theorem fl_X1_28 : zFL RX1 28 1 13 2 true := ⟨RX1, TX1, 14, tyX1, rfl, by decide, rfl, by decide, zin_X1, rfl, rfl, rfl, tyX1_ok, nmX1, fun h => absurd h (by decide), fun h => absurd h (by decide), fun _ => Or.inr ⟨_, rfl⟩, Or.inl (zin (i := 155) (by decide +kernel) rfl)⟩
theorem fo_X1_28 : zFLo RX1 28 1 13 := ⟨⟨_, rfl, rfl⟩, fun C F N h => by cases h; exact zin (i := 155) (by decide +kernel) rfl⟩
/-- RopeWalk$Piece.number -/
theorem fl_X1_31 : zFL RX1 31 1 0 0 true := ⟨RX1, TX1, 14, tyX1, rfl, by decide, rfl, by decide, zin_X1, rfl, rfl, rfl, tyX1_ok, nmX1, fun _ => rfl, fun h => absurd h (by decide), fun h => absurd h (by decide), Or.inl (zin (i := 132) (by decide +kernel) rfl)⟩
theorem fo_X1_31 : zFLo RX1 31 1 0 := ⟨⟨_, rfl, rfl⟩, fun C F N h => by cases h; exact zin (i := 132) (by decide +kernel) rfl⟩
/-- RopeWalk$Piece.kind -/
theorem fl_X1_34 : zFL RX1 34 1 1 0 true := ⟨RX1, TX1, 14, tyX1, rfl, by decide, rfl, by decide, zin_X1, rfl, rfl, rfl, tyX1_ok, nmX1, fun _ => rfl, fun h => absurd h (by decide), fun h => absurd h (by decide), Or.inl (zin (i := 134) (by decide +kernel) rfl)⟩
theorem fo_X1_34 : zFLo RX1 34 1 1 := ⟨⟨_, rfl, rfl⟩, fun C F N h => by cases h; exact zin (i := 134) (by decide +kernel) rfl⟩
/-- RopeWalk$Piece.length -/
theorem fl_X1_37 : zFL RX1 37 1 2 0 true := ⟨RX1, TX1, 14, tyX1, rfl, by decide, rfl, by decide, zin_X1, rfl, rfl, rfl, tyX1_ok, nmX1, fun _ => rfl, fun h => absurd h (by decide), fun h => absurd h (by decide), Or.inl (zin (i := 136) (by decide +kernel) rfl)⟩
theorem fo_X1_37 : zFLo RX1 37 1 2 := ⟨⟨_, rfl, rfl⟩, fun C F N h => by cases h; exact zin (i := 136) (by decide +kernel) rfl⟩
/-- RopeWalk$Piece.twist -/
theorem fl_X1_40 : zFL RX1 40 1 3 0 true := ⟨RX1, TX1, 14, tyX1, rfl, by decide, rfl, by decide, zin_X1, rfl, rfl, rfl, tyX1_ok, nmX1, fun _ => rfl, fun h => absurd h (by decide), fun h => absurd h (by decide), Or.inl (zin (i := 138) (by decide +kernel) rfl)⟩
theorem fo_X1_40 : zFLo RX1 40 1 3 := ⟨⟨_, rfl, rfl⟩, fun C F N h => by cases h; exact zin (i := 138) (by decide +kernel) rfl⟩
/-- RopeWalk$Piece.parts -/
theorem fl_X1_43 : zFL RX1 43 1 4 2 true := ⟨RX1, TX1, 14, tyX1, rfl, by decide, rfl, by decide, zin_X1, rfl, rfl, rfl, tyX1_ok, nmX1, fun h => absurd h (by decide), fun h => absurd h (by decide), fun _ => Or.inr ⟨_, rfl⟩, Or.inl (zin (i := 140) (by decide +kernel) rfl)⟩
theorem fo_X1_43 : zFLo RX1 43 1 4 := ⟨⟨_, rfl, rfl⟩, fun C F N h => by cases h; exact zin (i := 140) (by decide +kernel) rfl⟩
/-- RopeWalk$Reel.borne -/
theorem fl_X2_9 : zFL RX2 9 2 2 2 true := ⟨RX2, TX2, 4, tyX2, rfl, by decide, rfl, by decide, zin_X2, rfl, rfl, rfl, tyX2_ok, nmX2, fun h => absurd h (by decide), fun h => absurd h (by decide), fun _ => Or.inr ⟨_, rfl⟩, Or.inl (zin (i := 74) (by decide +kernel) rfl)⟩
theorem fo_X2_9 : zFLo RX2 9 2 2 := ⟨⟨_, rfl, rfl⟩, fun C F N h => by cases h; exact zin (i := 74) (by decide +kernel) rfl⟩
/-- RopeWalk$Reel.ends -/
theorem fl_X2_15 : zFL RX2 15 2 3 2 true := ⟨RX2, TX2, 4, tyX2, rfl, by decide, rfl, by decide, zin_X2, rfl, rfl, rfl, tyX2_ok, nmX2, fun h => absurd h (by decide), fun h => absurd h (by decide), fun _ => Or.inr ⟨_, rfl⟩, Or.inl (zin (i := 76) (by decide +kernel) rfl)⟩
theorem fo_X2_15 : zFLo RX2 15 2 3 := ⟨⟨_, rfl, rfl⟩, fun C F N h => by cases h; exact zin (i := 76) (by decide +kernel) rfl⟩
/-- RopeWalk.pieces -/
theorem fl_X3_11 : zFL RX3 11 3 0 2 true := ⟨RX3, TX3, 9, tyX3, rfl, by decide, rfl, by decide, zin_X3, rfl, rfl, rfl, tyX3_ok, nmX3, fun h => absurd h (by decide), fun h => absurd h (by decide), fun _ => Or.inr ⟨_, rfl⟩, Or.inl (zin (i := 89) (by decide +kernel) rfl)⟩
theorem fo_X3_11 : zFLo RX3 11 3 0 := ⟨⟨_, rfl, rfl⟩, fun C F N h => by cases h; exact zin (i := 89) (by decide +kernel) rfl⟩
/-- RopeWalk.picked -/
theorem fl_X3_15 : zFL RX3 15 3 2 2 true := ⟨RX3, TX3, 9, tyX3, rfl, by decide, rfl, by decide, zin_X3, rfl, rfl, rfl, tyX3_ok, nmX3, fun h => absurd h (by decide), fun h => absurd h (by decide), fun _ => Or.inr ⟨_, rfl⟩, Or.inl (zin (i := 91) (by decide +kernel) rfl)⟩
theorem fo_X3_15 : zFLo RX3 15 3 2 := ⟨⟨_, rfl, rfl⟩, fun C F N h => by cases h; exact zin (i := 91) (by decide +kernel) rfl⟩
/-- RopeWalk.reels -/
theorem fl_X3_20 : zFL RX3 20 3 4 2 true := ⟨RX3, TX3, 9, tyX3, rfl, by decide, rfl, by decide, zin_X3, rfl, rfl, rfl, tyX3_ok, nmX3, fun h => absurd h (by decide), fun h => absurd h (by decide), fun _ => Or.inr ⟨_, rfl⟩, Or.inl (zin (i := 93) (by decide +kernel) rfl)⟩
theorem fo_X3_20 : zFLo RX3 20 3 4 := ⟨⟨_, rfl, rfl⟩, fun C F N h => by cases h; exact zin (i := 93) (by decide +kernel) rfl⟩
/-- RopeWalk.orders -/
theorem fl_X3_26 : zFL RX3 26 3 5 2 true := ⟨RX3, TX3, 9, tyX3, rfl, by decide, rfl, by decide, zin_X3, rfl, rfl, rfl, tyX3_ok, nmX3, fun h => absurd h (by decide), fun h => absurd h (by decide), fun _ => Or.inr ⟨_, rfl⟩, Or.inl (zin (i := 94) (by decide +kernel) rfl)⟩
theorem fo_X3_26 : zFLo RX3 26 3 5 := ⟨⟨_, rfl, rfl⟩, fun C F N h => by cases h; exact zin (i := 94) (by decide +kernel) rfl⟩
/-- RopeWalk.stages -/
theorem fl_X3_30 : zFL RX3 30 3 7 2 true := ⟨RX3, TX3, 9, tyX3, rfl, by decide, rfl, by decide, zin_X3, rfl, rfl, rfl, tyX3_ok, nmX3, fun h => absurd h (by decide), fun h => absurd h (by decide), fun _ => Or.inr ⟨_, rfl⟩, Or.inl (zin (i := 96) (by decide +kernel) rfl)⟩
theorem fo_X3_30 : zFLo RX3 30 3 7 := ⟨⟨_, rfl, rfl⟩, fun C F N h => by cases h; exact zin (i := 96) (by decide +kernel) rfl⟩
/-- RopeWalk.pieceCount -/
theorem fl_X3_40 : zFL RX3 40 3 1 0 false := ⟨RX3, TX3, 9, tyX3, rfl, by decide, rfl, by decide, zin_X3, rfl, rfl, rfl, tyX3_ok, nmX3, fun _ => rfl, fun h => absurd h (by decide), fun h => absurd h (by decide), Or.inl (zin (i := 90) (by decide +kernel) rfl)⟩
/-- RopeWalk$Piece.strength -/
theorem fl_X3_49 : zFL RX3 49 1 5 1 false := ⟨RX1, TX1, 14, tyX1, rfl, by decide, rfl, by decide, zin_X1, rfl, rfl, rfl, tyX1_ok, nmX1, fun h => absurd h (by decide), fun _ => rfl, fun h => absurd h (by decide), Or.inr ⟨"RopeWalk", znin (i := 142) (by decide +kernel) rfl⟩⟩
/-- RopeWalk$Piece.weight -/
theorem fl_X3_53 : zFL RX3 53 1 7 0 false := ⟨RX1, TX1, 14, tyX1, rfl, by decide, rfl, by decide, zin_X1, rfl, rfl, rfl, tyX1_ok, nmX1, fun _ => rfl, fun h => absurd h (by decide), fun h => absurd h (by decide), Or.inr ⟨"RopeWalk", znin (i := 144) (by decide +kernel) rfl⟩⟩
/-- RopeWalk$Piece.number -/
theorem fl_X3_60 : zFL RX3 60 1 0 0 true := ⟨RX1, TX1, 14, tyX1, rfl, by decide, rfl, by decide, zin_X1, rfl, rfl, rfl, tyX1_ok, nmX1, fun _ => rfl, fun h => absurd h (by decide), fun h => absurd h (by decide), Or.inr ⟨"RopeWalk", znin (i := 133) (by decide +kernel) rfl⟩⟩
/-- RopeWalk$Piece.state -/
theorem fl_X3_67 : zFL RX3 67 1 8 0 false := ⟨RX1, TX1, 14, tyX1, rfl, by decide, rfl, by decide, zin_X1, rfl, rfl, rfl, tyX1_ok, nmX1, fun _ => rfl, fun h => absurd h (by decide), fun h => absurd h (by decide), Or.inr ⟨"RopeWalk", znin (i := 146) (by decide +kernel) rfl⟩⟩
/-- RopeWalk.pickedCount -/
theorem fl_X3_77 : zFL RX3 77 3 3 0 false := ⟨RX3, TX3, 9, tyX3, rfl, by decide, rfl, by decide, zin_X3, rfl, rfl, rfl, tyX3_ok, nmX3, fun _ => rfl, fun h => absurd h (by decide), fun h => absurd h (by decide), Or.inl (zin (i := 92) (by decide +kernel) rfl)⟩
/-- RopeWalk$Piece.kind -/
theorem fl_X3_103 : zFL RX3 103 1 1 0 true := ⟨RX1, TX1, 14, tyX1, rfl, by decide, rfl, by decide, zin_X1, rfl, rfl, rfl, tyX1_ok, nmX1, fun _ => rfl, fun h => absurd h (by decide), fun h => absurd h (by decide), Or.inr ⟨"RopeWalk", znin (i := 135) (by decide +kernel) rfl⟩⟩
/-- RopeWalk$Piece.twist -/
theorem fl_X3_106 : zFL RX3 106 1 3 0 true := ⟨RX1, TX1, 14, tyX1, rfl, by decide, rfl, by decide, zin_X1, rfl, rfl, rfl, tyX1_ok, nmX1, fun _ => rfl, fun h => absurd h (by decide), fun h => absurd h (by decide), Or.inr ⟨"RopeWalk", znin (i := 139) (by decide +kernel) rfl⟩⟩
/-- RopeWalk$Piece.length -/
theorem fl_X3_113 : zFL RX3 113 1 2 0 true := ⟨RX1, TX1, 14, tyX1, rfl, by decide, rfl, by decide, zin_X1, rfl, rfl, rfl, tyX1_ok, nmX1, fun _ => rfl, fun h => absurd h (by decide), fun h => absurd h (by decide), Or.inr ⟨"RopeWalk", znin (i := 137) (by decide +kernel) rfl⟩⟩
/-- RopeWalk$Piece.parts -/
theorem fl_X3_125 : zFL RX3 125 1 4 2 true := ⟨RX1, TX1, 14, tyX1, rfl, by decide, rfl, by decide, zin_X1, rfl, rfl, rfl, tyX1_ok, nmX1, fun h => absurd h (by decide), fun h => absurd h (by decide), fun _ => Or.inr ⟨_, rfl⟩, Or.inr ⟨"RopeWalk", znin (i := 141) (by decide +kernel) rfl⟩⟩
/-- RopeWalk$Piece.partOf -/
theorem fl_X3_128 : zFL RX3 128 1 9 0 false := ⟨RX1, TX1, 14, tyX1, rfl, by decide, rfl, by decide, zin_X1, rfl, rfl, rfl, tyX1_ok, nmX1, fun _ => rfl, fun h => absurd h (by decide), fun h => absurd h (by decide), Or.inr ⟨"RopeWalk", znin (i := 148) (by decide +kernel) rfl⟩⟩
/-- RopeWalk$Piece.secondFrom -/
theorem fl_X3_134 : zFL RX3 134 1 6 0 false := ⟨RX1, TX1, 14, tyX1, rfl, by decide, rfl, by decide, zin_X1, rfl, rfl, rfl, tyX1_ok, nmX1, fun _ => rfl, fun h => absurd h (by decide), fun h => absurd h (by decide), Or.inr ⟨"RopeWalk", znin (i := 143) (by decide +kernel) rfl⟩⟩
/-- RopeWalk$Piece.spots -/
theorem fl_X3_137 : zFL RX3 137 1 10 0 false := ⟨RX1, TX1, 14, tyX1, rfl, by decide, rfl, by decide, zin_X1, rfl, rfl, rfl, tyX1_ok, nmX1, fun _ => rfl, fun h => absurd h (by decide), fun h => absurd h (by decide), Or.inr ⟨"RopeWalk", znin (i := 150) (by decide +kernel) rfl⟩⟩
/-- RopeWalk.orderCount -/
theorem fl_X3_143 : zFL RX3 143 3 6 0 false := ⟨RX3, TX3, 9, tyX3, rfl, by decide, rfl, by decide, zin_X3, rfl, rfl, rfl, tyX3_ok, nmX3, fun _ => rfl, fun h => absurd h (by decide), fun h => absurd h (by decide), Or.inl (zin (i := 95) (by decide +kernel) rfl)⟩
/-- RopeWalk.stageCount -/
theorem fl_X3_149 : zFL RX3 149 3 8 0 false := ⟨RX3, TX3, 9, tyX3, rfl, by decide, rfl, by decide, zin_X3, rfl, rfl, rfl, tyX3_ok, nmX3, fun _ => rfl, fun h => absurd h (by decide), fun h => absurd h (by decide), Or.inl (zin (i := 97) (by decide +kernel) rfl)⟩
/-- RopeWalk$Piece.share -/
theorem fl_X3_155 : zFL RX3 155 1 13 2 true := ⟨RX1, TX1, 14, tyX1, rfl, by decide, rfl, by decide, zin_X1, rfl, rfl, rfl, tyX1_ok, nmX1, fun h => absurd h (by decide), fun h => absurd h (by decide), fun _ => Or.inr ⟨_, rfl⟩, Or.inr ⟨"RopeWalk", znin (i := 156) (by decide +kernel) rfl⟩⟩
/-- RopeWalk$Piece.from -/
theorem fl_X3_158 : zFL RX3 158 1 11 2 true := ⟨RX1, TX1, 14, tyX1, rfl, by decide, rfl, by decide, zin_X1, rfl, rfl, rfl, tyX1_ok, nmX1, fun h => absurd h (by decide), fun h => absurd h (by decide), fun _ => Or.inr ⟨_, rfl⟩, Or.inr ⟨"RopeWalk", znin (i := 152) (by decide +kernel) rfl⟩⟩
/-- RopeWalk$Piece.to -/
theorem fl_X3_161 : zFL RX3 161 1 12 2 true := ⟨RX1, TX1, 14, tyX1, rfl, by decide, rfl, by decide, zin_X1, rfl, rfl, rfl, tyX1_ok, nmX1, fun h => absurd h (by decide), fun h => absurd h (by decide), fun _ => Or.inr ⟨_, rfl⟩, Or.inr ⟨"RopeWalk", znin (i := 154) (by decide +kernel) rfl⟩⟩
/-- RopeWalk$Reel.piece -/
theorem fl_X3_270 : zFL RX3 270 2 0 2 false := ⟨RX2, TX2, 4, tyX2, rfl, by decide, rfl, by decide, zin_X2, rfl, rfl, rfl, tyX2_ok, nmX2, fun h => absurd h (by decide), fun h => absurd h (by decide), fun _ => Or.inl ⟨_, rfl⟩, Or.inr ⟨"RopeWalk", znin (i := 72) (by decide +kernel) rfl⟩⟩
theorem la_above : Cond.fieldLink RX3 281 "RopeWalk" "ABOVE" "[I" ∈ lw_all := zin (i := 427) (by decide +kernel) rfl
/-- RopeWalk$Order.reel -/
theorem fl_X3_292 : zFL RX3 292 0 2 0 false := ⟨RX0, TX0, 6, tyX0, rfl, by decide, rfl, by decide, zin_X0, rfl, rfl, rfl, tyX0_ok, nmX0, fun _ => rfl, fun h => absurd h (by decide), fun h => absurd h (by decide), Or.inr ⟨"RopeWalk", znin (i := 444) (by decide +kernel) rfl⟩⟩
/-- RopeWalk$Order.place -/
theorem fl_X3_305 : zFL RX3 305 0 3 0 false := ⟨RX0, TX0, 6, tyX0, rfl, by decide, rfl, by decide, zin_X0, rfl, rfl, rfl, tyX0_ok, nmX0, fun _ => rfl, fun h => absurd h (by decide), fun h => absurd h (by decide), Or.inr ⟨"RopeWalk", znin (i := 445) (by decide +kernel) rfl⟩⟩
/-- RopeWalk$Order.trialReel -/
theorem fl_X3_320 : zFL RX3 320 0 4 0 false := ⟨RX0, TX0, 6, tyX0, rfl, by decide, rfl, by decide, zin_X0, rfl, rfl, rfl, tyX0_ok, nmX0, fun _ => rfl, fun h => absurd h (by decide), fun h => absurd h (by decide), Or.inr ⟨"RopeWalk", znin (i := 447) (by decide +kernel) rfl⟩⟩
/-- RopeWalk$Order.trialPlace -/
theorem fl_X3_323 : zFL RX3 323 0 5 0 false := ⟨RX0, TX0, 6, tyX0, rfl, by decide, rfl, by decide, zin_X0, rfl, rfl, rfl, tyX0_ok, nmX0, fun _ => rfl, fun h => absurd h (by decide), fun h => absurd h (by decide), Or.inr ⟨"RopeWalk", znin (i := 448) (by decide +kernel) rfl⟩⟩
/-- RopeWalk$Reel.stretches -/
theorem fl_X3_330 : zFL RX3 330 2 1 0 false := ⟨RX2, TX2, 4, tyX2, rfl, by decide, rfl, by decide, zin_X2, rfl, rfl, rfl, tyX2_ok, nmX2, fun _ => rfl, fun h => absurd h (by decide), fun h => absurd h (by decide), Or.inr ⟨"RopeWalk", znin (i := 73) (by decide +kernel) rfl⟩⟩
/-- RopeWalk$Reel.borne -/
theorem fl_X3_333 : zFL RX3 333 2 2 2 true := ⟨RX2, TX2, 4, tyX2, rfl, by decide, rfl, by decide, zin_X2, rfl, rfl, rfl, tyX2_ok, nmX2, fun h => absurd h (by decide), fun h => absurd h (by decide), fun _ => Or.inr ⟨_, rfl⟩, Or.inr ⟨"RopeWalk", znin (i := 75) (by decide +kernel) rfl⟩⟩
/-- RopeWalk$Order.need -/
theorem fl_X3_337 : zFL RX3 337 0 1 1 true := ⟨RX0, TX0, 6, tyX0, rfl, by decide, rfl, by decide, zin_X0, rfl, rfl, rfl, tyX0_ok, nmX0, fun h => absurd h (by decide), fun _ => rfl, fun h => absurd h (by decide), Or.inr ⟨"RopeWalk", znin (i := 442) (by decide +kernel) rfl⟩⟩
/-- RopeWalk$Reel.ends -/
theorem fl_X3_340 : zFL RX3 340 2 3 2 true := ⟨RX2, TX2, 4, tyX2, rfl, by decide, rfl, by decide, zin_X2, rfl, rfl, rfl, tyX2_ok, nmX2, fun h => absurd h (by decide), fun h => absurd h (by decide), fun _ => Or.inr ⟨_, rfl⟩, Or.inr ⟨"RopeWalk", znin (i := 77) (by decide +kernel) rfl⟩⟩
/-- RopeWalk$Order.length -/
theorem fl_X3_343 : zFL RX3 343 0 0 0 true := ⟨RX0, TX0, 6, tyX0, rfl, by decide, rfl, by decide, zin_X0, rfl, rfl, rfl, tyX0_ok, nmX0, fun _ => rfl, fun h => absurd h (by decide), fun h => absurd h (by decide), Or.inr ⟨"RopeWalk", znin (i := 440) (by decide +kernel) rfl⟩⟩
/-- RopeWalkModel.kind -/
theorem fl_X4_9 : zFL RX4 9 4 1 2 true := ⟨RX4, TX4, 36, tyX4, rfl, by decide, rfl, by decide, zin_X4, rfl, rfl, rfl, tyX4_ok, nmX4, fun h => absurd h (by decide), fun h => absurd h (by decide), fun _ => Or.inr ⟨_, rfl⟩, Or.inl (zin (i := 557) (by decide +kernel) rfl)⟩
theorem fo_X4_9 : zFLo RX4 9 4 1 := ⟨⟨_, rfl, rfl⟩, fun C F N h => by cases h; exact zin (i := 557) (by decide +kernel) rfl⟩
/-- RopeWalkModel.length -/
theorem fl_X4_13 : zFL RX4 13 4 2 2 true := ⟨RX4, TX4, 36, tyX4, rfl, by decide, rfl, by decide, zin_X4, rfl, rfl, rfl, tyX4_ok, nmX4, fun h => absurd h (by decide), fun h => absurd h (by decide), fun _ => Or.inr ⟨_, rfl⟩, Or.inl (zin (i := 558) (by decide +kernel) rfl)⟩
theorem fo_X4_13 : zFLo RX4 13 4 2 := ⟨⟨_, rfl, rfl⟩, fun C F N h => by cases h; exact zin (i := 558) (by decide +kernel) rfl⟩
/-- RopeWalkModel.twist -/
theorem fl_X4_16 : zFL RX4 16 4 3 2 true := ⟨RX4, TX4, 36, tyX4, rfl, by decide, rfl, by decide, zin_X4, rfl, rfl, rfl, tyX4_ok, nmX4, fun h => absurd h (by decide), fun h => absurd h (by decide), fun _ => Or.inr ⟨_, rfl⟩, Or.inl (zin (i := 559) (by decide +kernel) rfl)⟩
theorem fo_X4_16 : zFLo RX4 16 4 3 := ⟨⟨_, rfl, rfl⟩, fun C F N h => by cases h; exact zin (i := 559) (by decide +kernel) rfl⟩
/-- RopeWalkModel.state -/
theorem fl_X4_19 : zFL RX4 19 4 4 2 true := ⟨RX4, TX4, 36, tyX4, rfl, by decide, rfl, by decide, zin_X4, rfl, rfl, rfl, tyX4_ok, nmX4, fun h => absurd h (by decide), fun h => absurd h (by decide), fun _ => Or.inr ⟨_, rfl⟩, Or.inl (zin (i := 560) (by decide +kernel) rfl)⟩
theorem fo_X4_19 : zFLo RX4 19 4 4 := ⟨⟨_, rfl, rfl⟩, fun C F N h => by cases h; exact zin (i := 560) (by decide +kernel) rfl⟩
/-- RopeWalkModel.strength -/
theorem fl_X4_22 : zFL RX4 22 4 5 2 true := ⟨RX4, TX4, 36, tyX4, rfl, by decide, rfl, by decide, zin_X4, rfl, rfl, rfl, tyX4_ok, nmX4, fun h => absurd h (by decide), fun h => absurd h (by decide), fun _ => Or.inr ⟨_, rfl⟩, Or.inl (zin (i := 561) (by decide +kernel) rfl)⟩
theorem fo_X4_22 : zFLo RX4 22 4 5 := ⟨⟨_, rfl, rfl⟩, fun C F N h => by cases h; exact zin (i := 561) (by decide +kernel) rfl⟩
/-- RopeWalkModel.parts -/
theorem fl_X4_26 : zFL RX4 26 4 6 2 true := ⟨RX4, TX4, 36, tyX4, rfl, by decide, rfl, by decide, zin_X4, rfl, rfl, rfl, tyX4_ok, nmX4, fun h => absurd h (by decide), fun h => absurd h (by decide), fun _ => Or.inr ⟨_, rfl⟩, Or.inl (zin (i := 562) (by decide +kernel) rfl)⟩
theorem fo_X4_26 : zFLo RX4 26 4 6 := ⟨⟨_, rfl, rfl⟩, fun C F N h => by cases h; exact zin (i := 562) (by decide +kernel) rfl⟩
/-- RopeWalkModel.part -/
theorem fl_X4_29 : zFL RX4 29 4 7 2 true := ⟨RX4, TX4, 36, tyX4, rfl, by decide, rfl, by decide, zin_X4, rfl, rfl, rfl, tyX4_ok, nmX4, fun h => absurd h (by decide), fun h => absurd h (by decide), fun _ => Or.inr ⟨_, rfl⟩, Or.inl (zin (i := 563) (by decide +kernel) rfl)⟩
theorem fo_X4_29 : zFLo RX4 29 4 7 := ⟨⟨_, rfl, rfl⟩, fun C F N h => by cases h; exact zin (i := 563) (by decide +kernel) rfl⟩
/-- RopeWalkModel.owner -/
theorem fl_X4_32 : zFL RX4 32 4 8 2 true := ⟨RX4, TX4, 36, tyX4, rfl, by decide, rfl, by decide, zin_X4, rfl, rfl, rfl, tyX4_ok, nmX4, fun h => absurd h (by decide), fun h => absurd h (by decide), fun _ => Or.inr ⟨_, rfl⟩, Or.inl (zin (i := 564) (by decide +kernel) rfl)⟩
theorem fo_X4_32 : zFLo RX4 32 4 8 := ⟨⟨_, rfl, rfl⟩, fun C F N h => by cases h; exact zin (i := 564) (by decide +kernel) rfl⟩
/-- RopeWalkModel.over -/
theorem fl_X4_35 : zFL RX4 35 4 9 2 true := ⟨RX4, TX4, 36, tyX4, rfl, by decide, rfl, by decide, zin_X4, rfl, rfl, rfl, tyX4_ok, nmX4, fun h => absurd h (by decide), fun h => absurd h (by decide), fun _ => Or.inr ⟨_, rfl⟩, Or.inl (zin (i := 565) (by decide +kernel) rfl)⟩
theorem fo_X4_35 : zFLo RX4 35 4 9 := ⟨⟨_, rfl, rfl⟩, fun C F N h => by cases h; exact zin (i := 565) (by decide +kernel) rfl⟩
/-- RopeWalkModel.spots -/
theorem fl_X4_38 : zFL RX4 38 4 10 2 true := ⟨RX4, TX4, 36, tyX4, rfl, by decide, rfl, by decide, zin_X4, rfl, rfl, rfl, tyX4_ok, nmX4, fun h => absurd h (by decide), fun h => absurd h (by decide), fun _ => Or.inr ⟨_, rfl⟩, Or.inl (zin (i := 566) (by decide +kernel) rfl)⟩
theorem fo_X4_38 : zFLo RX4 38 4 10 := ⟨⟨_, rfl, rfl⟩, fun C F N h => by cases h; exact zin (i := 566) (by decide +kernel) rfl⟩
/-- RopeWalkModel.isTold -/
theorem fl_X4_41 : zFL RX4 41 4 11 2 true := ⟨RX4, TX4, 36, tyX4, rfl, by decide, rfl, by decide, zin_X4, rfl, rfl, rfl, tyX4_ok, nmX4, fun h => absurd h (by decide), fun h => absurd h (by decide), fun _ => Or.inr ⟨_, rfl⟩, Or.inl (zin (i := 567) (by decide +kernel) rfl)⟩
theorem fo_X4_41 : zFLo RX4 41 4 11 := ⟨⟨_, rfl, rfl⟩, fun C F N h => by cases h; exact zin (i := 567) (by decide +kernel) rfl⟩
/-- RopeWalkModel.spotFrom -/
theorem fl_X4_45 : zFL RX4 45 4 12 2 true := ⟨RX4, TX4, 36, tyX4, rfl, by decide, rfl, by decide, zin_X4, rfl, rfl, rfl, tyX4_ok, nmX4, fun h => absurd h (by decide), fun h => absurd h (by decide), fun _ => Or.inr ⟨_, rfl⟩, Or.inl (zin (i := 568) (by decide +kernel) rfl)⟩
theorem fo_X4_45 : zFLo RX4 45 4 12 := ⟨⟨_, rfl, rfl⟩, fun C F N h => by cases h; exact zin (i := 568) (by decide +kernel) rfl⟩
/-- RopeWalkModel.spotTo -/
theorem fl_X4_48 : zFL RX4 48 4 13 2 true := ⟨RX4, TX4, 36, tyX4, rfl, by decide, rfl, by decide, zin_X4, rfl, rfl, rfl, tyX4_ok, nmX4, fun h => absurd h (by decide), fun h => absurd h (by decide), fun _ => Or.inr ⟨_, rfl⟩, Or.inl (zin (i := 569) (by decide +kernel) rfl)⟩
theorem fo_X4_48 : zFLo RX4 48 4 13 := ⟨⟨_, rfl, rfl⟩, fun C F N h => by cases h; exact zin (i := 569) (by decide +kernel) rfl⟩
/-- RopeWalkModel.spotShare -/
theorem fl_X4_51 : zFL RX4 51 4 14 2 true := ⟨RX4, TX4, 36, tyX4, rfl, by decide, rfl, by decide, zin_X4, rfl, rfl, rfl, tyX4_ok, nmX4, fun h => absurd h (by decide), fun h => absurd h (by decide), fun _ => Or.inr ⟨_, rfl⟩, Or.inl (zin (i := 570) (by decide +kernel) rfl)⟩
theorem fo_X4_51 : zFLo RX4 51 4 14 := ⟨⟨_, rfl, rfl⟩, fun C F N h => by cases h; exact zin (i := 570) (by decide +kernel) rfl⟩
/-- RopeWalkModel.pick -/
theorem fl_X4_54 : zFL RX4 54 4 16 2 true := ⟨RX4, TX4, 36, tyX4, rfl, by decide, rfl, by decide, zin_X4, rfl, rfl, rfl, tyX4_ok, nmX4, fun h => absurd h (by decide), fun h => absurd h (by decide), fun _ => Or.inr ⟨_, rfl⟩, Or.inl (zin (i := 572) (by decide +kernel) rfl)⟩
theorem fo_X4_54 : zFLo RX4 54 4 16 := ⟨⟨_, rfl, rfl⟩, fun C F N h => by cases h; exact zin (i := 572) (by decide +kernel) rfl⟩
/-- RopeWalkModel.reel -/
theorem fl_X4_57 : zFL RX4 57 4 17 2 true := ⟨RX4, TX4, 36, tyX4, rfl, by decide, rfl, by decide, zin_X4, rfl, rfl, rfl, tyX4_ok, nmX4, fun h => absurd h (by decide), fun h => absurd h (by decide), fun _ => Or.inr ⟨_, rfl⟩, Or.inl (zin (i := 573) (by decide +kernel) rfl)⟩
theorem fo_X4_57 : zFLo RX4 57 4 17 := ⟨⟨_, rfl, rfl⟩, fun C F N h => by cases h; exact zin (i := 573) (by decide +kernel) rfl⟩
/-- RopeWalkModel.orderLength -/
theorem fl_X4_60 : zFL RX4 60 4 19 2 true := ⟨RX4, TX4, 36, tyX4, rfl, by decide, rfl, by decide, zin_X4, rfl, rfl, rfl, tyX4_ok, nmX4, fun h => absurd h (by decide), fun h => absurd h (by decide), fun _ => Or.inr ⟨_, rfl⟩, Or.inl (zin (i := 575) (by decide +kernel) rfl)⟩
theorem fo_X4_60 : zFLo RX4 60 4 19 := ⟨⟨_, rfl, rfl⟩, fun C F N h => by cases h; exact zin (i := 575) (by decide +kernel) rfl⟩
/-- RopeWalkModel.orderMust -/
theorem fl_X4_63 : zFL RX4 63 4 20 2 true := ⟨RX4, TX4, 36, tyX4, rfl, by decide, rfl, by decide, zin_X4, rfl, rfl, rfl, tyX4_ok, nmX4, fun h => absurd h (by decide), fun h => absurd h (by decide), fun _ => Or.inr ⟨_, rfl⟩, Or.inl (zin (i := 576) (by decide +kernel) rfl)⟩
theorem fo_X4_63 : zFLo RX4 63 4 20 := ⟨⟨_, rfl, rfl⟩, fun C F N h => by cases h; exact zin (i := 576) (by decide +kernel) rfl⟩
/-- RopeWalkModel.cutReel -/
theorem fl_X4_66 : zFL RX4 66 4 21 2 true := ⟨RX4, TX4, 36, tyX4, rfl, by decide, rfl, by decide, zin_X4, rfl, rfl, rfl, tyX4_ok, nmX4, fun h => absurd h (by decide), fun h => absurd h (by decide), fun _ => Or.inr ⟨_, rfl⟩, Or.inl (zin (i := 577) (by decide +kernel) rfl)⟩
theorem fo_X4_66 : zFLo RX4 66 4 21 := ⟨⟨_, rfl, rfl⟩, fun C F N h => by cases h; exact zin (i := 577) (by decide +kernel) rfl⟩
/-- RopeWalkModel.cutPlace -/
theorem fl_X4_69 : zFL RX4 69 4 22 2 true := ⟨RX4, TX4, 36, tyX4, rfl, by decide, rfl, by decide, zin_X4, rfl, rfl, rfl, tyX4_ok, nmX4, fun h => absurd h (by decide), fun h => absurd h (by decide), fun _ => Or.inr ⟨_, rfl⟩, Or.inl (zin (i := 578) (by decide +kernel) rfl)⟩
theorem fo_X4_69 : zFLo RX4 69 4 22 := ⟨⟨_, rfl, rfl⟩, fun C F N h => by cases h; exact zin (i := 578) (by decide +kernel) rfl⟩
/-- RopeWalkModel.ropes -/
theorem fl_X4_72 : zFL RX4 72 4 24 2 true := ⟨RX4, TX4, 36, tyX4, rfl, by decide, rfl, by decide, zin_X4, rfl, rfl, rfl, tyX4_ok, nmX4, fun h => absurd h (by decide), fun h => absurd h (by decide), fun _ => Or.inr ⟨_, rfl⟩, Or.inl (zin (i := 580) (by decide +kernel) rfl)⟩
theorem fo_X4_72 : zFLo RX4 72 4 24 := ⟨⟨_, rfl, rfl⟩, fun C F N h => by cases h; exact zin (i := 580) (by decide +kernel) rfl⟩
/-- RopeWalkModel.weigh -/
theorem fl_X4_75 : zFL RX4 75 4 25 2 true := ⟨RX4, TX4, 36, tyX4, rfl, by decide, rfl, by decide, zin_X4, rfl, rfl, rfl, tyX4_ok, nmX4, fun h => absurd h (by decide), fun h => absurd h (by decide), fun _ => Or.inr ⟨_, rfl⟩, Or.inl (zin (i := 581) (by decide +kernel) rfl)⟩
theorem fo_X4_75 : zFLo RX4 75 4 25 := ⟨⟨_, rfl, rfl⟩, fun C F N h => by cases h; exact zin (i := 581) (by decide +kernel) rfl⟩
/-- RopeWalkModel.oldTold -/
theorem fl_X4_78 : zFL RX4 78 4 26 2 true := ⟨RX4, TX4, 36, tyX4, rfl, by decide, rfl, by decide, zin_X4, rfl, rfl, rfl, tyX4_ok, nmX4, fun h => absurd h (by decide), fun h => absurd h (by decide), fun _ => Or.inr ⟨_, rfl⟩, Or.inl (zin (i := 582) (by decide +kernel) rfl)⟩
theorem fo_X4_78 : zFLo RX4 78 4 26 := ⟨⟨_, rfl, rfl⟩, fun C F N h => by cases h; exact zin (i := 582) (by decide +kernel) rfl⟩
/-- RopeWalkModel.oldFrom -/
theorem fl_X4_81 : zFL RX4 81 4 27 2 true := ⟨RX4, TX4, 36, tyX4, rfl, by decide, rfl, by decide, zin_X4, rfl, rfl, rfl, tyX4_ok, nmX4, fun h => absurd h (by decide), fun h => absurd h (by decide), fun _ => Or.inr ⟨_, rfl⟩, Or.inl (zin (i := 583) (by decide +kernel) rfl)⟩
theorem fo_X4_81 : zFLo RX4 81 4 27 := ⟨⟨_, rfl, rfl⟩, fun C F N h => by cases h; exact zin (i := 583) (by decide +kernel) rfl⟩
/-- RopeWalkModel.oldTo -/
theorem fl_X4_84 : zFL RX4 84 4 28 2 true := ⟨RX4, TX4, 36, tyX4, rfl, by decide, rfl, by decide, zin_X4, rfl, rfl, rfl, tyX4_ok, nmX4, fun h => absurd h (by decide), fun h => absurd h (by decide), fun _ => Or.inr ⟨_, rfl⟩, Or.inl (zin (i := 584) (by decide +kernel) rfl)⟩
theorem fo_X4_84 : zFLo RX4 84 4 28 := ⟨⟨_, rfl, rfl⟩, fun C F N h => by cases h; exact zin (i := 584) (by decide +kernel) rfl⟩
/-- RopeWalkModel.oldShare -/
theorem fl_X4_87 : zFL RX4 87 4 29 2 true := ⟨RX4, TX4, 36, tyX4, rfl, by decide, rfl, by decide, zin_X4, rfl, rfl, rfl, tyX4_ok, nmX4, fun h => absurd h (by decide), fun h => absurd h (by decide), fun _ => Or.inr ⟨_, rfl⟩, Or.inl (zin (i := 585) (by decide +kernel) rfl)⟩
theorem fo_X4_87 : zFLo RX4 87 4 29 := ⟨⟨_, rfl, rfl⟩, fun C F N h => by cases h; exact zin (i := 585) (by decide +kernel) rfl⟩
/-- RopeWalkModel.place -/
theorem fl_X4_90 : zFL RX4 90 4 30 2 true := ⟨RX4, TX4, 36, tyX4, rfl, by decide, rfl, by decide, zin_X4, rfl, rfl, rfl, tyX4_ok, nmX4, fun h => absurd h (by decide), fun h => absurd h (by decide), fun _ => Or.inr ⟨_, rfl⟩, Or.inl (zin (i := 586) (by decide +kernel) rfl)⟩
theorem fo_X4_90 : zFLo RX4 90 4 30 := ⟨⟨_, rfl, rfl⟩, fun C F N h => by cases h; exact zin (i := 586) (by decide +kernel) rfl⟩
/-- RopeWalkModel.bear -/
theorem fl_X4_93 : zFL RX4 93 4 31 2 true := ⟨RX4, TX4, 36, tyX4, rfl, by decide, rfl, by decide, zin_X4, rfl, rfl, rfl, tyX4_ok, nmX4, fun h => absurd h (by decide), fun h => absurd h (by decide), fun _ => Or.inr ⟨_, rfl⟩, Or.inl (zin (i := 587) (by decide +kernel) rfl)⟩
theorem fo_X4_93 : zFLo RX4 93 4 31 := ⟨⟨_, rfl, rfl⟩, fun C F N h => by cases h; exact zin (i := 587) (by decide +kernel) rfl⟩
/-- RopeWalkModel.taken -/
theorem fl_X4_96 : zFL RX4 96 4 33 2 true := ⟨RX4, TX4, 36, tyX4, rfl, by decide, rfl, by decide, zin_X4, rfl, rfl, rfl, tyX4_ok, nmX4, fun h => absurd h (by decide), fun h => absurd h (by decide), fun _ => Or.inr ⟨_, rfl⟩, Or.inl (zin (i := 589) (by decide +kernel) rfl)⟩
theorem fo_X4_96 : zFLo RX4 96 4 33 := ⟨⟨_, rfl, rfl⟩, fun C F N h => by cases h; exact zin (i := 589) (by decide +kernel) rfl⟩
/-- RopeWalkModel.bearsAt -/
theorem fl_X4_99 : zFL RX4 99 4 34 2 true := ⟨RX4, TX4, 36, tyX4, rfl, by decide, rfl, by decide, zin_X4, rfl, rfl, rfl, tyX4_ok, nmX4, fun h => absurd h (by decide), fun h => absurd h (by decide), fun _ => Or.inr ⟨_, rfl⟩, Or.inl (zin (i := 590) (by decide +kernel) rfl)⟩
theorem fo_X4_99 : zFLo RX4 99 4 34 := ⟨⟨_, rfl, rfl⟩, fun C F N h => by cases h; exact zin (i := 590) (by decide +kernel) rfl⟩
/-- RopeWalkModel.cutBefore -/
theorem fl_X4_102 : zFL RX4 102 4 35 2 true := ⟨RX4, TX4, 36, tyX4, rfl, by decide, rfl, by decide, zin_X4, rfl, rfl, rfl, tyX4_ok, nmX4, fun h => absurd h (by decide), fun h => absurd h (by decide), fun _ => Or.inr ⟨_, rfl⟩, Or.inl (zin (i := 591) (by decide +kernel) rfl)⟩
theorem fo_X4_102 : zFLo RX4 102 4 35 := ⟨⟨_, rfl, rfl⟩, fun C F N h => by cases h; exact zin (i := 591) (by decide +kernel) rfl⟩
/-- RopeWalkModel.pieces -/
theorem fl_X4_105 : zFL RX4 105 4 0 0 false := ⟨RX4, TX4, 36, tyX4, rfl, by decide, rfl, by decide, zin_X4, rfl, rfl, rfl, tyX4_ok, nmX4, fun _ => rfl, fun h => absurd h (by decide), fun h => absurd h (by decide), Or.inl (zin (i := 556) (by decide +kernel) rfl)⟩
/-- RopeWalkModel.picked -/
theorem fl_X4_125 : zFL RX4 125 4 15 0 false := ⟨RX4, TX4, 36, tyX4, rfl, by decide, rfl, by decide, zin_X4, rfl, rfl, rfl, tyX4_ok, nmX4, fun _ => rfl, fun h => absurd h (by decide), fun h => absurd h (by decide), Or.inl (zin (i := 571) (by decide +kernel) rfl)⟩
/-- RopeWalkModel.orders -/
theorem fl_X4_143 : zFL RX4 143 4 18 0 false := ⟨RX4, TX4, 36, tyX4, rfl, by decide, rfl, by decide, zin_X4, rfl, rfl, rfl, tyX4_ok, nmX4, fun _ => rfl, fun h => absurd h (by decide), fun h => absurd h (by decide), Or.inl (zin (i := 574) (by decide +kernel) rfl)⟩
/-- RopeWalkModel.stages -/
theorem fl_X4_146 : zFL RX4 146 4 23 0 false := ⟨RX4, TX4, 36, tyX4, rfl, by decide, rfl, by decide, zin_X4, rfl, rfl, rfl, tyX4_ok, nmX4, fun _ => rfl, fun h => absurd h (by decide), fun h => absurd h (by decide), Or.inl (zin (i := 579) (by decide +kernel) rfl)⟩
/-- RopeWalkModel.weakest -/
theorem fl_X4_167 : zFL RX4 167 4 32 0 false := ⟨RX4, TX4, 36, tyX4, rfl, by decide, rfl, by decide, zin_X4, rfl, rfl, rfl, tyX4_ok, nmX4, fun _ => rfl, fun h => absurd h (by decide), fun h => absurd h (by decide), Or.inl (zin (i := 588) (by decide +kernel) rfl)⟩
theorem la_X3_init : zCal yX3_init cX3_init 2 none 0 := ⟨zin (i := 57) (by decide +kernel) rfl, zin (i := 46) (by decide +kernel) rfl, by decide +kernel, by decide +kernel, by decide +kernel, by decide⟩
theorem im_X3_init : Cond.instanceMethod yX3_init ∈ lw_all := zin (i := 56) (by decide +kernel) rfl
theorem la_X2_init : zCal yX2_init cX2_init 1 none 0 := ⟨zin (i := 70) (by decide +kernel) rfl, zin (i := 47) (by decide +kernel) rfl, by decide +kernel, by decide +kernel, by decide +kernel, by decide⟩
theorem im_X2_init : Cond.instanceMethod yX2_init ∈ lw_all := zin (i := 69) (by decide +kernel) rfl
theorem la_X3_yarn : zCal yX3_yarn cX3_yarn 3 (some .int) 2 := ⟨zin (i := 120) (by decide +kernel) rfl, zin (i := 46) (by decide +kernel) rfl, by decide +kernel, by decide +kernel, by decide +kernel, by decide⟩
theorem im_X3_yarn : Cond.instanceMethod yX3_yarn ∈ lw_all := zin (i := 118) (by decide +kernel) rfl
theorem se_X3_yarn : Cond.selects yX3_yarn.cls yX3_yarn yX3_yarn ∈ lw_all := zin (i := 119) (by decide +kernel) rfl
theorem la_X3_spin : zCal yX3_spin cX3_spin 6 (some .int) 3 := ⟨zin (i := 124) (by decide +kernel) rfl, zin (i := 46) (by decide +kernel) rfl, by decide +kernel, by decide +kernel, by decide +kernel, by decide⟩
theorem im_X3_spin : Cond.instanceMethod yX3_spin ∈ lw_all := zin (i := 123) (by decide +kernel) rfl
theorem se_X3_spin : Cond.selects yX3_spin.cls yX3_spin yX3_spin ∈ lw_all := zin (i := 0) (by decide +kernel) rfl
theorem la_X1_init : zCal yX1_init cX1_init 6 none 5 := ⟨zin (i := 130) (by decide +kernel) rfl, zin (i := 49) (by decide +kernel) rfl, by decide +kernel, by decide +kernel, by decide +kernel, by decide⟩
theorem im_X1_init : Cond.instanceMethod yX1_init ∈ lw_all := zin (i := 129) (by decide +kernel) rfl
theorem la_X3_keep : zCal yX3_keep cX3_keep 2 (some .int) 1 := ⟨zin (i := 190) (by decide +kernel) rfl, zin (i := 46) (by decide +kernel) rfl, by decide +kernel, by decide +kernel, by decide +kernel, by decide⟩
theorem im_X3_keep : Cond.instanceMethod yX3_keep ∈ lw_all := zin (i := 189) (by decide +kernel) rfl
theorem se_X3_keep : Cond.selects yX3_keep.cls yX3_keep yX3_keep ∈ lw_all := zin (i := 1) (by decide +kernel) rfl
theorem la_X3_tape : zCal yX3_tape cX3_tape 3 (some .int) 2 := ⟨zin (i := 194) (by decide +kernel) rfl, zin (i := 46) (by decide +kernel) rfl, by decide +kernel, by decide +kernel, by decide +kernel, by decide⟩
theorem im_X3_tape : Cond.instanceMethod yX3_tape ∈ lw_all := zin (i := 192) (by decide +kernel) rfl
theorem se_X3_tape : Cond.selects yX3_tape.cls yX3_tape yX3_tape ∈ lw_all := zin (i := 193) (by decide +kernel) rfl
theorem la_X3_pick : zCal yX3_pick cX3_pick 3 (some .int) 1 := ⟨zin (i := 198) (by decide +kernel) rfl, zin (i := 46) (by decide +kernel) rfl, by decide +kernel, by decide +kernel, by decide +kernel, by decide⟩
theorem im_X3_pick : Cond.instanceMethod yX3_pick ∈ lw_all := zin (i := 196) (by decide +kernel) rfl
theorem se_X3_pick : Cond.selects yX3_pick.cls yX3_pick yX3_pick ∈ lw_all := zin (i := 197) (by decide +kernel) rfl
theorem la_X3_freePiece : zCal yX3_freePiece cX3_freePiece 3 (some (.object "RopeWalk$Piece")) 1 := ⟨zin (i := 202) (by decide +kernel) rfl, zin (i := 46) (by decide +kernel) rfl, by decide +kernel, by decide +kernel, by decide +kernel, by decide⟩
theorem im_X3_freePiece : Cond.instanceMethod yX3_freePiece ∈ lw_all := zin (i := 201) (by decide +kernel) rfl
theorem se_X3_freePiece : Cond.selects yX3_freePiece.cls yX3_freePiece yX3_freePiece ∈ lw_all := zin (i := 2) (by decide +kernel) rfl
theorem la_X3_pieceAt : zCal yX3_pieceAt cX3_pieceAt 2 (some (.object "RopeWalk$Piece")) 1 := ⟨zin (i := 206) (by decide +kernel) rfl, zin (i := 46) (by decide +kernel) rfl, by decide +kernel, by decide +kernel, by decide +kernel, by decide⟩
theorem im_X3_pieceAt : Cond.instanceMethod yX3_pieceAt ∈ lw_all := zin (i := 205) (by decide +kernel) rfl
theorem se_X3_pieceAt : Cond.selects yX3_pieceAt.cls yX3_pieceAt yX3_pieceAt ∈ lw_all := zin (i := 3) (by decide +kernel) rfl
theorem la_X3_isPicked : zCal yX3_isPicked cX3_isPicked 3 (some .boolean) 1 := ⟨zin (i := 210) (by decide +kernel) rfl, zin (i := 46) (by decide +kernel) rfl, by decide +kernel, by decide +kernel, by decide +kernel, by decide⟩
theorem im_X3_isPicked : Cond.instanceMethod yX3_isPicked ∈ lw_all := zin (i := 209) (by decide +kernel) rfl
theorem se_X3_isPicked : Cond.selects yX3_isPicked.cls yX3_isPicked yX3_isPicked ∈ lw_all := zin (i := 4) (by decide +kernel) rfl
theorem la_X3_drop : zCal yX3_drop cX3_drop 2 (some .int) 0 := ⟨zin (i := 214) (by decide +kernel) rfl, zin (i := 46) (by decide +kernel) rfl, by decide +kernel, by decide +kernel, by decide +kernel, by decide⟩
theorem im_X3_drop : Cond.instanceMethod yX3_drop ∈ lw_all := zin (i := 212) (by decide +kernel) rfl
theorem se_X3_drop : Cond.selects yX3_drop.cls yX3_drop yX3_drop ∈ lw_all := zin (i := 213) (by decide +kernel) rfl
theorem la_X3_lay : zCal yX3_lay cX3_lay 6 (some .int) 3 := ⟨zin (i := 218) (by decide +kernel) rfl, zin (i := 46) (by decide +kernel) rfl, by decide +kernel, by decide +kernel, by decide +kernel, by decide⟩
theorem im_X3_lay : Cond.instanceMethod yX3_lay ∈ lw_all := zin (i := 216) (by decide +kernel) rfl
theorem se_X3_lay : Cond.selects yX3_lay.cls yX3_lay yX3_lay ∈ lw_all := zin (i := 217) (by decide +kernel) rfl
theorem la_X3_canHold : zCal yX3_canHold cX3_canHold 2 (some .boolean) 2 := ⟨zin (i := 221) (by decide +kernel) rfl, zin (i := 46) (by decide +kernel) rfl, by decide +kernel, by decide +kernel, by decide +kernel, by decide⟩
theorem sm_X3_canHold : Cond.static yX3_canHold ∈ lw_all := zin (i := 220) (by decide +kernel) rfl
theorem la_X3_pickedFit : zCal yX3_pickedFit cX3_pickedFit 5 (some .boolean) 2 := ⟨zin (i := 225) (by decide +kernel) rfl, zin (i := 46) (by decide +kernel) rfl, by decide +kernel, by decide +kernel, by decide +kernel, by decide⟩
theorem im_X3_pickedFit : Cond.instanceMethod yX3_pickedFit ∈ lw_all := zin (i := 224) (by decide +kernel) rfl
theorem se_X3_pickedFit : Cond.selects yX3_pickedFit.cls yX3_pickedFit yX3_pickedFit ∈ lw_all := zin (i := 5) (by decide +kernel) rfl
theorem la_X3_canBePart : zCal yX3_canBePart cX3_canBePart 3 (some .boolean) 3 := ⟨zin (i := 228) (by decide +kernel) rfl, zin (i := 46) (by decide +kernel) rfl, by decide +kernel, by decide +kernel, by decide +kernel, by decide⟩
theorem sm_X3_canBePart : Cond.static yX3_canBePart ∈ lw_all := zin (i := 227) (by decide +kernel) rfl
theorem la_X3_otherTwist : zCal yX3_otherTwist cX3_otherTwist 1 (some .int) 1 := ⟨zin (i := 231) (by decide +kernel) rfl, zin (i := 46) (by decide +kernel) rfl, by decide +kernel, by decide +kernel, by decide +kernel, by decide⟩
theorem sm_X3_otherTwist : Cond.static yX3_otherTwist ∈ lw_all := zin (i := 230) (by decide +kernel) rfl
theorem la_X3_shortestPicked : zCal yX3_shortestPicked cX3_shortestPicked 3 (some .int) 0 := ⟨zin (i := 235) (by decide +kernel) rfl, zin (i := 46) (by decide +kernel) rfl, by decide +kernel, by decide +kernel, by decide +kernel, by decide⟩
theorem im_X3_shortestPicked : Cond.instanceMethod yX3_shortestPicked ∈ lw_all := zin (i := 234) (by decide +kernel) rfl
theorem se_X3_shortestPicked : Cond.selects yX3_shortestPicked.cls yX3_shortestPicked yX3_shortestPicked ∈ lw_all := zin (i := 6) (by decide +kernel) rfl
theorem la_X3_pickedParts : zCal yX3_pickedParts cX3_pickedParts 4 (some (.array (.object "RopeWalk$Piece"))) 0 := ⟨zin (i := 242) (by decide +kernel) rfl, zin (i := 46) (by decide +kernel) rfl, by decide +kernel, by decide +kernel, by decide +kernel, by decide⟩
theorem im_X3_pickedParts : Cond.instanceMethod yX3_pickedParts ∈ lw_all := zin (i := 241) (by decide +kernel) rfl
theorem se_X3_pickedParts : Cond.selects yX3_pickedParts.cls yX3_pickedParts yX3_pickedParts ∈ lw_all := zin (i := 7) (by decide +kernel) rfl
theorem la_X3_takeParts : zCal yX3_takeParts cX3_takeParts 3 none 1 := ⟨zin (i := 248) (by decide +kernel) rfl, zin (i := 46) (by decide +kernel) rfl, by decide +kernel, by decide +kernel, by decide +kernel, by decide⟩
theorem sm_X3_takeParts : Cond.static yX3_takeParts ∈ lw_all := zin (i := 247) (by decide +kernel) rfl
theorem la_X3_splice : zCal yX3_splice cX3_splice 9 (some .int) 3 := ⟨zin (i := 252) (by decide +kernel) rfl, zin (i := 46) (by decide +kernel) rfl, by decide +kernel, by decide +kernel, by decide +kernel, by decide⟩
theorem im_X3_splice : Cond.instanceMethod yX3_splice ∈ lw_all := zin (i := 250) (by decide +kernel) rfl
theorem se_X3_splice : Cond.selects yX3_splice.cls yX3_splice yX3_splice ∈ lw_all := zin (i := 251) (by decide +kernel) rfl
theorem la_X3_canBeSpliced : zCal yX3_canBeSpliced cX3_canBeSpliced 1 (some .boolean) 1 := ⟨zin (i := 255) (by decide +kernel) rfl, zin (i := 46) (by decide +kernel) rfl, by decide +kernel, by decide +kernel, by decide +kernel, by decide⟩
theorem sm_X3_canBeSpliced : Cond.static yX3_canBeSpliced ∈ lw_all := zin (i := 254) (by decide +kernel) rfl
theorem la_X3_untwist : zCal yX3_untwist cX3_untwist 5 (some .int) 1 := ⟨zin (i := 259) (by decide +kernel) rfl, zin (i := 46) (by decide +kernel) rfl, by decide +kernel, by decide +kernel, by decide +kernel, by decide⟩
theorem im_X3_untwist : Cond.instanceMethod yX3_untwist ∈ lw_all := zin (i := 257) (by decide +kernel) rfl
theorem se_X3_untwist : Cond.selects yX3_untwist.cls yX3_untwist yX3_untwist ∈ lw_all := zin (i := 258) (by decide +kernel) rfl
theorem la_X3_of : zCal yX3_of cX3_of 4 (some .int) 2 := ⟨zin (i := 263) (by decide +kernel) rfl, zin (i := 46) (by decide +kernel) rfl, by decide +kernel, by decide +kernel, by decide +kernel, by decide⟩
theorem im_X3_of : Cond.instanceMethod yX3_of ∈ lw_all := zin (i := 261) (by decide +kernel) rfl
theorem se_X3_of : Cond.selects yX3_of.cls yX3_of yX3_of ∈ lw_all := zin (i := 262) (by decide +kernel) rfl
theorem la_X3_part : zCal yX3_part cX3_part 5 (some .int) 2 := ⟨zin (i := 267) (by decide +kernel) rfl, zin (i := 46) (by decide +kernel) rfl, by decide +kernel, by decide +kernel, by decide +kernel, by decide⟩
theorem im_X3_part : Cond.instanceMethod yX3_part ∈ lw_all := zin (i := 265) (by decide +kernel) rfl
theorem se_X3_part : Cond.selects yX3_part.cls yX3_part yX3_part ∈ lw_all := zin (i := 266) (by decide +kernel) rfl
theorem la_X3_count : zCal yX3_count cX3_count 2 (some .int) 1 := ⟨zin (i := 271) (by decide +kernel) rfl, zin (i := 46) (by decide +kernel) rfl, by decide +kernel, by decide +kernel, by decide +kernel, by decide⟩
theorem im_X3_count : Cond.instanceMethod yX3_count ∈ lw_all := zin (i := 269) (by decide +kernel) rfl
theorem se_X3_count : Cond.selects yX3_count.cls yX3_count yX3_count ∈ lw_all := zin (i := 270) (by decide +kernel) rfl
theorem la_X3_piecesThatAre : zCal yX3_piecesThatAre cX3_piecesThatAre 4 (some .int) 1 := ⟨zin (i := 275) (by decide +kernel) rfl, zin (i := 46) (by decide +kernel) rfl, by decide +kernel, by decide +kernel, by decide +kernel, by decide⟩
theorem im_X3_piecesThatAre : Cond.instanceMethod yX3_piecesThatAre ∈ lw_all := zin (i := 274) (by decide +kernel) rfl
theorem se_X3_piecesThatAre : Cond.selects yX3_piecesThatAre.cls yX3_piecesThatAre yX3_piecesThatAre ∈ lw_all := zin (i := 8) (by decide +kernel) rfl
theorem la_X3_cutOrders : zCal yX3_cutOrders cX3_cutOrders 3 (some .int) 0 := ⟨zin (i := 279) (by decide +kernel) rfl, zin (i := 46) (by decide +kernel) rfl, by decide +kernel, by decide +kernel, by decide +kernel, by decide⟩
theorem im_X3_cutOrders : Cond.instanceMethod yX3_cutOrders ∈ lw_all := zin (i := 278) (by decide +kernel) rfl
theorem se_X3_cutOrders : Cond.selects yX3_cutOrders.cls yX3_cutOrders yX3_cutOrders ∈ lw_all := zin (i := 9) (by decide +kernel) rfl
theorem la_X3_row : zCal yX3_row cX3_row 5 (some .int) 2 := ⟨zin (i := 283) (by decide +kernel) rfl, zin (i := 46) (by decide +kernel) rfl, by decide +kernel, by decide +kernel, by decide +kernel, by decide⟩
theorem im_X3_row : Cond.instanceMethod yX3_row ∈ lw_all := zin (i := 281) (by decide +kernel) rfl
theorem se_X3_row : Cond.selects yX3_row.cls yX3_row yX3_row ∈ lw_all := zin (i := 282) (by decide +kernel) rfl
theorem la_X3_pieceNotGone : zCal yX3_pieceNotGone cX3_pieceNotGone 3 (some (.object "RopeWalk$Piece")) 1 := ⟨zin (i := 287) (by decide +kernel) rfl, zin (i := 46) (by decide +kernel) rfl, by decide +kernel, by decide +kernel, by decide +kernel, by decide⟩
theorem im_X3_pieceNotGone : Cond.instanceMethod yX3_pieceNotGone ∈ lw_all := zin (i := 286) (by decide +kernel) rfl
theorem se_X3_pieceNotGone : Cond.selects yX3_pieceNotGone.cls yX3_pieceNotGone yX3_pieceNotGone ∈ lw_all := zin (i := 10) (by decide +kernel) rfl
theorem la_X3_lose : zCal yX3_lose cX3_lose 4 (some .int) 1 := ⟨zin (i := 291) (by decide +kernel) rfl, zin (i := 46) (by decide +kernel) rfl, by decide +kernel, by decide +kernel, by decide +kernel, by decide⟩
theorem im_X3_lose : Cond.instanceMethod yX3_lose ∈ lw_all := zin (i := 289) (by decide +kernel) rfl
theorem se_X3_lose : Cond.selects yX3_lose.cls yX3_lose yX3_lose ∈ lw_all := zin (i := 290) (by decide +kernel) rfl
theorem la_X3_spot : zCal yX3_spot cX3_spot 8 (some .int) 5 := ⟨zin (i := 295) (by decide +kernel) rfl, zin (i := 46) (by decide +kernel) rfl, by decide +kernel, by decide +kernel, by decide +kernel, by decide⟩
theorem im_X3_spot : Cond.instanceMethod yX3_spot ∈ lw_all := zin (i := 293) (by decide +kernel) rfl
theorem se_X3_spot : Cond.selects yX3_spot.cls yX3_spot yX3_spot ∈ lw_all := zin (i := 294) (by decide +kernel) rfl
theorem la_X3_carry : zCal yX3_carry cX3_carry 8 (some .int) 5 := ⟨zin (i := 299) (by decide +kernel) rfl, zin (i := 46) (by decide +kernel) rfl, by decide +kernel, by decide +kernel, by decide +kernel, by decide⟩
theorem im_X3_carry : Cond.instanceMethod yX3_carry ∈ lw_all := zin (i := 297) (by decide +kernel) rfl
theorem se_X3_carry : Cond.selects yX3_carry.cls yX3_carry yX3_carry ∈ lw_all := zin (i := 298) (by decide +kernel) rfl
theorem la_X3_hasSpots : zCal yX3_hasSpots cX3_hasSpots 3 (some .boolean) 3 := ⟨zin (i := 302) (by decide +kernel) rfl, zin (i := 46) (by decide +kernel) rfl, by decide +kernel, by decide +kernel, by decide +kernel, by decide⟩
theorem sm_X3_hasSpots : Cond.static yX3_hasSpots ∈ lw_all := zin (i := 301) (by decide +kernel) rfl
theorem la_X3_toldSpots : zCal yX3_toldSpots cX3_toldSpots 3 (some .int) 1 := ⟨zin (i := 308) (by decide +kernel) rfl, zin (i := 46) (by decide +kernel) rfl, by decide +kernel, by decide +kernel, by decide +kernel, by decide⟩
theorem sm_X3_toldSpots : Cond.static yX3_toldSpots ∈ lw_all := zin (i := 307) (by decide +kernel) rfl
theorem la_X3_bears : zCal yX3_bears cX3_bears 4 (some .double) 2 := ⟨zin (i := 312) (by decide +kernel) rfl, zin (i := 46) (by decide +kernel) rfl, by decide +kernel, by decide +kernel, by decide +kernel, by decide⟩
theorem im_X3_bears : Cond.instanceMethod yX3_bears ∈ lw_all := zin (i := 310) (by decide +kernel) rfl
theorem se_X3_bears : Cond.selects yX3_bears.cls yX3_bears yX3_bears ∈ lw_all := zin (i := 311) (by decide +kernel) rfl
theorem la_X3_bearing : zCal yX3_bearing cX3_bearing 4 (some .float) 3 := ⟨zin (i := 316) (by decide +kernel) rfl, zin (i := 46) (by decide +kernel) rfl, by decide +kernel, by decide +kernel, by decide +kernel, by decide⟩
theorem sm_X3_bearing : Cond.static yX3_bearing ∈ lw_all := zin (i := 315) (by decide +kernel) rfl
theorem la_X3_splicedBase : zCal yX3_splicedBase cX3_splicedBase 8 (some .float) 3 := ⟨zin (i := 319) (by decide +kernel) rfl, zin (i := 46) (by decide +kernel) rfl, by decide +kernel, by decide +kernel, by decide +kernel, by decide⟩
theorem sm_X3_splicedBase : Cond.static yX3_splicedBase ∈ lw_all := zin (i := 318) (by decide +kernel) rfl
theorem la_X3_splicedFrom : zCal yX3_splicedFrom cX3_splicedFrom 2 (some .int) 2 := ⟨zin (i := 322) (by decide +kernel) rfl, zin (i := 46) (by decide +kernel) rfl, by decide +kernel, by decide +kernel, by decide +kernel, by decide⟩
theorem sm_X3_splicedFrom : Cond.static yX3_splicedFrom ∈ lw_all := zin (i := 321) (by decide +kernel) rfl
theorem la_X3_laidBase : zCal yX3_laidBase cX3_laidBase 6 (some .float) 3 := ⟨zin (i := 325) (by decide +kernel) rfl, zin (i := 46) (by decide +kernel) rfl, by decide +kernel, by decide +kernel, by decide +kernel, by decide⟩
theorem sm_X3_laidBase : Cond.static yX3_laidBase ∈ lw_all := zin (i := 324) (by decide +kernel) rfl
theorem la_X3_placeOn : zCal yX3_placeOn cX3_placeOn 3 (some .int) 3 := ⟨zin (i := 328) (by decide +kernel) rfl, zin (i := 46) (by decide +kernel) rfl, by decide +kernel, by decide +kernel, by decide +kernel, by decide⟩
theorem sm_X3_placeOn : Cond.static yX3_placeOn ∈ lw_all := zin (i := 327) (by decide +kernel) rfl
theorem la_X3_worn : zCal yX3_worn cX3_worn 5 (some .float) 3 := ⟨zin (i := 334) (by decide +kernel) rfl, zin (i := 46) (by decide +kernel) rfl, by decide +kernel, by decide +kernel, by decide +kernel, by decide⟩
theorem sm_X3_worn : Cond.static yX3_worn ∈ lw_all := zin (i := 333) (by decide +kernel) rfl
theorem la_X3_least : zCal yX3_least cX3_least 3 (some .double) 1 := ⟨zin (i := 338) (by decide +kernel) rfl, zin (i := 46) (by decide +kernel) rfl, by decide +kernel, by decide +kernel, by decide +kernel, by decide⟩
theorem im_X3_least : Cond.instanceMethod yX3_least ∈ lw_all := zin (i := 336) (by decide +kernel) rfl
theorem se_X3_least : Cond.selects yX3_least.cls yX3_least yX3_least ∈ lw_all := zin (i := 337) (by decide +kernel) rfl
theorem la_X3_leastBorne : zCal yX3_leastBorne cX3_leastBorne 1 (some .float) 1 := ⟨zin (i := 341) (by decide +kernel) rfl, zin (i := 46) (by decide +kernel) rfl, by decide +kernel, by decide +kernel, by decide +kernel, by decide⟩
theorem sm_X3_leastBorne : Cond.static yX3_leastBorne ∈ lw_all := zin (i := 340) (by decide +kernel) rfl
theorem la_X3_weakestPlace : zCal yX3_weakestPlace cX3_weakestPlace 5 (some .int) 1 := ⟨zin (i := 344) (by decide +kernel) rfl, zin (i := 46) (by decide +kernel) rfl, by decide +kernel, by decide +kernel, by decide +kernel, by decide⟩
theorem sm_X3_weakestPlace : Cond.static yX3_weakestPlace ∈ lw_all := zin (i := 343) (by decide +kernel) rfl
theorem la_X3_steadyTo : zCal yX3_steadyTo cX3_steadyTo 6 (some .int) 3 := ⟨zin (i := 347) (by decide +kernel) rfl, zin (i := 46) (by decide +kernel) rfl, by decide +kernel, by decide +kernel, by decide +kernel, by decide⟩
theorem sm_X3_steadyTo : Cond.static yX3_steadyTo ∈ lw_all := zin (i := 346) (by decide +kernel) rfl
theorem la_X3_splicedSteadyTo : zCal yX3_splicedSteadyTo cX3_splicedSteadyTo 6 (some .int) 4 := ⟨zin (i := 350) (by decide +kernel) rfl, zin (i := 46) (by decide +kernel) rfl, by decide +kernel, by decide +kernel, by decide +kernel, by decide⟩
theorem sm_X3_splicedSteadyTo : Cond.static yX3_splicedSteadyTo ∈ lw_all := zin (i := 349) (by decide +kernel) rfl
theorem la_X3_laidSteadyTo : zCal yX3_laidSteadyTo cX3_laidSteadyTo 6 (some .int) 4 := ⟨zin (i := 353) (by decide +kernel) rfl, zin (i := 46) (by decide +kernel) rfl, by decide +kernel, by decide +kernel, by decide +kernel, by decide⟩
theorem sm_X3_laidSteadyTo : Cond.static yX3_laidSteadyTo ∈ lw_all := zin (i := 352) (by decide +kernel) rfl
theorem la_X3_rowSteadyTo : zCal yX3_rowSteadyTo cX3_rowSteadyTo 5 (some .int) 3 := ⟨zin (i := 356) (by decide +kernel) rfl, zin (i := 46) (by decide +kernel) rfl, by decide +kernel, by decide +kernel, by decide +kernel, by decide⟩
theorem sm_X3_rowSteadyTo : Cond.static yX3_rowSteadyTo ∈ lw_all := zin (i := 355) (by decide +kernel) rfl
theorem la_X3_where : zCal yX3_where cX3_where 3 (some .int) 1 := ⟨zin (i := 360) (by decide +kernel) rfl, zin (i := 46) (by decide +kernel) rfl, by decide +kernel, by decide +kernel, by decide +kernel, by decide⟩
theorem im_X3_where : Cond.instanceMethod yX3_where ∈ lw_all := zin (i := 358) (by decide +kernel) rfl
theorem se_X3_where : Cond.selects yX3_where.cls yX3_where yX3_where ∈ lw_all := zin (i := 359) (by decide +kernel) rfl
theorem la_X3_grams : zCal yX3_grams cX3_grams 3 (some .long) 1 := ⟨zin (i := 364) (by decide +kernel) rfl, zin (i := 46) (by decide +kernel) rfl, by decide +kernel, by decide +kernel, by decide +kernel, by decide⟩
theorem im_X3_grams : Cond.instanceMethod yX3_grams ∈ lw_all := zin (i := 362) (by decide +kernel) rfl
theorem se_X3_grams : Cond.selects yX3_grams.cls yX3_grams yX3_grams ∈ lw_all := zin (i := 363) (by decide +kernel) rfl
theorem la_X3_rest : zCal yX3_rest cX3_rest 4 (some .double) 2 := ⟨zin (i := 370) (by decide +kernel) rfl, zin (i := 46) (by decide +kernel) rfl, by decide +kernel, by decide +kernel, by decide +kernel, by decide⟩
theorem im_X3_rest : Cond.instanceMethod yX3_rest ∈ lw_all := zin (i := 368) (by decide +kernel) rfl
theorem se_X3_rest : Cond.selects yX3_rest.cls yX3_rest yX3_rest ∈ lw_all := zin (i := 369) (by decide +kernel) rfl
theorem la_X3_remainder : zCal yX3_remainder cX3_remainder 6 (some .double) 2 := ⟨zin (i := 373) (by decide +kernel) rfl, zin (i := 46) (by decide +kernel) rfl, by decide +kernel, by decide +kernel, by decide +kernel, by decide⟩
theorem sm_X3_remainder : Cond.static yX3_remainder ∈ lw_all := zin (i := 372) (by decide +kernel) rfl
theorem la_X3_left : zCal yX3_left cX3_left 4 (some .double) 2 := ⟨zin (i := 377) (by decide +kernel) rfl, zin (i := 46) (by decide +kernel) rfl, by decide +kernel, by decide +kernel, by decide +kernel, by decide⟩
theorem im_X3_left : Cond.instanceMethod yX3_left ∈ lw_all := zin (i := 375) (by decide +kernel) rfl
theorem se_X3_left : Cond.selects yX3_left.cls yX3_left yX3_left ∈ lw_all := zin (i := 376) (by decide +kernel) rfl
theorem la_X3_turned : zCal yX3_turned cX3_turned 6 (some .long) 3 := ⟨zin (i := 383) (by decide +kernel) rfl, zin (i := 46) (by decide +kernel) rfl, by decide +kernel, by decide +kernel, by decide +kernel, by decide⟩
theorem im_X3_turned : Cond.instanceMethod yX3_turned ∈ lw_all := zin (i := 381) (by decide +kernel) rfl
theorem se_X3_turned : Cond.selects yX3_turned.cls yX3_turned yX3_turned ∈ lw_all := zin (i := 382) (by decide +kernel) rfl
theorem la_X3_turnedFloat : zCal yX3_turnedFloat cX3_turnedFloat 2 (some .long) 2 := ⟨zin (i := 387) (by decide +kernel) rfl, zin (i := 46) (by decide +kernel) rfl, by decide +kernel, by decide +kernel, by decide +kernel, by decide⟩
theorem sm_X3_turnedFloat : Cond.static yX3_turnedFloat ∈ lw_all := zin (i := 386) (by decide +kernel) rfl
theorem la_X3_turnedDouble : zCal yX3_turnedDouble cX3_turnedDouble 3 (some .long) 2 := ⟨zin (i := 395) (by decide +kernel) rfl, zin (i := 46) (by decide +kernel) rfl, by decide +kernel, by decide +kernel, by decide +kernel, by decide⟩
theorem sm_X3_turnedDouble : Cond.static yX3_turnedDouble ∈ lw_all := zin (i := 394) (by decide +kernel) rfl
theorem la_X3_notAbove : zCal yX3_notAbove cX3_notAbove 4 (some .long) 1 := ⟨zin (i := 398) (by decide +kernel) rfl, zin (i := 46) (by decide +kernel) rfl, by decide +kernel, by decide +kernel, by decide +kernel, by decide⟩
theorem sm_X3_notAbove : Cond.static yX3_notAbove ∈ lw_all := zin (i := 397) (by decide +kernel) rfl
theorem la_X3_nearest : zCal yX3_nearest cX3_nearest 7 (some .long) 1 := ⟨zin (i := 401) (by decide +kernel) rfl, zin (i := 46) (by decide +kernel) rfl, by decide +kernel, by decide +kernel, by decide +kernel, by decide⟩
theorem sm_X3_nearest : Cond.static yX3_nearest ∈ lw_all := zin (i := 400) (by decide +kernel) rfl
theorem la_X3_hang : zCal yX3_hang cX3_hang 4 (some .int) 2 := ⟨zin (i := 408) (by decide +kernel) rfl, zin (i := 46) (by decide +kernel) rfl, by decide +kernel, by decide +kernel, by decide +kernel, by decide⟩
theorem im_X3_hang : Cond.instanceMethod yX3_hang ∈ lw_all := zin (i := 406) (by decide +kernel) rfl
theorem se_X3_hang : Cond.selects yX3_hang.cls yX3_hang yX3_hang ∈ lw_all := zin (i := 407) (by decide +kernel) rfl
theorem la_X3_isReel : zCal yX3_isReel cX3_isReel 1 (some .boolean) 1 := ⟨zin (i := 411) (by decide +kernel) rfl, zin (i := 46) (by decide +kernel) rfl, by decide +kernel, by decide +kernel, by decide +kernel, by decide⟩
theorem sm_X3_isReel : Cond.static yX3_isReel ∈ lw_all := zin (i := 410) (by decide +kernel) rfl
theorem la_X3_off : zCal yX3_off cX3_off 3 (some .int) 1 := ⟨zin (i := 415) (by decide +kernel) rfl, zin (i := 46) (by decide +kernel) rfl, by decide +kernel, by decide +kernel, by decide +kernel, by decide⟩
theorem im_X3_off : Cond.instanceMethod yX3_off ∈ lw_all := zin (i := 413) (by decide +kernel) rfl
theorem se_X3_off : Cond.selects yX3_off.cls yX3_off yX3_off ∈ lw_all := zin (i := 414) (by decide +kernel) rfl
theorem la_X3_isCutFrom : zCal yX3_isCutFrom cX3_isCutFrom 3 (some .boolean) 1 := ⟨zin (i := 419) (by decide +kernel) rfl, zin (i := 46) (by decide +kernel) rfl, by decide +kernel, by decide +kernel, by decide +kernel, by decide⟩
theorem im_X3_isCutFrom : Cond.instanceMethod yX3_isCutFrom ∈ lw_all := zin (i := 418) (by decide +kernel) rfl
theorem se_X3_isCutFrom : Cond.selects yX3_isCutFrom.cls yX3_isCutFrom yX3_isCutFrom ∈ lw_all := zin (i := 11) (by decide +kernel) rfl
theorem la_X3_take : zCal yX3_take cX3_take 4 (some .int) 2 := ⟨zin (i := 423) (by decide +kernel) rfl, zin (i := 46) (by decide +kernel) rfl, by decide +kernel, by decide +kernel, by decide +kernel, by decide⟩
theorem im_X3_take : Cond.instanceMethod yX3_take ∈ lw_all := zin (i := 421) (by decide +kernel) rfl
theorem se_X3_take : Cond.selects yX3_take.cls yX3_take yX3_take ∈ lw_all := zin (i := 422) (by decide +kernel) rfl
theorem la_X3_isOfKind : zCal yX3_isOfKind cX3_isOfKind 4 (some .boolean) 2 := ⟨zin (i := 426) (by decide +kernel) rfl, zin (i := 46) (by decide +kernel) rfl, by decide +kernel, by decide +kernel, by decide +kernel, by decide⟩
theorem sm_X3_isOfKind : Cond.static yX3_isOfKind ∈ lw_all := zin (i := 425) (by decide +kernel) rfl
theorem la_X3_order : zCal yX3_order cX3_order 3 (some .int) 2 := ⟨zin (i := 432) (by decide +kernel) rfl, zin (i := 46) (by decide +kernel) rfl, by decide +kernel, by decide +kernel, by decide +kernel, by decide⟩
theorem im_X3_order : Cond.instanceMethod yX3_order ∈ lw_all := zin (i := 430) (by decide +kernel) rfl
theorem se_X3_order : Cond.selects yX3_order.cls yX3_order yX3_order ∈ lw_all := zin (i := 431) (by decide +kernel) rfl
theorem la_X0_init : zCal yX0_init cX0_init 3 none 2 := ⟨zin (i := 437) (by decide +kernel) rfl, zin (i := 52) (by decide +kernel) rfl, by decide +kernel, by decide +kernel, by decide +kernel, by decide⟩
theorem im_X0_init : Cond.instanceMethod yX0_init ∈ lw_all := zin (i := 436) (by decide +kernel) rfl
theorem la_X3_cut : zCal yX3_cut cX3_cut 4 (some .int) 1 := ⟨zin (i := 465) (by decide +kernel) rfl, zin (i := 46) (by decide +kernel) rfl, by decide +kernel, by decide +kernel, by decide +kernel, by decide⟩
theorem im_X3_cut : Cond.instanceMethod yX3_cut ∈ lw_all := zin (i := 463) (by decide +kernel) rfl
theorem se_X3_cut : Cond.selects yX3_cut.cls yX3_cut yX3_cut ∈ lw_all := zin (i := 464) (by decide +kernel) rfl
theorem la_X3_orderAt : zCal yX3_orderAt cX3_orderAt 2 (some (.object "RopeWalk$Order")) 1 := ⟨zin (i := 469) (by decide +kernel) rfl, zin (i := 46) (by decide +kernel) rfl, by decide +kernel, by decide +kernel, by decide +kernel, by decide⟩
theorem im_X3_orderAt : Cond.instanceMethod yX3_orderAt ∈ lw_all := zin (i := 468) (by decide +kernel) rfl
theorem se_X3_orderAt : Cond.selects yX3_orderAt.cls yX3_orderAt yX3_orderAt ∈ lw_all := zin (i := 12) (by decide +kernel) rfl
theorem la_X3_measureReels : zCal yX3_measureReels cX3_measureReels 2 none 0 := ⟨zin (i := 473) (by decide +kernel) rfl, zin (i := 46) (by decide +kernel) rfl, by decide +kernel, by decide +kernel, by decide +kernel, by decide⟩
theorem im_X3_measureReels : Cond.instanceMethod yX3_measureReels ∈ lw_all := zin (i := 472) (by decide +kernel) rfl
theorem se_X3_measureReels : Cond.selects yX3_measureReels.cls yX3_measureReels yX3_measureReels ∈ lw_all := zin (i := 13) (by decide +kernel) rfl
theorem la_X3_measure : zCal yX3_measure cX3_measure 4 none 1 := ⟨zin (i := 476) (by decide +kernel) rfl, zin (i := 46) (by decide +kernel) rfl, by decide +kernel, by decide +kernel, by decide +kernel, by decide⟩
theorem sm_X3_measure : Cond.static yX3_measure ∈ lw_all := zin (i := 475) (by decide +kernel) rfl
theorem la_X3_startTrial : zCal yX3_startTrial cX3_startTrial 2 none 0 := ⟨zin (i := 480) (by decide +kernel) rfl, zin (i := 46) (by decide +kernel) rfl, by decide +kernel, by decide +kernel, by decide +kernel, by decide⟩
theorem im_X3_startTrial : Cond.instanceMethod yX3_startTrial ∈ lw_all := zin (i := 479) (by decide +kernel) rfl
theorem se_X3_startTrial : Cond.selects yX3_startTrial.cls yX3_startTrial yX3_startTrial ∈ lw_all := zin (i := 14) (by decide +kernel) rfl
theorem la_X3_firstFit : zCal yX3_firstFit cX3_firstFit 5 (some .int) 2 := ⟨zin (i := 484) (by decide +kernel) rfl, zin (i := 46) (by decide +kernel) rfl, by decide +kernel, by decide +kernel, by decide +kernel, by decide⟩
theorem im_X3_firstFit : Cond.instanceMethod yX3_firstFit ∈ lw_all := zin (i := 483) (by decide +kernel) rfl
theorem se_X3_firstFit : Cond.selects yX3_firstFit.cls yX3_firstFit yX3_firstFit ∈ lw_all := zin (i := 15) (by decide +kernel) rfl
theorem la_X3_fitOn : zCal yX3_fitOn cX3_fitOn 6 (some .int) 2 := ⟨zin (i := 488) (by decide +kernel) rfl, zin (i := 46) (by decide +kernel) rfl, by decide +kernel, by decide +kernel, by decide +kernel, by decide⟩
theorem im_X3_fitOn : Cond.instanceMethod yX3_fitOn ∈ lw_all := zin (i := 487) (by decide +kernel) rfl
theorem se_X3_fitOn : Cond.selects yX3_fitOn.cls yX3_fitOn yX3_fitOn ∈ lw_all := zin (i := 16) (by decide +kernel) rfl
theorem la_X3_besideTrials : zCal yX3_besideTrials cX3_besideTrials 8 (some .int) 3 := ⟨zin (i := 492) (by decide +kernel) rfl, zin (i := 46) (by decide +kernel) rfl, by decide +kernel, by decide +kernel, by decide +kernel, by decide⟩
theorem im_X3_besideTrials : Cond.instanceMethod yX3_besideTrials ∈ lw_all := zin (i := 491) (by decide +kernel) rfl
theorem se_X3_besideTrials : Cond.selects yX3_besideTrials.cls yX3_besideTrials yX3_besideTrials ∈ lw_all := zin (i := 17) (by decide +kernel) rfl
theorem la_X3_join : zCal yX3_join cX3_join 4 (some .int) 1 := ⟨zin (i := 496) (by decide +kernel) rfl, zin (i := 46) (by decide +kernel) rfl, by decide +kernel, by decide +kernel, by decide +kernel, by decide⟩
theorem im_X3_join : Cond.instanceMethod yX3_join ∈ lw_all := zin (i := 494) (by decide +kernel) rfl
theorem se_X3_join : Cond.selects yX3_join.cls yX3_join yX3_join ∈ lw_all := zin (i := 495) (by decide +kernel) rfl
theorem la_X3_begun : zCal yX3_begun cX3_begun 3 (some .int) 0 := ⟨zin (i := 500) (by decide +kernel) rfl, zin (i := 46) (by decide +kernel) rfl, by decide +kernel, by decide +kernel, by decide +kernel, by decide⟩
theorem im_X3_begun : Cond.instanceMethod yX3_begun ∈ lw_all := zin (i := 498) (by decide +kernel) rfl
theorem se_X3_begun : Cond.selects yX3_begun.cls yX3_begun yX3_begun ∈ lw_all := zin (i := 499) (by decide +kernel) rfl
theorem la_X3_lengthOn : zCal yX3_lengthOn cX3_lengthOn 2 (some .int) 1 := ⟨zin (i := 504) (by decide +kernel) rfl, zin (i := 46) (by decide +kernel) rfl, by decide +kernel, by decide +kernel, by decide +kernel, by decide⟩
theorem im_X3_lengthOn : Cond.instanceMethod yX3_lengthOn ∈ lw_all := zin (i := 503) (by decide +kernel) rfl
theorem se_X3_lengthOn : Cond.selects yX3_lengthOn.cls yX3_lengthOn yX3_lengthOn ∈ lw_all := zin (i := 18) (by decide +kernel) rfl
theorem la_X3_fewest : zCal yX3_fewest cX3_fewest 5 (some .int) 0 := ⟨zin (i := 508) (by decide +kernel) rfl, zin (i := 46) (by decide +kernel) rfl, by decide +kernel, by decide +kernel, by decide +kernel, by decide⟩
theorem im_X3_fewest : Cond.instanceMethod yX3_fewest ∈ lw_all := zin (i := 506) (by decide +kernel) rfl
theorem se_X3_fewest : Cond.selects yX3_fewest.cls yX3_fewest yX3_fewest ∈ lw_all := zin (i := 507) (by decide +kernel) rfl
theorem la_X3_unbegunReels : zCal yX3_unbegunReels cX3_unbegunReels 3 (some .int) 0 := ⟨zin (i := 512) (by decide +kernel) rfl, zin (i := 46) (by decide +kernel) rfl, by decide +kernel, by decide +kernel, by decide +kernel, by decide⟩
theorem im_X3_unbegunReels : Cond.instanceMethod yX3_unbegunReels ∈ lw_all := zin (i := 511) (by decide +kernel) rfl
theorem se_X3_unbegunReels : Cond.selects yX3_unbegunReels.cls yX3_unbegunReels yX3_unbegunReels ∈ lw_all := zin (i := 19) (by decide +kernel) rfl
theorem la_X3_lengthTogether : zCal yX3_lengthTogether cX3_lengthTogether 4 (some .int) 1 := ⟨zin (i := 516) (by decide +kernel) rfl, zin (i := 46) (by decide +kernel) rfl, by decide +kernel, by decide +kernel, by decide +kernel, by decide⟩
theorem im_X3_lengthTogether : Cond.instanceMethod yX3_lengthTogether ∈ lw_all := zin (i := 515) (by decide +kernel) rfl
theorem se_X3_lengthTogether : Cond.selects yX3_lengthTogether.cls yX3_lengthTogether yX3_lengthTogether ∈ lw_all := zin (i := 20) (by decide +kernel) rfl
theorem la_X3_allFit : zCal yX3_allFit cX3_allFit 5 (some .boolean) 1 := ⟨zin (i := 520) (by decide +kernel) rfl, zin (i := 46) (by decide +kernel) rfl, by decide +kernel, by decide +kernel, by decide +kernel, by decide⟩
theorem im_X3_allFit : Cond.instanceMethod yX3_allFit ∈ lw_all := zin (i := 519) (by decide +kernel) rfl
theorem se_X3_allFit : Cond.selects yX3_allFit.cls yX3_allFit yX3_allFit ∈ lw_all := zin (i := 21) (by decide +kernel) rfl
theorem la_X3_stage : zCal yX3_stage cX3_stage 2 (some .int) 1 := ⟨zin (i := 524) (by decide +kernel) rfl, zin (i := 46) (by decide +kernel) rfl, by decide +kernel, by decide +kernel, by decide +kernel, by decide⟩
theorem im_X3_stage : Cond.instanceMethod yX3_stage ∈ lw_all := zin (i := 522) (by decide +kernel) rfl
theorem se_X3_stage : Cond.selects yX3_stage.cls yX3_stage yX3_stage ∈ lw_all := zin (i := 523) (by decide +kernel) rfl
theorem la_X3_unstage : zCal yX3_unstage cX3_unstage 1 (some .int) 0 := ⟨zin (i := 528) (by decide +kernel) rfl, zin (i := 46) (by decide +kernel) rfl, by decide +kernel, by decide +kernel, by decide +kernel, by decide⟩
theorem im_X3_unstage : Cond.instanceMethod yX3_unstage ∈ lw_all := zin (i := 526) (by decide +kernel) rfl
theorem se_X3_unstage : Cond.selects yX3_unstage.cls yX3_unstage yX3_unstage ∈ lw_all := zin (i := 527) (by decide +kernel) rfl
theorem la_X3_pull : zCal yX3_pull cX3_pull 5 (some .long) 2 := ⟨zin (i := 532) (by decide +kernel) rfl, zin (i := 46) (by decide +kernel) rfl, by decide +kernel, by decide +kernel, by decide +kernel, by decide⟩
theorem im_X3_pull : Cond.instanceMethod yX3_pull ∈ lw_all := zin (i := 530) (by decide +kernel) rfl
theorem se_X3_pull : Cond.selects yX3_pull.cls yX3_pull yX3_pull ∈ lw_all := zin (i := 531) (by decide +kernel) rfl
theorem la_X3_ropesOfFirst : zCal yX3_ropesOfFirst cX3_ropesOfFirst 5 (some .long) 1 := ⟨zin (i := 536) (by decide +kernel) rfl, zin (i := 46) (by decide +kernel) rfl, by decide +kernel, by decide +kernel, by decide +kernel, by decide⟩
theorem im_X3_ropesOfFirst : Cond.instanceMethod yX3_ropesOfFirst ∈ lw_all := zin (i := 535) (by decide +kernel) rfl
theorem se_X3_ropesOfFirst : Cond.selects yX3_ropesOfFirst.cls yX3_ropesOfFirst yX3_ropesOfFirst ∈ lw_all := zin (i := 22) (by decide +kernel) rfl
theorem la_X3_canAskLoad : zCal yX3_canAskLoad cX3_canAskLoad 2 (some .boolean) 2 := ⟨zin (i := 539) (by decide +kernel) rfl, zin (i := 46) (by decide +kernel) rfl, by decide +kernel, by decide +kernel, by decide +kernel, by decide⟩
theorem sm_X3_canAskLoad : Cond.static yX3_canAskLoad ∈ lw_all := zin (i := 538) (by decide +kernel) rfl
theorem la_X3_lowestTerms : zCal yX3_lowestTerms cX3_lowestTerms 7 (some .long) 3 := ⟨zin (i := 542) (by decide +kernel) rfl, zin (i := 46) (by decide +kernel) rfl, by decide +kernel, by decide +kernel, by decide +kernel, by decide⟩
theorem sm_X3_lowestTerms : Cond.static yX3_lowestTerms ∈ lw_all := zin (i := 541) (by decide +kernel) rfl
theorem la_X3_greatestDivisor : zCal yX3_greatestDivisor cX3_greatestDivisor 11 (some .long) 2 := ⟨zin (i := 545) (by decide +kernel) rfl, zin (i := 46) (by decide +kernel) rfl, by decide +kernel, by decide +kernel, by decide +kernel, by decide⟩
theorem sm_X3_greatestDivisor : Cond.static yX3_greatestDivisor ∈ lw_all := zin (i := 544) (by decide +kernel) rfl
theorem la_X3_stress : zCal yX3_stress cX3_stress 6 (some .long) 3 := ⟨zin (i := 549) (by decide +kernel) rfl, zin (i := 46) (by decide +kernel) rfl, by decide +kernel, by decide +kernel, by decide +kernel, by decide⟩
theorem im_X3_stress : Cond.instanceMethod yX3_stress ∈ lw_all := zin (i := 547) (by decide +kernel) rfl
theorem se_X3_stress : Cond.selects yX3_stress.cls yX3_stress yX3_stress ∈ lw_all := zin (i := 548) (by decide +kernel) rfl
theorem la_X4_init : zCal yX4_init cX4_init 2 none 0 := ⟨zin (i := 554) (by decide +kernel) rfl, zin (i := 48) (by decide +kernel) rfl, by decide +kernel, by decide +kernel, by decide +kernel, by decide⟩
theorem im_X4_init : Cond.instanceMethod yX4_init ∈ lw_all := zin (i := 553) (by decide +kernel) rfl
theorem la_X4_yarn : zCal yX4_yarn cX4_yarn 3 (some .int) 2 := ⟨zin (i := 669) (by decide +kernel) rfl, zin (i := 48) (by decide +kernel) rfl, by decide +kernel, by decide +kernel, by decide +kernel, by decide⟩
theorem im_X4_yarn : Cond.instanceMethod yX4_yarn ∈ lw_all := zin (i := 667) (by decide +kernel) rfl
theorem se_X4_yarn : Cond.selects yX4_yarn.cls yX4_yarn yX4_yarn ∈ lw_all := zin (i := 668) (by decide +kernel) rfl
theorem la_X4_single : zCal yX4_single cX4_single 5 (some .int) 3 := ⟨zin (i := 673) (by decide +kernel) rfl, zin (i := 48) (by decide +kernel) rfl, by decide +kernel, by decide +kernel, by decide +kernel, by decide⟩
theorem im_X4_single : Cond.instanceMethod yX4_single ∈ lw_all := zin (i := 672) (by decide +kernel) rfl
theorem se_X4_single : Cond.selects yX4_single.cls yX4_single yX4_single ∈ lw_all := zin (i := 23) (by decide +kernel) rfl
theorem la_X4_newPiece : zCal yX4_newPiece cX4_newPiece 5 (some .int) 3 := ⟨zin (i := 678) (by decide +kernel) rfl, zin (i := 48) (by decide +kernel) rfl, by decide +kernel, by decide +kernel, by decide +kernel, by decide⟩
theorem im_X4_newPiece : Cond.instanceMethod yX4_newPiece ∈ lw_all := zin (i := 677) (by decide +kernel) rfl
theorem se_X4_newPiece : Cond.selects yX4_newPiece.cls yX4_newPiece yX4_newPiece ∈ lw_all := zin (i := 24) (by decide +kernel) rfl
theorem la_X4_tape : zCal yX4_tape cX4_tape 3 (some .int) 2 := ⟨zin (i := 683) (by decide +kernel) rfl, zin (i := 48) (by decide +kernel) rfl, by decide +kernel, by decide +kernel, by decide +kernel, by decide⟩
theorem im_X4_tape : Cond.instanceMethod yX4_tape ∈ lw_all := zin (i := 681) (by decide +kernel) rfl
theorem se_X4_tape : Cond.selects yX4_tape.cls yX4_tape yX4_tape ∈ lw_all := zin (i := 682) (by decide +kernel) rfl
theorem la_X4_pick : zCal yX4_pick cX4_pick 4 (some .int) 1 := ⟨zin (i := 687) (by decide +kernel) rfl, zin (i := 48) (by decide +kernel) rfl, by decide +kernel, by decide +kernel, by decide +kernel, by decide⟩
theorem im_X4_pick : Cond.instanceMethod yX4_pick ∈ lw_all := zin (i := 685) (by decide +kernel) rfl
theorem se_X4_pick : Cond.selects yX4_pick.cls yX4_pick yX4_pick ∈ lw_all := zin (i := 686) (by decide +kernel) rfl
theorem la_X4_isFree : zCal yX4_isFree cX4_isFree 2 (some .boolean) 1 := ⟨zin (i := 691) (by decide +kernel) rfl, zin (i := 48) (by decide +kernel) rfl, by decide +kernel, by decide +kernel, by decide +kernel, by decide⟩
theorem im_X4_isFree : Cond.instanceMethod yX4_isFree ∈ lw_all := zin (i := 690) (by decide +kernel) rfl
theorem se_X4_isFree : Cond.selects yX4_isFree.cls yX4_isFree yX4_isFree ∈ lw_all := zin (i := 25) (by decide +kernel) rfl
theorem la_X4_isPiece : zCal yX4_isPiece cX4_isPiece 2 (some .boolean) 1 := ⟨zin (i := 695) (by decide +kernel) rfl, zin (i := 48) (by decide +kernel) rfl, by decide +kernel, by decide +kernel, by decide +kernel, by decide⟩
theorem im_X4_isPiece : Cond.instanceMethod yX4_isPiece ∈ lw_all := zin (i := 694) (by decide +kernel) rfl
theorem se_X4_isPiece : Cond.selects yX4_isPiece.cls yX4_isPiece yX4_isPiece ∈ lw_all := zin (i := 26) (by decide +kernel) rfl
theorem la_X4_drop : zCal yX4_drop cX4_drop 2 (some .int) 0 := ⟨zin (i := 699) (by decide +kernel) rfl, zin (i := 48) (by decide +kernel) rfl, by decide +kernel, by decide +kernel, by decide +kernel, by decide⟩
theorem im_X4_drop : Cond.instanceMethod yX4_drop ∈ lw_all := zin (i := 697) (by decide +kernel) rfl
theorem se_X4_drop : Cond.selects yX4_drop.cls yX4_drop yX4_drop ∈ lw_all := zin (i := 698) (by decide +kernel) rfl
theorem la_X4_lay : zCal yX4_lay cX4_lay 9 (some .int) 3 := ⟨zin (i := 703) (by decide +kernel) rfl, zin (i := 48) (by decide +kernel) rfl, by decide +kernel, by decide +kernel, by decide +kernel, by decide⟩
theorem im_X4_lay : Cond.instanceMethod yX4_lay ∈ lw_all := zin (i := 701) (by decide +kernel) rfl
theorem se_X4_lay : Cond.selects yX4_lay.cls yX4_lay yX4_lay ∈ lw_all := zin (i := 702) (by decide +kernel) rfl
theorem la_X4_mayBeIn : zCal yX4_mayBeIn cX4_mayBeIn 6 (some .boolean) 3 := ⟨zin (i := 707) (by decide +kernel) rfl, zin (i := 48) (by decide +kernel) rfl, by decide +kernel, by decide +kernel, by decide +kernel, by decide⟩
theorem im_X4_mayBeIn : Cond.instanceMethod yX4_mayBeIn ∈ lw_all := zin (i := 706) (by decide +kernel) rfl
theorem se_X4_mayBeIn : Cond.selects yX4_mayBeIn.cls yX4_mayBeIn yX4_mayBeIn ∈ lw_all := zin (i := 27) (by decide +kernel) rfl
theorem la_X4_putIn : zCal yX4_putIn cX4_putIn 3 none 2 := ⟨zin (i := 711) (by decide +kernel) rfl, zin (i := 48) (by decide +kernel) rfl, by decide +kernel, by decide +kernel, by decide +kernel, by decide⟩
theorem im_X4_putIn : Cond.instanceMethod yX4_putIn ∈ lw_all := zin (i := 710) (by decide +kernel) rfl
theorem se_X4_putIn : Cond.selects yX4_putIn.cls yX4_putIn yX4_putIn ∈ lw_all := zin (i := 28) (by decide +kernel) rfl
theorem la_X4_splice : zCal yX4_splice cX4_splice 6 (some .int) 3 := ⟨zin (i := 715) (by decide +kernel) rfl, zin (i := 48) (by decide +kernel) rfl, by decide +kernel, by decide +kernel, by decide +kernel, by decide⟩
theorem im_X4_splice : Cond.instanceMethod yX4_splice ∈ lw_all := zin (i := 713) (by decide +kernel) rfl
theorem se_X4_splice : Cond.selects yX4_splice.cls yX4_splice yX4_splice ∈ lw_all := zin (i := 714) (by decide +kernel) rfl
theorem la_X4_isThick : zCal yX4_isThick cX4_isThick 2 (some .boolean) 1 := ⟨zin (i := 719) (by decide +kernel) rfl, zin (i := 48) (by decide +kernel) rfl, by decide +kernel, by decide +kernel, by decide +kernel, by decide⟩
theorem im_X4_isThick : Cond.instanceMethod yX4_isThick ∈ lw_all := zin (i := 718) (by decide +kernel) rfl
theorem se_X4_isThick : Cond.selects yX4_isThick.cls yX4_isThick yX4_isThick ∈ lw_all := zin (i := 29) (by decide +kernel) rfl
theorem la_X4_untwist : zCal yX4_untwist cX4_untwist 4 (some .int) 1 := ⟨zin (i := 723) (by decide +kernel) rfl, zin (i := 48) (by decide +kernel) rfl, by decide +kernel, by decide +kernel, by decide +kernel, by decide⟩
theorem im_X4_untwist : Cond.instanceMethod yX4_untwist ∈ lw_all := zin (i := 721) (by decide +kernel) rfl
theorem se_X4_untwist : Cond.selects yX4_untwist.cls yX4_untwist yX4_untwist ∈ lw_all := zin (i := 722) (by decide +kernel) rfl
theorem la_X4_of : zCal yX4_of cX4_of 3 (some .int) 2 := ⟨zin (i := 727) (by decide +kernel) rfl, zin (i := 48) (by decide +kernel) rfl, by decide +kernel, by decide +kernel, by decide +kernel, by decide⟩
theorem im_X4_of : Cond.instanceMethod yX4_of ∈ lw_all := zin (i := 725) (by decide +kernel) rfl
theorem se_X4_of : Cond.selects yX4_of.cls yX4_of yX4_of ∈ lw_all := zin (i := 726) (by decide +kernel) rfl
theorem la_X4_weight : zCal yX4_weight cX4_weight 5 (some .int) 1 := ⟨zin (i := 731) (by decide +kernel) rfl, zin (i := 48) (by decide +kernel) rfl, by decide +kernel, by decide +kernel, by decide +kernel, by decide⟩
theorem im_X4_weight : Cond.instanceMethod yX4_weight ∈ lw_all := zin (i := 730) (by decide +kernel) rfl
theorem se_X4_weight : Cond.selects yX4_weight.cls yX4_weight yX4_weight ∈ lw_all := zin (i := 30) (by decide +kernel) rfl
theorem la_X4_part : zCal yX4_part cX4_part 3 (some .int) 2 := ⟨zin (i := 735) (by decide +kernel) rfl, zin (i := 48) (by decide +kernel) rfl, by decide +kernel, by decide +kernel, by decide +kernel, by decide⟩
theorem im_X4_part : Cond.instanceMethod yX4_part ∈ lw_all := zin (i := 733) (by decide +kernel) rfl
theorem se_X4_part : Cond.selects yX4_part.cls yX4_part yX4_part ∈ lw_all := zin (i := 734) (by decide +kernel) rfl
theorem la_X4_count : zCal yX4_count cX4_count 4 (some .int) 1 := ⟨zin (i := 739) (by decide +kernel) rfl, zin (i := 48) (by decide +kernel) rfl, by decide +kernel, by decide +kernel, by decide +kernel, by decide⟩
theorem im_X4_count : Cond.instanceMethod yX4_count ∈ lw_all := zin (i := 737) (by decide +kernel) rfl
theorem se_X4_count : Cond.selects yX4_count.cls yX4_count yX4_count ∈ lw_all := zin (i := 738) (by decide +kernel) rfl
theorem la_X4_row : zCal yX4_row cX4_row 4 (some .int) 2 := ⟨zin (i := 743) (by decide +kernel) rfl, zin (i := 48) (by decide +kernel) rfl, by decide +kernel, by decide +kernel, by decide +kernel, by decide⟩
theorem im_X4_row : Cond.instanceMethod yX4_row ∈ lw_all := zin (i := 741) (by decide +kernel) rfl
theorem se_X4_row : Cond.selects yX4_row.cls yX4_row yX4_row ∈ lw_all := zin (i := 742) (by decide +kernel) rfl
theorem la_X4_isThere : zCal yX4_isThere cX4_isThere 2 (some .boolean) 1 := ⟨zin (i := 747) (by decide +kernel) rfl, zin (i := 48) (by decide +kernel) rfl, by decide +kernel, by decide +kernel, by decide +kernel, by decide⟩
theorem im_X4_isThere : Cond.instanceMethod yX4_isThere ∈ lw_all := zin (i := 746) (by decide +kernel) rfl
theorem se_X4_isThere : Cond.selects yX4_isThere.cls yX4_isThere yX4_isThere ∈ lw_all := zin (i := 31) (by decide +kernel) rfl
theorem la_X4_lose : zCal yX4_lose cX4_lose 3 (some .int) 1 := ⟨zin (i := 751) (by decide +kernel) rfl, zin (i := 48) (by decide +kernel) rfl, by decide +kernel, by decide +kernel, by decide +kernel, by decide⟩
theorem im_X4_lose : Cond.instanceMethod yX4_lose ∈ lw_all := zin (i := 749) (by decide +kernel) rfl
theorem se_X4_lose : Cond.selects yX4_lose.cls yX4_lose yX4_lose ∈ lw_all := zin (i := 750) (by decide +kernel) rfl
theorem la_X4_spot : zCal yX4_spot cX4_spot 8 (some .int) 5 := ⟨zin (i := 755) (by decide +kernel) rfl, zin (i := 48) (by decide +kernel) rfl, by decide +kernel, by decide +kernel, by decide +kernel, by decide⟩
theorem im_X4_spot : Cond.instanceMethod yX4_spot ∈ lw_all := zin (i := 753) (by decide +kernel) rfl
theorem se_X4_spot : Cond.selects yX4_spot.cls yX4_spot yX4_spot ∈ lw_all := zin (i := 754) (by decide +kernel) rfl
theorem la_X4_carry : zCal yX4_carry cX4_carry 8 (some .int) 5 := ⟨zin (i := 759) (by decide +kernel) rfl, zin (i := 48) (by decide +kernel) rfl, by decide +kernel, by decide +kernel, by decide +kernel, by decide⟩
theorem im_X4_carry : Cond.instanceMethod yX4_carry ∈ lw_all := zin (i := 757) (by decide +kernel) rfl
theorem se_X4_carry : Cond.selects yX4_carry.cls yX4_carry yX4_carry ∈ lw_all := zin (i := 758) (by decide +kernel) rfl
theorem la_X4_bears : zCal yX4_bears cX4_bears 3 (some .double) 2 := ⟨zin (i := 763) (by decide +kernel) rfl, zin (i := 48) (by decide +kernel) rfl, by decide +kernel, by decide +kernel, by decide +kernel, by decide⟩
theorem im_X4_bears : Cond.instanceMethod yX4_bears ∈ lw_all := zin (i := 761) (by decide +kernel) rfl
theorem se_X4_bears : Cond.selects yX4_bears.cls yX4_bears yX4_bears ∈ lw_all := zin (i := 762) (by decide +kernel) rfl
theorem la_X4_bearing : zCal yX4_bearing cX4_bearing 7 (some .float) 2 := ⟨zin (i := 768) (by decide +kernel) rfl, zin (i := 48) (by decide +kernel) rfl, by decide +kernel, by decide +kernel, by decide +kernel, by decide⟩
theorem im_X4_bearing : Cond.instanceMethod yX4_bearing ∈ lw_all := zin (i := 767) (by decide +kernel) rfl
theorem se_X4_bearing : Cond.selects yX4_bearing.cls yX4_bearing yX4_bearing ∈ lw_all := zin (i := 32) (by decide +kernel) rfl
theorem la_X4_tellPlaces : zCal yX4_tellPlaces cX4_tellPlaces 7 none 2 := ⟨zin (i := 772) (by decide +kernel) rfl, zin (i := 48) (by decide +kernel) rfl, by decide +kernel, by decide +kernel, by decide +kernel, by decide⟩
theorem im_X4_tellPlaces : Cond.instanceMethod yX4_tellPlaces ∈ lw_all := zin (i := 771) (by decide +kernel) rfl
theorem se_X4_tellPlaces : Cond.selects yX4_tellPlaces.cls yX4_tellPlaces yX4_tellPlaces ∈ lw_all := zin (i := 33) (by decide +kernel) rfl
theorem la_X4_base : zCal yX4_base cX4_base 4 (some .float) 1 := ⟨zin (i := 776) (by decide +kernel) rfl, zin (i := 48) (by decide +kernel) rfl, by decide +kernel, by decide +kernel, by decide +kernel, by decide⟩
theorem im_X4_base : Cond.instanceMethod yX4_base ∈ lw_all := zin (i := 775) (by decide +kernel) rfl
theorem se_X4_base : Cond.selects yX4_base.cls yX4_base yX4_base ∈ lw_all := zin (i := 34) (by decide +kernel) rfl
theorem la_X4_least : zCal yX4_least cX4_least 2 (some .double) 1 := ⟨zin (i := 784) (by decide +kernel) rfl, zin (i := 48) (by decide +kernel) rfl, by decide +kernel, by decide +kernel, by decide +kernel, by decide⟩
theorem im_X4_least : Cond.instanceMethod yX4_least ∈ lw_all := zin (i := 782) (by decide +kernel) rfl
theorem se_X4_least : Cond.selects yX4_least.cls yX4_least yX4_least ∈ lw_all := zin (i := 783) (by decide +kernel) rfl
theorem la_X4_leastOf : zCal yX4_leastOf cX4_leastOf 5 (some .float) 1 := ⟨zin (i := 788) (by decide +kernel) rfl, zin (i := 48) (by decide +kernel) rfl, by decide +kernel, by decide +kernel, by decide +kernel, by decide⟩
theorem im_X4_leastOf : Cond.instanceMethod yX4_leastOf ∈ lw_all := zin (i := 787) (by decide +kernel) rfl
theorem se_X4_leastOf : Cond.selects yX4_leastOf.cls yX4_leastOf yX4_leastOf ∈ lw_all := zin (i := 35) (by decide +kernel) rfl
theorem la_X4_where : zCal yX4_where cX4_where 3 (some .int) 1 := ⟨zin (i := 792) (by decide +kernel) rfl, zin (i := 48) (by decide +kernel) rfl, by decide +kernel, by decide +kernel, by decide +kernel, by decide⟩
theorem im_X4_where : Cond.instanceMethod yX4_where ∈ lw_all := zin (i := 790) (by decide +kernel) rfl
theorem se_X4_where : Cond.selects yX4_where.cls yX4_where yX4_where ∈ lw_all := zin (i := 791) (by decide +kernel) rfl
theorem la_X4_grams : zCal yX4_grams cX4_grams 2 (some .long) 1 := ⟨zin (i := 796) (by decide +kernel) rfl, zin (i := 48) (by decide +kernel) rfl, by decide +kernel, by decide +kernel, by decide +kernel, by decide⟩
theorem im_X4_grams : Cond.instanceMethod yX4_grams ∈ lw_all := zin (i := 794) (by decide +kernel) rfl
theorem se_X4_grams : Cond.selects yX4_grams.cls yX4_grams yX4_grams ∈ lw_all := zin (i := 795) (by decide +kernel) rfl
theorem la_X4_rest : zCal yX4_rest cX4_rest 3 (some .double) 2 := ⟨zin (i := 802) (by decide +kernel) rfl, zin (i := 48) (by decide +kernel) rfl, by decide +kernel, by decide +kernel, by decide +kernel, by decide⟩
theorem im_X4_rest : Cond.instanceMethod yX4_rest ∈ lw_all := zin (i := 800) (by decide +kernel) rfl
theorem se_X4_rest : Cond.selects yX4_rest.cls yX4_rest yX4_rest ∈ lw_all := zin (i := 801) (by decide +kernel) rfl
theorem la_X4_left : zCal yX4_left cX4_left 3 (some .double) 2 := ⟨zin (i := 806) (by decide +kernel) rfl, zin (i := 48) (by decide +kernel) rfl, by decide +kernel, by decide +kernel, by decide +kernel, by decide⟩
theorem im_X4_left : Cond.instanceMethod yX4_left ∈ lw_all := zin (i := 804) (by decide +kernel) rfl
theorem se_X4_left : Cond.selects yX4_left.cls yX4_left yX4_left ∈ lw_all := zin (i := 805) (by decide +kernel) rfl
theorem la_X4_turned : zCal yX4_turned cX4_turned 8 (some .long) 3 := ⟨zin (i := 812) (by decide +kernel) rfl, zin (i := 48) (by decide +kernel) rfl, by decide +kernel, by decide +kernel, by decide +kernel, by decide⟩
theorem im_X4_turned : Cond.instanceMethod yX4_turned ∈ lw_all := zin (i := 810) (by decide +kernel) rfl
theorem se_X4_turned : Cond.selects yX4_turned.cls yX4_turned yX4_turned ∈ lw_all := zin (i := 811) (by decide +kernel) rfl
theorem la_X4_floor : zCal yX4_floor cX4_floor 4 (some .long) 1 := ⟨zin (i := 817) (by decide +kernel) rfl, zin (i := 48) (by decide +kernel) rfl, by decide +kernel, by decide +kernel, by decide +kernel, by decide⟩
theorem sm_X4_floor : Cond.static yX4_floor ∈ lw_all := zin (i := 816) (by decide +kernel) rfl
theorem la_X4_nearest : zCal yX4_nearest cX4_nearest 6 (some .long) 1 := ⟨zin (i := 820) (by decide +kernel) rfl, zin (i := 48) (by decide +kernel) rfl, by decide +kernel, by decide +kernel, by decide +kernel, by decide⟩
theorem sm_X4_nearest : Cond.static yX4_nearest ∈ lw_all := zin (i := 819) (by decide +kernel) rfl
theorem la_X4_hang : zCal yX4_hang cX4_hang 3 (some .int) 2 := ⟨zin (i := 831) (by decide +kernel) rfl, zin (i := 48) (by decide +kernel) rfl, by decide +kernel, by decide +kernel, by decide +kernel, by decide⟩
theorem im_X4_hang : Cond.instanceMethod yX4_hang ∈ lw_all := zin (i := 829) (by decide +kernel) rfl
theorem se_X4_hang : Cond.selects yX4_hang.cls yX4_hang yX4_hang ∈ lw_all := zin (i := 830) (by decide +kernel) rfl
theorem la_X4_isReel : zCal yX4_isReel cX4_isReel 2 (some .boolean) 1 := ⟨zin (i := 835) (by decide +kernel) rfl, zin (i := 48) (by decide +kernel) rfl, by decide +kernel, by decide +kernel, by decide +kernel, by decide⟩
theorem im_X4_isReel : Cond.instanceMethod yX4_isReel ∈ lw_all := zin (i := 834) (by decide +kernel) rfl
theorem se_X4_isReel : Cond.selects yX4_isReel.cls yX4_isReel yX4_isReel ∈ lw_all := zin (i := 36) (by decide +kernel) rfl
theorem la_X4_off : zCal yX4_off cX4_off 3 (some .int) 1 := ⟨zin (i := 839) (by decide +kernel) rfl, zin (i := 48) (by decide +kernel) rfl, by decide +kernel, by decide +kernel, by decide +kernel, by decide⟩
theorem im_X4_off : Cond.instanceMethod yX4_off ∈ lw_all := zin (i := 837) (by decide +kernel) rfl
theorem se_X4_off : Cond.selects yX4_off.cls yX4_off yX4_off ∈ lw_all := zin (i := 838) (by decide +kernel) rfl
theorem la_X4_isCutFrom : zCal yX4_isCutFrom cX4_isCutFrom 4 (some .boolean) 1 := ⟨zin (i := 843) (by decide +kernel) rfl, zin (i := 48) (by decide +kernel) rfl, by decide +kernel, by decide +kernel, by decide +kernel, by decide⟩
theorem im_X4_isCutFrom : Cond.instanceMethod yX4_isCutFrom ∈ lw_all := zin (i := 842) (by decide +kernel) rfl
theorem se_X4_isCutFrom : Cond.selects yX4_isCutFrom.cls yX4_isCutFrom yX4_isCutFrom ∈ lw_all := zin (i := 37) (by decide +kernel) rfl
theorem la_X4_take : zCal yX4_take cX4_take 4 (some .int) 2 := ⟨zin (i := 847) (by decide +kernel) rfl, zin (i := 48) (by decide +kernel) rfl, by decide +kernel, by decide +kernel, by decide +kernel, by decide⟩
theorem im_X4_take : Cond.instanceMethod yX4_take ∈ lw_all := zin (i := 845) (by decide +kernel) rfl
theorem se_X4_take : Cond.selects yX4_take.cls yX4_take yX4_take ∈ lw_all := zin (i := 846) (by decide +kernel) rfl
theorem la_X4_above : zCal yX4_above cX4_above 1 (some .int) 1 := ⟨zin (i := 850) (by decide +kernel) rfl, zin (i := 48) (by decide +kernel) rfl, by decide +kernel, by decide +kernel, by decide +kernel, by decide⟩
theorem sm_X4_above : Cond.static yX4_above ∈ lw_all := zin (i := 849) (by decide +kernel) rfl
theorem la_X4_order : zCal yX4_order cX4_order 3 (some .int) 2 := ⟨zin (i := 854) (by decide +kernel) rfl, zin (i := 48) (by decide +kernel) rfl, by decide +kernel, by decide +kernel, by decide +kernel, by decide⟩
theorem im_X4_order : Cond.instanceMethod yX4_order ∈ lw_all := zin (i := 852) (by decide +kernel) rfl
theorem se_X4_order : Cond.selects yX4_order.cls yX4_order yX4_order ∈ lw_all := zin (i := 853) (by decide +kernel) rfl
theorem la_X4_cut : zCal yX4_cut cX4_cut 2 (some .int) 1 := ⟨zin (i := 859) (by decide +kernel) rfl, zin (i := 48) (by decide +kernel) rfl, by decide +kernel, by decide +kernel, by decide +kernel, by decide⟩
theorem im_X4_cut : Cond.instanceMethod yX4_cut ∈ lw_all := zin (i := 857) (by decide +kernel) rfl
theorem se_X4_cut : Cond.selects yX4_cut.cls yX4_cut yX4_cut ∈ lw_all := zin (i := 858) (by decide +kernel) rfl
theorem la_X4_hungReels : zCal yX4_hungReels cX4_hungReels 3 (some .int) 0 := ⟨zin (i := 863) (by decide +kernel) rfl, zin (i := 48) (by decide +kernel) rfl, by decide +kernel, by decide +kernel, by decide +kernel, by decide⟩
theorem im_X4_hungReels : Cond.instanceMethod yX4_hungReels ∈ lw_all := zin (i := 862) (by decide +kernel) rfl
theorem se_X4_hungReels : Cond.selects yX4_hungReels.cls yX4_hungReels yX4_hungReels ∈ lw_all := zin (i := 38) (by decide +kernel) rfl
theorem la_X4_look : zCal yX4_look cX4_look 3 none 1 := ⟨zin (i := 867) (by decide +kernel) rfl, zin (i := 48) (by decide +kernel) rfl, by decide +kernel, by decide +kernel, by decide +kernel, by decide⟩
theorem im_X4_look : Cond.instanceMethod yX4_look ∈ lw_all := zin (i := 866) (by decide +kernel) rfl
theorem se_X4_look : Cond.selects yX4_look.cls yX4_look yX4_look ∈ lw_all := zin (i := 39) (by decide +kernel) rfl
theorem la_X4_cutFrom : zCal yX4_cutFrom cX4_cutFrom 5 (some .boolean) 2 := ⟨zin (i := 871) (by decide +kernel) rfl, zin (i := 48) (by decide +kernel) rfl, by decide +kernel, by decide +kernel, by decide +kernel, by decide⟩
theorem im_X4_cutFrom : Cond.instanceMethod yX4_cutFrom ∈ lw_all := zin (i := 870) (by decide +kernel) rfl
theorem se_X4_cutFrom : Cond.selects yX4_cutFrom.cls yX4_cutFrom yX4_cutFrom ∈ lw_all := zin (i := 40) (by decide +kernel) rfl
theorem la_X4_fit : zCal yX4_fit cX4_fit 5 (some .int) 2 := ⟨zin (i := 875) (by decide +kernel) rfl, zin (i := 48) (by decide +kernel) rfl, by decide +kernel, by decide +kernel, by decide +kernel, by decide⟩
theorem im_X4_fit : Cond.instanceMethod yX4_fit ∈ lw_all := zin (i := 874) (by decide +kernel) rfl
theorem se_X4_fit : Cond.selects yX4_fit.cls yX4_fit yX4_fit ∈ lw_all := zin (i := 41) (by decide +kernel) rfl
theorem la_X4_markTaken : zCal yX4_markTaken cX4_markTaken 4 none 1 := ⟨zin (i := 879) (by decide +kernel) rfl, zin (i := 48) (by decide +kernel) rfl, by decide +kernel, by decide +kernel, by decide +kernel, by decide⟩
theorem im_X4_markTaken : Cond.instanceMethod yX4_markTaken ∈ lw_all := zin (i := 878) (by decide +kernel) rfl
theorem se_X4_markTaken : Cond.selects yX4_markTaken.cls yX4_markTaken yX4_markTaken ∈ lw_all := zin (i := 42) (by decide +kernel) rfl
theorem la_X4_join : zCal yX4_join cX4_join 3 (some .int) 1 := ⟨zin (i := 883) (by decide +kernel) rfl, zin (i := 48) (by decide +kernel) rfl, by decide +kernel, by decide +kernel, by decide +kernel, by decide⟩
theorem im_X4_join : Cond.instanceMethod yX4_join ∈ lw_all := zin (i := 881) (by decide +kernel) rfl
theorem se_X4_join : Cond.selects yX4_join.cls yX4_join yX4_join ∈ lw_all := zin (i := 882) (by decide +kernel) rfl
theorem la_X4_begun : zCal yX4_begun cX4_begun 3 (some .int) 0 := ⟨zin (i := 887) (by decide +kernel) rfl, zin (i := 48) (by decide +kernel) rfl, by decide +kernel, by decide +kernel, by decide +kernel, by decide⟩
theorem im_X4_begun : Cond.instanceMethod yX4_begun ∈ lw_all := zin (i := 885) (by decide +kernel) rfl
theorem se_X4_begun : Cond.selects yX4_begun.cls yX4_begun yX4_begun ∈ lw_all := zin (i := 886) (by decide +kernel) rfl
theorem la_X4_fewest : zCal yX4_fewest cX4_fewest 7 (some .int) 0 := ⟨zin (i := 891) (by decide +kernel) rfl, zin (i := 48) (by decide +kernel) rfl, by decide +kernel, by decide +kernel, by decide +kernel, by decide⟩
theorem im_X4_fewest : Cond.instanceMethod yX4_fewest ∈ lw_all := zin (i := 889) (by decide +kernel) rfl
theorem se_X4_fewest : Cond.selects yX4_fewest.cls yX4_fewest yX4_fewest ∈ lw_all := zin (i := 890) (by decide +kernel) rfl
theorem la_X4_serves : zCal yX4_serves cX4_serves 4 (some .boolean) 1 := ⟨zin (i := 895) (by decide +kernel) rfl, zin (i := 48) (by decide +kernel) rfl, by decide +kernel, by decide +kernel, by decide +kernel, by decide⟩
theorem im_X4_serves : Cond.instanceMethod yX4_serves ∈ lw_all := zin (i := 894) (by decide +kernel) rfl
theorem se_X4_serves : Cond.selects yX4_serves.cls yX4_serves yX4_serves ∈ lw_all := zin (i := 43) (by decide +kernel) rfl
theorem la_X4_stage : zCal yX4_stage cX4_stage 2 (some .int) 1 := ⟨zin (i := 899) (by decide +kernel) rfl, zin (i := 48) (by decide +kernel) rfl, by decide +kernel, by decide +kernel, by decide +kernel, by decide⟩
theorem im_X4_stage : Cond.instanceMethod yX4_stage ∈ lw_all := zin (i := 897) (by decide +kernel) rfl
theorem se_X4_stage : Cond.selects yX4_stage.cls yX4_stage yX4_stage ∈ lw_all := zin (i := 898) (by decide +kernel) rfl
theorem la_X4_unstage : zCal yX4_unstage cX4_unstage 1 (some .int) 0 := ⟨zin (i := 903) (by decide +kernel) rfl, zin (i := 48) (by decide +kernel) rfl, by decide +kernel, by decide +kernel, by decide +kernel, by decide⟩
theorem im_X4_unstage : Cond.instanceMethod yX4_unstage ∈ lw_all := zin (i := 901) (by decide +kernel) rfl
theorem se_X4_unstage : Cond.selects yX4_unstage.cls yX4_unstage yX4_unstage ∈ lw_all := zin (i := 902) (by decide +kernel) rfl
theorem la_X4_pull : zCal yX4_pull cX4_pull 5 (some .long) 2 := ⟨zin (i := 907) (by decide +kernel) rfl, zin (i := 48) (by decide +kernel) rfl, by decide +kernel, by decide +kernel, by decide +kernel, by decide⟩
theorem im_X4_pull : Cond.instanceMethod yX4_pull ∈ lw_all := zin (i := 905) (by decide +kernel) rfl
theorem se_X4_pull : Cond.selects yX4_pull.cls yX4_pull yX4_pull ∈ lw_all := zin (i := 906) (by decide +kernel) rfl
theorem la_X4_product : zCal yX4_product cX4_product 5 (some .long) 1 := ⟨zin (i := 911) (by decide +kernel) rfl, zin (i := 48) (by decide +kernel) rfl, by decide +kernel, by decide +kernel, by decide +kernel, by decide⟩
theorem im_X4_product : Cond.instanceMethod yX4_product ∈ lw_all := zin (i := 910) (by decide +kernel) rfl
theorem se_X4_product : Cond.selects yX4_product.cls yX4_product yX4_product ∈ lw_all := zin (i := 44) (by decide +kernel) rfl
theorem la_X4_lowest : zCal yX4_lowest cX4_lowest 11 (some .long) 3 := ⟨zin (i := 914) (by decide +kernel) rfl, zin (i := 48) (by decide +kernel) rfl, by decide +kernel, by decide +kernel, by decide +kernel, by decide⟩
theorem sm_X4_lowest : Cond.static yX4_lowest ∈ lw_all := zin (i := 913) (by decide +kernel) rfl
theorem la_X4_stress : zCal yX4_stress cX4_stress 6 (some .long) 3 := ⟨zin (i := 918) (by decide +kernel) rfl, zin (i := 48) (by decide +kernel) rfl, by decide +kernel, by decide +kernel, by decide +kernel, by decide⟩
theorem im_X4_stress : Cond.instanceMethod yX4_stress ∈ lw_all := zin (i := 916) (by decide +kernel) rfl
theorem se_X4_stress : Cond.selects yX4_stress.cls yX4_stress yX4_stress ∈ lw_all := zin (i := 917) (by decide +kernel) rfl
theorem ml_L_9 : Cond.methodLink RL 9 yX3_init ∈ lw_all := zin (i := 55) (by decide +kernel) rfl
theorem ml_L_12 : Cond.methodLink RL 12 yX4_init ∈ lw_all := zin (i := 552) (by decide +kernel) rfl
theorem ml_L_13 : Cond.methodLink RL 13 yX3_yarn ∈ lw_all := zin (i := 117) (by decide +kernel) rfl
theorem ml_L_17 : Cond.methodLink RL 17 yX4_yarn ∈ lw_all := zin (i := 666) (by decide +kernel) rfl
theorem ml_L_18 : Cond.methodLink RL 18 yX3_tape ∈ lw_all := zin (i := 191) (by decide +kernel) rfl
theorem ml_L_21 : Cond.methodLink RL 21 yX4_tape ∈ lw_all := zin (i := 680) (by decide +kernel) rfl
theorem ml_L_22 : Cond.methodLink RL 22 yX3_pick ∈ lw_all := zin (i := 195) (by decide +kernel) rfl
theorem ml_L_26 : Cond.methodLink RL 26 yX4_pick ∈ lw_all := zin (i := 684) (by decide +kernel) rfl
theorem ml_L_27 : Cond.methodLink RL 27 yX3_drop ∈ lw_all := zin (i := 211) (by decide +kernel) rfl
theorem ml_L_31 : Cond.methodLink RL 31 yX4_drop ∈ lw_all := zin (i := 696) (by decide +kernel) rfl
theorem ml_L_32 : Cond.methodLink RL 32 yX3_lay ∈ lw_all := zin (i := 215) (by decide +kernel) rfl
theorem ml_L_36 : Cond.methodLink RL 36 yX4_lay ∈ lw_all := zin (i := 700) (by decide +kernel) rfl
theorem ml_L_37 : Cond.methodLink RL 37 yX3_splice ∈ lw_all := zin (i := 249) (by decide +kernel) rfl
theorem ml_L_40 : Cond.methodLink RL 40 yX4_splice ∈ lw_all := zin (i := 712) (by decide +kernel) rfl
theorem ml_L_41 : Cond.methodLink RL 41 yX3_untwist ∈ lw_all := zin (i := 256) (by decide +kernel) rfl
theorem ml_L_44 : Cond.methodLink RL 44 yX4_untwist ∈ lw_all := zin (i := 720) (by decide +kernel) rfl
theorem ml_L_45 : Cond.methodLink RL 45 yX3_of ∈ lw_all := zin (i := 260) (by decide +kernel) rfl
theorem ml_L_48 : Cond.methodLink RL 48 yX4_of ∈ lw_all := zin (i := 724) (by decide +kernel) rfl
theorem ml_L_49 : Cond.methodLink RL 49 yX3_part ∈ lw_all := zin (i := 264) (by decide +kernel) rfl
theorem ml_L_52 : Cond.methodLink RL 52 yX4_part ∈ lw_all := zin (i := 732) (by decide +kernel) rfl
theorem ml_L_53 : Cond.methodLink RL 53 yX3_count ∈ lw_all := zin (i := 268) (by decide +kernel) rfl
theorem ml_L_56 : Cond.methodLink RL 56 yX4_count ∈ lw_all := zin (i := 736) (by decide +kernel) rfl
theorem ml_L_57 : Cond.methodLink RL 57 yX3_row ∈ lw_all := zin (i := 280) (by decide +kernel) rfl
theorem ml_L_60 : Cond.methodLink RL 60 yX4_row ∈ lw_all := zin (i := 740) (by decide +kernel) rfl
theorem ml_L_61 : Cond.methodLink RL 61 yX3_lose ∈ lw_all := zin (i := 288) (by decide +kernel) rfl
theorem ml_L_64 : Cond.methodLink RL 64 yX4_lose ∈ lw_all := zin (i := 748) (by decide +kernel) rfl
theorem ml_L_65 : Cond.methodLink RL 65 yX3_spot ∈ lw_all := zin (i := 292) (by decide +kernel) rfl
theorem ml_L_69 : Cond.methodLink RL 69 yX4_spot ∈ lw_all := zin (i := 752) (by decide +kernel) rfl
theorem ml_L_70 : Cond.methodLink RL 70 yX3_carry ∈ lw_all := zin (i := 296) (by decide +kernel) rfl
theorem ml_L_73 : Cond.methodLink RL 73 yX4_carry ∈ lw_all := zin (i := 756) (by decide +kernel) rfl
theorem ml_L_74 : Cond.methodLink RL 74 yX3_bears ∈ lw_all := zin (i := 309) (by decide +kernel) rfl
theorem ml_L_78 : Cond.methodLink RL 78 yX4_bears ∈ lw_all := zin (i := 760) (by decide +kernel) rfl
theorem ml_L_79 : Cond.methodLink RL 79 yX3_least ∈ lw_all := zin (i := 335) (by decide +kernel) rfl
theorem ml_L_83 : Cond.methodLink RL 83 yX4_least ∈ lw_all := zin (i := 781) (by decide +kernel) rfl
theorem ml_L_84 : Cond.methodLink RL 84 yX3_where ∈ lw_all := zin (i := 357) (by decide +kernel) rfl
theorem ml_L_87 : Cond.methodLink RL 87 yX4_where ∈ lw_all := zin (i := 789) (by decide +kernel) rfl
theorem ml_L_88 : Cond.methodLink RL 88 yX3_grams ∈ lw_all := zin (i := 361) (by decide +kernel) rfl
theorem ml_L_92 : Cond.methodLink RL 92 yX4_grams ∈ lw_all := zin (i := 793) (by decide +kernel) rfl
theorem ml_L_93 : Cond.methodLink RL 93 yX3_rest ∈ lw_all := zin (i := 367) (by decide +kernel) rfl
theorem ml_L_96 : Cond.methodLink RL 96 yX4_rest ∈ lw_all := zin (i := 799) (by decide +kernel) rfl
theorem ml_L_97 : Cond.methodLink RL 97 yX3_left ∈ lw_all := zin (i := 374) (by decide +kernel) rfl
theorem ml_L_100 : Cond.methodLink RL 100 yX4_left ∈ lw_all := zin (i := 803) (by decide +kernel) rfl
theorem ml_L_101 : Cond.methodLink RL 101 yX3_turned ∈ lw_all := zin (i := 380) (by decide +kernel) rfl
theorem ml_L_105 : Cond.methodLink RL 105 yX4_turned ∈ lw_all := zin (i := 809) (by decide +kernel) rfl
theorem ml_L_106 : Cond.methodLink RL 106 yX3_hang ∈ lw_all := zin (i := 405) (by decide +kernel) rfl
theorem ml_L_109 : Cond.methodLink RL 109 yX4_hang ∈ lw_all := zin (i := 828) (by decide +kernel) rfl
theorem ml_L_110 : Cond.methodLink RL 110 yX3_off ∈ lw_all := zin (i := 412) (by decide +kernel) rfl
theorem ml_L_113 : Cond.methodLink RL 113 yX4_off ∈ lw_all := zin (i := 836) (by decide +kernel) rfl
theorem ml_L_114 : Cond.methodLink RL 114 yX3_take ∈ lw_all := zin (i := 420) (by decide +kernel) rfl
theorem ml_L_117 : Cond.methodLink RL 117 yX4_take ∈ lw_all := zin (i := 844) (by decide +kernel) rfl
theorem ml_L_118 : Cond.methodLink RL 118 yX3_order ∈ lw_all := zin (i := 429) (by decide +kernel) rfl
theorem ml_L_121 : Cond.methodLink RL 121 yX4_order ∈ lw_all := zin (i := 851) (by decide +kernel) rfl
theorem ml_L_122 : Cond.methodLink RL 122 yX3_cut ∈ lw_all := zin (i := 462) (by decide +kernel) rfl
theorem ml_L_125 : Cond.methodLink RL 125 yX4_cut ∈ lw_all := zin (i := 856) (by decide +kernel) rfl
theorem ml_L_126 : Cond.methodLink RL 126 yX3_join ∈ lw_all := zin (i := 493) (by decide +kernel) rfl
theorem ml_L_129 : Cond.methodLink RL 129 yX4_join ∈ lw_all := zin (i := 880) (by decide +kernel) rfl
theorem ml_L_130 : Cond.methodLink RL 130 yX3_begun ∈ lw_all := zin (i := 497) (by decide +kernel) rfl
theorem ml_L_133 : Cond.methodLink RL 133 yX4_begun ∈ lw_all := zin (i := 884) (by decide +kernel) rfl
theorem ml_L_134 : Cond.methodLink RL 134 yX3_fewest ∈ lw_all := zin (i := 505) (by decide +kernel) rfl
theorem ml_L_137 : Cond.methodLink RL 137 yX4_fewest ∈ lw_all := zin (i := 888) (by decide +kernel) rfl
theorem ml_L_138 : Cond.methodLink RL 138 yX3_stage ∈ lw_all := zin (i := 521) (by decide +kernel) rfl
theorem ml_L_141 : Cond.methodLink RL 141 yX4_stage ∈ lw_all := zin (i := 896) (by decide +kernel) rfl
theorem ml_L_142 : Cond.methodLink RL 142 yX3_unstage ∈ lw_all := zin (i := 525) (by decide +kernel) rfl
theorem ml_L_145 : Cond.methodLink RL 145 yX4_unstage ∈ lw_all := zin (i := 900) (by decide +kernel) rfl
theorem ml_L_146 : Cond.methodLink RL 146 yX3_pull ∈ lw_all := zin (i := 529) (by decide +kernel) rfl
theorem ml_L_150 : Cond.methodLink RL 150 yX4_pull ∈ lw_all := zin (i := 904) (by decide +kernel) rfl
theorem ml_L_151 : Cond.methodLink RL 151 yX3_stress ∈ lw_all := zin (i := 546) (by decide +kernel) rfl
theorem ml_L_154 : Cond.methodLink RL 154 yX4_stress ∈ lw_all := zin (i := 915) (by decide +kernel) rfl
theorem ml_X0_1 : Cond.methodLink RX0 1 objectInit ∈ lw_all := zin (i := 438) (by decide +kernel) rfl
theorem ml_X1_3 : Cond.methodLink RX1 3 objectInit ∈ lw_all := zin (i := 131) (by decide +kernel) rfl
theorem ml_X2_3 : Cond.methodLink RX2 3 objectInit ∈ lw_all := zin (i := 71) (by decide +kernel) rfl
theorem ml_X3_1 : Cond.methodLink RX3 1 objectInit ∈ lw_all := zin (i := 58) (by decide +kernel) rfl
theorem mn_X3_34 : Cond.methodLinkNest RX3 34 yX2_init "RopeWalk" ∈ lw_nst := znin (i := 68) (by decide +kernel) rfl
theorem ml_X3_35 : Cond.methodLink RX3 35 yX3_spin ∈ lw_all := zin (i := 121) (by decide +kernel) rfl
theorem mn_X3_45 : Cond.methodLinkNest RX3 45 yX1_init "RopeWalk" ∈ lw_nst := znin (i := 128) (by decide +kernel) rfl
theorem ml_X3_56 : Cond.methodLink RX3 56 yX3_keep ∈ lw_all := zin (i := 187) (by decide +kernel) rfl
theorem ml_X3_63 : Cond.methodLink RX3 63 yX3_pieceAt ∈ lw_all := zin (i := 203) (by decide +kernel) rfl
theorem ml_X3_70 : Cond.methodLink RX3 70 yX3_freePiece ∈ lw_all := zin (i := 199) (by decide +kernel) rfl
theorem ml_X3_73 : Cond.methodLink RX3 73 yX3_isPicked ∈ lw_all := zin (i := 207) (by decide +kernel) rfl
theorem ml_X3_80 : Cond.methodLink RX3 80 yX3_canHold ∈ lw_all := zin (i := 219) (by decide +kernel) rfl
theorem ml_X3_84 : Cond.methodLink RX3 84 yX3_pickedFit ∈ lw_all := zin (i := 222) (by decide +kernel) rfl
theorem ml_X3_87 : Cond.methodLink RX3 87 yX3_shortestPicked ∈ lw_all := zin (i := 232) (by decide +kernel) rfl
theorem ml_X3_91 : Cond.methodLink RX3 91 yX3_pickedParts ∈ lw_all := zin (i := 239) (by decide +kernel) rfl
theorem ml_X3_95 : Cond.methodLink RX3 95 yX3_takeParts ∈ lw_all := zin (i := 246) (by decide +kernel) rfl
theorem ml_X3_99 : Cond.methodLink RX3 99 yX3_canBePart ∈ lw_all := zin (i := 226) (by decide +kernel) rfl
theorem ml_X3_109 : Cond.methodLink RX3 109 yX3_otherTwist ∈ lw_all := zin (i := 229) (by decide +kernel) rfl
theorem ml_X3_116 : Cond.methodLink RX3 116 Lib.Math.min.name ∈ lw_all := zin (i := 236) (by decide +kernel) rfl
theorem ml_X3_122 : Cond.methodLink RX3 122 Lib.Math.max.name ∈ lw_all := zin (i := 243) (by decide +kernel) rfl
theorem ml_X3_131 : Cond.methodLink RX3 131 yX3_canBeSpliced ∈ lw_all := zin (i := 253) (by decide +kernel) rfl
theorem ml_X3_140 : Cond.methodLink RX3 140 yX3_piecesThatAre ∈ lw_all := zin (i := 272) (by decide +kernel) rfl
theorem ml_X3_146 : Cond.methodLink RX3 146 yX3_cutOrders ∈ lw_all := zin (i := 276) (by decide +kernel) rfl
theorem ml_X3_152 : Cond.methodLink RX3 152 yX3_pieceNotGone ∈ lw_all := zin (i := 284) (by decide +kernel) rfl
theorem ml_X3_164 : Cond.methodLink RX3 164 yX3_hasSpots ∈ lw_all := zin (i := 300) (by decide +kernel) rfl
theorem ml_X3_168 : Cond.methodLink RX3 168 arraycopyName ∈ lw_all := zin (i := 303) (by decide +kernel) rfl
theorem ml_X3_174 : Cond.methodLink RX3 174 yX3_toldSpots ∈ lw_all := zin (i := 306) (by decide +kernel) rfl
theorem ml_X3_177 : Cond.methodLink RX3 177 yX3_splicedBase ∈ lw_all := zin (i := 317) (by decide +kernel) rfl
theorem ml_X3_181 : Cond.methodLink RX3 181 yX3_laidBase ∈ lw_all := zin (i := 323) (by decide +kernel) rfl
theorem ml_X3_184 : Cond.methodLink RX3 184 yX3_worn ∈ lw_all := zin (i := 332) (by decide +kernel) rfl
theorem ml_X3_188 : Cond.methodLink RX3 188 yX3_placeOn ∈ lw_all := zin (i := 326) (by decide +kernel) rfl
theorem ml_X3_192 : Cond.methodLink RX3 192 yX3_bearing ∈ lw_all := zin (i := 314) (by decide +kernel) rfl
theorem ml_X3_198 : Cond.methodLink RX3 198 yX3_splicedFrom ∈ lw_all := zin (i := 320) (by decide +kernel) rfl
theorem ml_X3_202 : Cond.methodLink RX3 202 yX3_splicedSteadyTo ∈ lw_all := zin (i := 348) (by decide +kernel) rfl
theorem ml_X3_206 : Cond.methodLink RX3 206 yX3_laidSteadyTo ∈ lw_all := zin (i := 351) (by decide +kernel) rfl
theorem ml_X3_209 : Cond.methodLink RX3 209 yX3_rowSteadyTo ∈ lw_all := zin (i := 354) (by decide +kernel) rfl
theorem ml_X3_213 : Cond.methodLink RX3 213 yX3_steadyTo ∈ lw_all := zin (i := 345) (by decide +kernel) rfl
theorem ml_X3_216 : Cond.methodLink RX3 216 yX3_weakestPlace ∈ lw_all := zin (i := 342) (by decide +kernel) rfl
theorem ml_X3_221 : Cond.methodLink RX3 221 yX3_leastBorne ∈ lw_all := zin (i := 339) (by decide +kernel) rfl
theorem ml_X3_228 : Cond.methodLink RX3 228 yX3_remainder ∈ lw_all := zin (i := 371) (by decide +kernel) rfl
theorem ml_X3_237 : Cond.methodLink RX3 237 yX3_turnedFloat ∈ lw_all := zin (i := 385) (by decide +kernel) rfl
theorem ml_X3_243 : Cond.methodLink RX3 243 yX3_turnedDouble ∈ lw_all := zin (i := 393) (by decide +kernel) rfl
theorem ml_X3_247 : Cond.methodLink RX3 247 yX3_notAbove ∈ lw_all := zin (i := 396) (by decide +kernel) rfl
theorem ml_X3_251 : Cond.methodLink RX3 251 yX3_nearest ∈ lw_all := zin (i := 399) (by decide +kernel) rfl
theorem ml_X3_266 : Cond.methodLink RX3 266 yX3_isReel ∈ lw_all := zin (i := 409) (by decide +kernel) rfl
theorem ml_X3_274 : Cond.methodLink RX3 274 yX3_isCutFrom ∈ lw_all := zin (i := 416) (by decide +kernel) rfl
theorem ml_X3_277 : Cond.methodLink RX3 277 yX3_isOfKind ∈ lw_all := zin (i := 424) (by decide +kernel) rfl
theorem mn_X3_285 : Cond.methodLinkNest RX3 285 yX0_init "RopeWalk" ∈ lw_nst := znin (i := 435) (by decide +kernel) rfl
theorem ml_X3_288 : Cond.methodLink RX3 288 yX3_orderAt ∈ lw_all := zin (i := 466) (by decide +kernel) rfl
theorem ml_X3_295 : Cond.methodLink RX3 295 yX3_measureReels ∈ lw_all := zin (i := 470) (by decide +kernel) rfl
theorem ml_X3_298 : Cond.methodLink RX3 298 yX3_startTrial ∈ lw_all := zin (i := 477) (by decide +kernel) rfl
theorem ml_X3_301 : Cond.methodLink RX3 301 yX3_firstFit ∈ lw_all := zin (i := 481) (by decide +kernel) rfl
theorem ml_X3_308 : Cond.methodLink RX3 308 yX3_lengthOn ∈ lw_all := zin (i := 501) (by decide +kernel) rfl
theorem ml_X3_311 : Cond.methodLink RX3 311 yX3_unbegunReels ∈ lw_all := zin (i := 509) (by decide +kernel) rfl
theorem ml_X3_314 : Cond.methodLink RX3 314 yX3_lengthTogether ∈ lw_all := zin (i := 513) (by decide +kernel) rfl
theorem ml_X3_317 : Cond.methodLink RX3 317 yX3_allFit ∈ lw_all := zin (i := 517) (by decide +kernel) rfl
theorem ml_X3_326 : Cond.methodLink RX3 326 yX3_fitOn ∈ lw_all := zin (i := 485) (by decide +kernel) rfl
theorem ml_X3_344 : Cond.methodLink RX3 344 yX3_besideTrials ∈ lw_all := zin (i := 489) (by decide +kernel) rfl
theorem ml_X3_347 : Cond.methodLink RX3 347 yX3_measure ∈ lw_all := zin (i := 474) (by decide +kernel) rfl
theorem ml_X3_351 : Cond.methodLink RX3 351 yX3_ropesOfFirst ∈ lw_all := zin (i := 533) (by decide +kernel) rfl
theorem ml_X3_355 : Cond.methodLink RX3 355 yX3_canAskLoad ∈ lw_all := zin (i := 537) (by decide +kernel) rfl
theorem ml_X3_358 : Cond.methodLink RX3 358 yX3_lowestTerms ∈ lw_all := zin (i := 540) (by decide +kernel) rfl
theorem ml_X3_362 : Cond.methodLink RX3 362 yX3_greatestDivisor ∈ lw_all := zin (i := 543) (by decide +kernel) rfl
theorem ml_X4_1 : Cond.methodLink RX4 1 objectInit ∈ lw_all := zin (i := 555) (by decide +kernel) rfl
theorem ml_X4_109 : Cond.methodLink RX4 109 yX4_isPiece ∈ lw_all := zin (i := 692) (by decide +kernel) rfl
theorem ml_X4_114 : Cond.methodLink RX4 114 yX4_newPiece ∈ lw_all := zin (i := 675) (by decide +kernel) rfl
theorem ml_X4_119 : Cond.methodLink RX4 119 yX4_single ∈ lw_all := zin (i := 670) (by decide +kernel) rfl
theorem ml_X4_122 : Cond.methodLink RX4 122 yX4_isFree ∈ lw_all := zin (i := 688) (by decide +kernel) rfl
theorem ml_X4_128 : Cond.methodLink RX4 128 yX4_mayBeIn ∈ lw_all := zin (i := 704) (by decide +kernel) rfl
theorem ml_X4_132 : Cond.methodLink RX4 132 yX4_putIn ∈ lw_all := zin (i := 708) (by decide +kernel) rfl
theorem ml_X4_136 : Cond.methodLink RX4 136 yX4_isThick ∈ lw_all := zin (i := 716) (by decide +kernel) rfl
theorem ml_X4_139 : Cond.methodLink RX4 139 yX4_weight ∈ lw_all := zin (i := 728) (by decide +kernel) rfl
theorem ml_X4_149 : Cond.methodLink RX4 149 yX4_isThere ∈ lw_all := zin (i := 744) (by decide +kernel) rfl
theorem ml_X4_156 : Cond.methodLink RX4 156 yX4_tellPlaces ∈ lw_all := zin (i := 769) (by decide +kernel) rfl
theorem ml_X4_159 : Cond.methodLink RX4 159 yX4_base ∈ lw_all := zin (i := 773) (by decide +kernel) rfl
theorem ml_X4_163 : Cond.methodLink RX4 163 yX4_bearing ∈ lw_all := zin (i := 765) (by decide +kernel) rfl
theorem ml_X4_172 : Cond.methodLink RX4 172 yX4_leastOf ∈ lw_all := zin (i := 785) (by decide +kernel) rfl
theorem ml_X4_181 : Cond.methodLink RX4 181 yX4_floor ∈ lw_all := zin (i := 815) (by decide +kernel) rfl
theorem ml_X4_191 : Cond.methodLink RX4 191 yX4_nearest ∈ lw_all := zin (i := 818) (by decide +kernel) rfl
theorem ml_X4_204 : Cond.methodLink RX4 204 yX4_isReel ∈ lw_all := zin (i := 832) (by decide +kernel) rfl
theorem ml_X4_207 : Cond.methodLink RX4 207 yX4_isCutFrom ∈ lw_all := zin (i := 840) (by decide +kernel) rfl
theorem ml_X4_210 : Cond.methodLink RX4 210 yX4_above ∈ lw_all := zin (i := 848) (by decide +kernel) rfl
theorem ml_X4_214 : Cond.methodLink RX4 214 yX4_markTaken ∈ lw_all := zin (i := 876) (by decide +kernel) rfl
theorem ml_X4_218 : Cond.methodLink RX4 218 yX4_fit ∈ lw_all := zin (i := 872) (by decide +kernel) rfl
theorem ml_X4_222 : Cond.methodLink RX4 222 yX4_look ∈ lw_all := zin (i := 864) (by decide +kernel) rfl
theorem ml_X4_225 : Cond.methodLink RX4 225 yX4_hungReels ∈ lw_all := zin (i := 860) (by decide +kernel) rfl
theorem ml_X4_229 : Cond.methodLink RX4 229 yX4_cutFrom ∈ lw_all := zin (i := 868) (by decide +kernel) rfl
theorem ml_X4_233 : Cond.methodLink RX4 233 yX4_serves ∈ lw_all := zin (i := 892) (by decide +kernel) rfl
theorem ml_X4_236 : Cond.methodLink RX4 236 yX4_product ∈ lw_all := zin (i := 908) (by decide +kernel) rfl
theorem ml_X4_240 : Cond.methodLink RX4 240 yX4_lowest ∈ lw_all := zin (i := 912) (by decide +kernel) rfl
theorem la_obj1 : Cond.instanceMethod objectInit ∈ lw_all := zin (i := 59) (by decide +kernel) rfl
theorem la_obj2 : Cond.code objectInit ⟨#[0xb1]⟩ 1 none ∈ lw_all := zin (i := 60) (by decide +kernel) rfl
theorem la_min1 : Cond.static Lib.Math.min.name ∈ lw_all := zin (i := 237) (by decide +kernel) rfl
theorem la_min2 : Cond.code Lib.Math.min.name Lib.Math.min.code 2 (some .int) ∈ lw_all := zin (i := 238) (by decide +kernel) rfl
theorem la_max1 : Cond.static Lib.Math.max.name ∈ lw_all := zin (i := 244) (by decide +kernel) rfl
theorem la_max2 : Cond.code Lib.Math.max.name Lib.Math.max.code 2 (some .int) ∈ lw_all := zin (i := 245) (by decide +kernel) rfl
theorem la_math : Cond.initialized "java/lang/Math" ∈ lw_all := zin (i := 50) (by decide +kernel) rfl
theorem la_sys : Cond.initialized "java/lang/System" ∈ lw_all := zin (i := 51) (by decide +kernel) rfl
theorem la_cpy1 : Cond.native arraycopyName ∈ lw_all := zin (i := 305) (by decide +kernel) rfl
theorem la_cpy2 : Cond.static arraycopyName ∈ lw_all := zin (i := 304) (by decide +kernel) rfl
theorem co_X3_39 : Cond.constant RX3 39 (Int32.ofInt (80000)) ∈ lw_all := zin (i := 125) (by decide +kernel) rfl
theorem co_X3_44 : Cond.constantFloat RX3 44 (1040187392) ∈ lw_all := zin (i := 126) (by decide +kernel) rfl
theorem co_X3_48 : Cond.constantFloat RX3 48 (1056964608) ∈ lw_all := zin (i := 186) (by decide +kernel) rfl
theorem co_X3_195 : Cond.constantFloat RX3 195 (1063256064) ∈ lw_all := zin (i := 329) (by decide +kernel) rfl
theorem co_X3_196 : Cond.constantFloat RX3 196 (1061158912) ∈ lw_all := zin (i := 330) (by decide +kernel) rfl
theorem co_X3_197 : Cond.constantFloat RX3 197 (1059061760) ∈ lw_all := zin (i := 331) (by decide +kernel) rfl
theorem co_X3_219 : Cond.constantDouble RX3 219 (13835058055282163712) ∈ lw_all := zin (i := 313) (by decide +kernel) rfl
theorem co_X3_225 : Cond.constantLong RX3 225 (Int64.ofInt (-2)) ∈ lw_all := zin (i := 365) (by decide +kernel) rfl
theorem co_X3_227 : Cond.constantFloat RX3 227 (1148846080) ∈ lw_all := zin (i := 366) (by decide +kernel) rfl
theorem co_X3_232 : Cond.constant RX3 232 (Int32.ofInt (1000000)) ∈ lw_all := zin (i := 378) (by decide +kernel) rfl
theorem co_X3_233 : Cond.constantDouble RX3 233 (4562146422526312448) ∈ lw_all := zin (i := 379) (by decide +kernel) rfl
theorem co_X3_235 : Cond.constantLong RX3 235 (Int64.ofInt (-1000000)) ∈ lw_all := zin (i := 384) (by decide +kernel) rfl
theorem co_X3_241 : Cond.constantDouble RX3 241 (4593671619917905920) ∈ lw_all := zin (i := 392) (by decide +kernel) rfl
theorem co_X3_254 : Cond.constantLong RX3 254 (Int64.ofInt (-1)) ∈ lw_all := zin (i := 388) (by decide +kernel) rfl
theorem co_X3_256 : Cond.constantDouble RX3 256 (4620693217682128896) ∈ lw_all := zin (i := 403) (by decide +kernel) rfl
theorem co_X3_258 : Cond.constantDouble RX3 258 (4598175219545276416) ∈ lw_all := zin (i := 404) (by decide +kernel) rfl
theorem co_X3_260 : Cond.constantLong RX3 260 (Int64.ofInt (2)) ∈ lw_all := zin (i := 391) (by decide +kernel) rfl
theorem co_X3_262 : Cond.constantFloat RX3 262 (1090519040) ∈ lw_all := zin (i := 389) (by decide +kernel) rfl
theorem co_X3_263 : Cond.constantFloat RX3 263 (1048576000) ∈ lw_all := zin (i := 390) (by decide +kernel) rfl
theorem co_X3_264 : Cond.constantDouble RX3 264 (4602678819172646912) ∈ lw_all := zin (i := 402) (by decide +kernel) rfl
theorem co_X3_284 : Cond.constant RX3 284 (Int32.ofInt (800000)) ∈ lw_all := zin (i := 433) (by decide +kernel) rfl
theorem co_X4_113 : Cond.constant RX4 113 (Int32.ofInt (80000)) ∈ lw_all := zin (i := 674) (by decide +kernel) rfl
theorem co_X4_118 : Cond.constantFloat RX4 118 (1040187392) ∈ lw_all := zin (i := 679) (by decide +kernel) rfl
theorem co_X4_152 : Cond.constantFloat RX4 152 (1056964608) ∈ lw_all := zin (i := 777) (by decide +kernel) rfl
theorem co_X4_153 : Cond.constantFloat RX4 153 (1063256064) ∈ lw_all := zin (i := 778) (by decide +kernel) rfl
theorem co_X4_154 : Cond.constantFloat RX4 154 (1061158912) ∈ lw_all := zin (i := 779) (by decide +kernel) rfl
theorem co_X4_155 : Cond.constantFloat RX4 155 (1059061760) ∈ lw_all := zin (i := 780) (by decide +kernel) rfl
theorem co_X4_170 : Cond.constantDouble RX4 170 (13835058055282163712) ∈ lw_all := zin (i := 764) (by decide +kernel) rfl
theorem co_X4_175 : Cond.constantFloat RX4 175 (1148846080) ∈ lw_all := zin (i := 797) (by decide +kernel) rfl
theorem co_X4_176 : Cond.constantLong RX4 176 (Int64.ofInt (-2)) ∈ lw_all := zin (i := 798) (by decide +kernel) rfl
theorem co_X4_178 : Cond.constant RX4 178 (Int32.ofInt (1000000)) ∈ lw_all := zin (i := 807) (by decide +kernel) rfl
theorem co_X4_179 : Cond.constantDouble RX4 179 (4562146422526312448) ∈ lw_all := zin (i := 808) (by decide +kernel) rfl
theorem co_X4_185 : Cond.constantDouble RX4 185 (4602678819172646912) ∈ lw_all := zin (i := 821) (by decide +kernel) rfl
theorem co_X4_187 : Cond.constantLong RX4 187 (Int64.ofInt (-1000000)) ∈ lw_all := zin (i := 813) (by decide +kernel) rfl
theorem co_X4_189 : Cond.constantDouble RX4 189 (4593671619917905920) ∈ lw_all := zin (i := 814) (by decide +kernel) rfl
theorem co_X4_194 : Cond.constantLong RX4 194 (Int64.ofInt (-1)) ∈ lw_all := zin (i := 822) (by decide +kernel) rfl
theorem co_X4_196 : Cond.constantDouble RX4 196 (4620693217682128896) ∈ lw_all := zin (i := 823) (by decide +kernel) rfl
theorem co_X4_198 : Cond.constantDouble RX4 198 (4598175219545276416) ∈ lw_all := zin (i := 824) (by decide +kernel) rfl
theorem co_X4_200 : Cond.constantLong RX4 200 (Int64.ofInt (2)) ∈ lw_all := zin (i := 825) (by decide +kernel) rfl
theorem co_X4_202 : Cond.constantFloat RX4 202 (1090519040) ∈ lw_all := zin (i := 826) (by decide +kernel) rfl
theorem co_X4_203 : Cond.constantFloat RX4 203 (1048576000) ∈ lw_all := zin (i := 827) (by decide +kernel) rfl
theorem co_X4_213 : Cond.constant RX4 213 (Int32.ofInt (800000)) ∈ lw_all := zin (i := 855) (by decide +kernel) rfl
theorem cl_L_7 : Cond.classLink RL 7 RX3 ∈ lw_all := zin (i := 53) (by decide +kernel) rfl
theorem nw_L_7 : zNW RL 7 3 9 := ⟨RX3, TX3, tyX3, rfl, by decide, rfl, zin_X3, tyX3_ok, zdf_X3, cl_L_7, zin (i := 54) (by decide +kernel) rfl, zin (i := 46) (by decide +kernel) rfl⟩
theorem cl_X3_9 : Cond.classLink RX3 9 RX1 ∈ lw_all := zin (i := 61) (by decide +kernel) rfl
theorem nw_X3_9 : zNW RX3 9 1 14 := ⟨RX1, TX1, tyX1, rfl, by decide, rfl, zin_X1, tyX1_ok, zdf_X1, cl_X3_9, zin (i := 127) (by decide +kernel) rfl, zin (i := 49) (by decide +kernel) rfl⟩
theorem cl_X3_18 : Cond.classLink RX3 18 RX2 ∈ lw_all := zin (i := 63) (by decide +kernel) rfl
theorem nw_X3_18 : zNW RX3 18 2 4 := ⟨RX2, TX2, tyX2, rfl, by decide, rfl, zin_X2, tyX2_ok, zdf_X2, cl_X3_18, zin (i := 67) (by decide +kernel) rfl, zin (i := 47) (by decide +kernel) rfl⟩
theorem cl_X3_24 : Cond.classLink RX3 24 RX0 ∈ lw_all := zin (i := 65) (by decide +kernel) rfl
theorem nw_X3_24 : zNW RX3 24 0 6 := ⟨RX0, TX0, tyX0, rfl, by decide, rfl, zin_X0, tyX0_ok, zdf_X0, cl_X3_24, zin (i := 434) (by decide +kernel) rfl, zin (i := 52) (by decide +kernel) rfl⟩
theorem la_arr_int : Cond.arrayClass .int ∈ lw_all := zin (i := 87) (by decide +kernel) rfl
theorem la_arr_float : Cond.arrayClass .float ∈ lw_all := zin (i := 88) (by decide +kernel) rfl
theorem cl_L_10 : Cond.classLink RL 10 RX4 ∈ lw_all := zin (i := 550) (by decide +kernel) rfl
theorem nw_L_10 : zNW RL 10 4 36 := ⟨RX4, TX4, tyX4, rfl, by decide, rfl, zin_X4, tyX4_ok, zdf_X4, cl_L_10, zin (i := 551) (by decide +kernel) rfl, zin (i := 48) (by decide +kernel) rfl⟩
theorem la_arr_boolean : Cond.arrayClass .boolean ∈ lw_all := zin (i := 665) (by decide +kernel) rfl
