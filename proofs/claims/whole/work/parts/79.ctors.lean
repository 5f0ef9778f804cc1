/-! ===== THE CONSTRUCTORS ===== -/
abbrev mX0_init : gM := (yX0_init, cX0_init, 1, none)
theorem lo_X0_3 : Cond.methodLink RX0 3 Lib.objectInit ∈ tblG := (tbl_t (List.mem_of_getElem? (i := 219) (by decide +kernel)) rfl)
theorem ff_X0_9 : FFK RX0 9 0 0 (.array .int) := ⟨RX0, TX0, 6, tyX0, rfl, by decide, ix_X0, (tbl_t (List.mem_of_getElem? (i := 220) (by decide +kernel)) rfl), tyX0_ok, nmX0, by decide +kernel, rfl⟩
def wX0 (t : gT) (sq h : Nat) (o : Nat → Nat) : va_W := (h, .inr (0, [.ref (o 0), .int 0, .int 0, .int 0, .int 0, .int 0])) :: ([] ++ [ar t (o 0) 30])
theorem K_X0 : Mk mX0_init 1 12 1 30 0 (f0 6 tyX0) (fun t sq h w => ∃ o : Nat → Nat, w = wX0 t sq h o) := by
  refine Mk.intro (by decide +kernel) rfl (by decide) ?_
  intro p l e s m args below meth c D t sq h0 A Z C E H locs ls S hl
  have hf : f0 6 tyX0 = [.null, .int 0, .int 0, .int 0, .int 0, .int 0] := rfl
  rw [hf] at S
  refine lv_aload_n C.1 C.2.1 dX0_init_0 rfl (lv_at hl 0 rfl) ?_
  refine m_obj (pc' := 4) C lo_X0_3 hl ⟨by decide, by decide⟩ dX0_init_1 rfl ?_
  refine lv_aload_n C.1 C.2.1 dX0_init_4 rfl (lv_at hl 0 rfl) ?_
  refine lv_bipush C.1 C.2.1 (v := 30) dX0_init_5 (by decide) ?_
  refine m_newI (pc' := 9) (N' := 30) C S ⟨by decide, by decide, by decide⟩ ⟨by decide, by decide⟩ dX0_init_7 rfl (fun q0 H S => ?_)
  refine m_put (pc' := 12) (fs' := [.ref q0, .int 0, .int 0, .int 0, .int 0, .int 0]) C S ff_X0_9 rfl ⟨rfl, rfl⟩ rfl rfl dX0_init_9 rfl (fun H locs S => ?_)
  exact E _ H locs 12 ls ⟨fun k => [q0].getD k 0, rfl⟩ S dX0_init_12
abbrev mX1_init : gM := (yX1_init, cX1_init, 1, none)
theorem lo_X1_3 : Cond.methodLink RX1 3 Lib.objectInit ∈ tblG := (tbl_t (List.mem_of_getElem? (i := 114) (by decide +kernel)) rfl)
theorem ff_X1_9 : FFK RX1 9 1 0 (.array .int) := ⟨RX1, TX1, 4, tyX1, rfl, by decide, ix_X1, (tbl_t (List.mem_of_getElem? (i := 115) (by decide +kernel)) rfl), tyX1_ok, nmX1, by decide +kernel, rfl⟩
theorem ff_X1_15 : FFK RX1 15 1 1 (.array .int) := ⟨RX1, TX1, 4, tyX1, rfl, by decide, ix_X1, (tbl_t (List.mem_of_getElem? (i := 116) (by decide +kernel)) rfl), tyX1_ok, nmX1, by decide +kernel, rfl⟩
def wX1 (t : gT) (sq h : Nat) (o : Nat → Nat) : va_W := (h, .inr (1, [.ref (o 0), .ref (o 1), .int 0, .int 0])) :: (([] ++ [ar t (o 0) 60]) ++ [ar t (o 1) 60])
theorem K_X1 : Mk mX1_init 1 12 2 120 1 (f0 4 tyX1) (fun t sq h w => ∃ o : Nat → Nat, w = wX1 t sq h o) := by
  refine Mk.intro (by decide +kernel) rfl (by decide) ?_
  intro p l e s m args below meth c D t sq h0 A Z C E H locs ls S hl
  have hf : f0 4 tyX1 = [.null, .null, .int 0, .int 0] := rfl
  rw [hf] at S
  refine lv_aload_n C.1 C.2.1 dX1_init_0 rfl (lv_at hl 0 rfl) ?_
  refine m_obj (pc' := 4) C lo_X1_3 hl ⟨by decide, by decide⟩ dX1_init_1 rfl ?_
  refine lv_aload_n C.1 C.2.1 dX1_init_4 rfl (lv_at hl 0 rfl) ?_
  refine lv_bipush C.1 C.2.1 (v := 60) dX1_init_5 (by decide) ?_
  refine m_newI (pc' := 9) (N' := 60) C S ⟨by decide, by decide, by decide⟩ ⟨by decide, by decide⟩ dX1_init_7 rfl (fun q0 H S => ?_)
  refine m_put (pc' := 12) (fs' := [.ref q0, .null, .int 0, .int 0]) C S ff_X1_9 rfl ⟨rfl, rfl⟩ rfl rfl dX1_init_9 rfl (fun H locs S => ?_)
  refine lv_aload_n C.1 C.2.1 dX1_init_12 rfl (lv_at hl 0 rfl) ?_
  refine lv_bipush C.1 C.2.1 (v := 60) dX1_init_13 (by decide) ?_
  refine m_newI (pc' := 17) (N' := 60) C S ⟨by decide, by decide, by decide⟩ ⟨by decide, by decide⟩ dX1_init_15 rfl (fun q1 H S => ?_)
  refine m_put (pc' := 20) (fs' := [.ref q0, .ref q1, .int 0, .int 0]) C S ff_X1_15 rfl ⟨rfl, rfl⟩ rfl rfl dX1_init_17 rfl (fun H locs S => ?_)
  exact E _ H locs 20 ls ⟨fun k => [q0, q1].getD k 0, rfl⟩ S dX1_init_20
abbrev mX2_init : gM := (yX2_init, cX2_init, 1, none)
theorem lo_X2_3 : Cond.methodLink RX2 3 Lib.objectInit ∈ tblG := (tbl_t (List.mem_of_getElem? (i := 81) (by decide +kernel)) rfl)
theorem ff_X2_9 : FFK RX2 9 2 0 (.array .int) := ⟨RX2, TX2, 7, tyX2, rfl, by decide, ix_X2, (tbl_t (List.mem_of_getElem? (i := 82) (by decide +kernel)) rfl), tyX2_ok, nmX2, by decide +kernel, rfl⟩
theorem ff_X2_15 : FFK RX2 15 2 1 (.array .int) := ⟨RX2, TX2, 7, tyX2, rfl, by decide, ix_X2, (tbl_t (List.mem_of_getElem? (i := 84) (by decide +kernel)) rfl), tyX2_ok, nmX2, by decide +kernel, rfl⟩
theorem ff_X2_18 : FFK RX2 18 2 3 (.array .int) := ⟨RX2, TX2, 7, tyX2, rfl, by decide, ix_X2, (tbl_t (List.mem_of_getElem? (i := 88) (by decide +kernel)) rfl), tyX2_ok, nmX2, by decide +kernel, rfl⟩
theorem ff_X2_21 : FFK RX2 21 2 4 (.array .long) := ⟨RX2, TX2, 7, tyX2, rfl, by decide, ix_X2, (tbl_t (List.mem_of_getElem? (i := 90) (by decide +kernel)) rfl), tyX2_ok, nmX2, by decide +kernel, rfl⟩
theorem ff_X2_25 : FFK RX2 25 2 5 (.array .int) := ⟨RX2, TX2, 7, tyX2, rfl, by decide, ix_X2, (tbl_t (List.mem_of_getElem? (i := 91) (by decide +kernel)) rfl), tyX2_ok, nmX2, by decide +kernel, rfl⟩
theorem ff_X2_28 : FFK RX2 28 2 6 (.array .long) := ⟨RX2, TX2, 7, tyX2, rfl, by decide, ix_X2, (tbl_t (List.mem_of_getElem? (i := 92) (by decide +kernel)) rfl), tyX2_ok, nmX2, by decide +kernel, rfl⟩
def wX2 (t : gT) (sq h : Nat) (o : Nat → Nat) : va_W := (h, .inr (2, [.ref (o 0), .ref (o 1), .int 0, .ref (o 2), .ref (o 3), .ref (o 4), .ref (o 5)])) :: (((((([] ++ [ar t (o 0) 8]) ++ [ar t (o 1) 8]) ++ [ar t (o 2) 8]) ++ [arL t (o 3) 8]) ++ [ar t (o 4) 8]) ++ [arL t (o 5) 8])
theorem K_X2 : Mk mX2_init 1 12 6 48 2 (f0 7 tyX2) (fun t sq h w => ∃ o : Nat → Nat, w = wX2 t sq h o) := by
  refine Mk.intro (by decide +kernel) rfl (by decide) ?_
  intro p l e s m args below meth c D t sq h0 A Z C E H locs ls S hl
  have hf : f0 7 tyX2 = [.null, .null, .int 0, .null, .null, .null, .null] := rfl
  rw [hf] at S
  refine lv_aload_n C.1 C.2.1 dX2_init_0 rfl (lv_at hl 0 rfl) ?_
  refine m_obj (pc' := 4) C lo_X2_3 hl ⟨by decide, by decide⟩ dX2_init_1 rfl ?_
  refine lv_aload_n C.1 C.2.1 dX2_init_4 rfl (lv_at hl 0 rfl) ?_
  refine lv_bipush C.1 C.2.1 (v := 8) dX2_init_5 (by decide) ?_
  refine m_newI (pc' := 9) (N' := 8) C S ⟨by decide, by decide, by decide⟩ ⟨by decide, by decide⟩ dX2_init_7 rfl (fun q0 H S => ?_)
  refine m_put (pc' := 12) (fs' := [.ref q0, .null, .int 0, .null, .null, .null, .null]) C S ff_X2_9 rfl ⟨rfl, rfl⟩ rfl rfl dX2_init_9 rfl (fun H locs S => ?_)
  refine lv_aload_n C.1 C.2.1 dX2_init_12 rfl (lv_at hl 0 rfl) ?_
  refine lv_bipush C.1 C.2.1 (v := 8) dX2_init_13 (by decide) ?_
  refine m_newI (pc' := 17) (N' := 8) C S ⟨by decide, by decide, by decide⟩ ⟨by decide, by decide⟩ dX2_init_15 rfl (fun q1 H S => ?_)
  refine m_put (pc' := 20) (fs' := [.ref q0, .ref q1, .int 0, .null, .null, .null, .null]) C S ff_X2_15 rfl ⟨rfl, rfl⟩ rfl rfl dX2_init_17 rfl (fun H locs S => ?_)
  refine lv_aload_n C.1 C.2.1 dX2_init_20 rfl (lv_at hl 0 rfl) ?_
  refine lv_bipush C.1 C.2.1 (v := 8) dX2_init_21 (by decide) ?_
  refine m_newI (pc' := 25) (N' := 8) C S ⟨by decide, by decide, by decide⟩ ⟨by decide, by decide⟩ dX2_init_23 rfl (fun q2 H S => ?_)
  refine m_put (pc' := 28) (fs' := [.ref q0, .ref q1, .int 0, .ref q2, .null, .null, .null]) C S ff_X2_18 rfl ⟨rfl, rfl⟩ rfl rfl dX2_init_25 rfl (fun H locs S => ?_)
  refine lv_aload_n C.1 C.2.1 dX2_init_28 rfl (lv_at hl 0 rfl) ?_
  refine lv_bipush C.1 C.2.1 (v := 8) dX2_init_29 (by decide) ?_
  refine m_newL (pc' := 33) (N' := 8) C S ⟨by decide, by decide, by decide⟩ ⟨by decide, by decide⟩ dX2_init_31 rfl (fun q3 H S => ?_)
  refine m_put (pc' := 36) (fs' := [.ref q0, .ref q1, .int 0, .ref q2, .ref q3, .null, .null]) C S ff_X2_21 rfl ⟨rfl, rfl⟩ rfl rfl dX2_init_33 rfl (fun H locs S => ?_)
  refine lv_aload_n C.1 C.2.1 dX2_init_36 rfl (lv_at hl 0 rfl) ?_
  refine lv_bipush C.1 C.2.1 (v := 8) dX2_init_37 (by decide) ?_
  refine m_newI (pc' := 41) (N' := 8) C S ⟨by decide, by decide, by decide⟩ ⟨by decide, by decide⟩ dX2_init_39 rfl (fun q4 H S => ?_)
  refine m_put (pc' := 44) (fs' := [.ref q0, .ref q1, .int 0, .ref q2, .ref q3, .ref q4, .null]) C S ff_X2_25 rfl ⟨rfl, rfl⟩ rfl rfl dX2_init_41 rfl (fun H locs S => ?_)
  refine lv_aload_n C.1 C.2.1 dX2_init_44 rfl (lv_at hl 0 rfl) ?_
  refine lv_bipush C.1 C.2.1 (v := 8) dX2_init_45 (by decide) ?_
  refine m_newL (pc' := 49) (N' := 8) C S ⟨by decide, by decide, by decide⟩ ⟨by decide, by decide⟩ dX2_init_47 rfl (fun q5 H S => ?_)
  refine m_put (pc' := 52) (fs' := [.ref q0, .ref q1, .int 0, .ref q2, .ref q3, .ref q4, .ref q5]) C S ff_X2_28 rfl ⟨rfl, rfl⟩ rfl rfl dX2_init_49 rfl (fun H locs S => ?_)
  exact E _ H locs 52 ls ⟨fun k => [q0, q1, q2, q3, q4, q5].getD k 0, rfl⟩ S dX2_init_52
abbrev mX3_init : gM := (yX3_init, cX3_init, 1, none)
theorem lo_X3_3 : Cond.methodLink RX3 3 Lib.objectInit ∈ tblG := (tbl_t (List.mem_of_getElem? (i := 66) (by decide +kernel)) rfl)
theorem ff_X3_9 : FFK RX3 9 3 0 (.array .int) := ⟨RX3, TX3, 2, tyX3, rfl, by decide, ix_X3, (tbl_t (List.mem_of_getElem? (i := 67) (by decide +kernel)) rfl), tyX3_ok, nmX3, by decide +kernel, rfl⟩
def wX3 (t : gT) (sq h : Nat) (o : Nat → Nat) : va_W := (h, .inr (3, [.ref (o 0), .int 0])) :: ([] ++ [ar t (o 0) 40])
theorem K_X3 : Mk mX3_init 1 12 1 40 3 (f0 2 tyX3) (fun t sq h w => ∃ o : Nat → Nat, w = wX3 t sq h o) := by
  refine Mk.intro (by decide +kernel) rfl (by decide) ?_
  intro p l e s m args below meth c D t sq h0 A Z C E H locs ls S hl
  have hf : f0 2 tyX3 = [.null, .int 0] := rfl
  rw [hf] at S
  refine lv_aload_n C.1 C.2.1 dX3_init_0 rfl (lv_at hl 0 rfl) ?_
  refine m_obj (pc' := 4) C lo_X3_3 hl ⟨by decide, by decide⟩ dX3_init_1 rfl ?_
  refine lv_aload_n C.1 C.2.1 dX3_init_4 rfl (lv_at hl 0 rfl) ?_
  refine lv_bipush C.1 C.2.1 (v := 40) dX3_init_5 (by decide) ?_
  refine m_newI (pc' := 9) (N' := 40) C S ⟨by decide, by decide, by decide⟩ ⟨by decide, by decide⟩ dX3_init_7 rfl (fun q0 H S => ?_)
  refine m_put (pc' := 12) (fs' := [.ref q0, .int 0]) C S ff_X3_9 rfl ⟨rfl, rfl⟩ rfl rfl dX3_init_9 rfl (fun H locs S => ?_)
  exact E _ H locs 12 ls ⟨fun k => [q0].getD k 0, rfl⟩ S dX3_init_12
abbrev mX4_init : gM := (yX4_init, cX4_init, 1, none)
theorem lo_X4_3 : Cond.methodLink RX4 3 Lib.objectInit ∈ tblG := (tbl_t (List.mem_of_getElem? (i := 189) (by decide +kernel)) rfl)
theorem ff_X4_9 : FFK RX4 9 4 0 (.array .int) := ⟨RX4, TX4, 6, tyX4, rfl, by decide, ix_X4, (tbl_t (List.mem_of_getElem? (i := 191) (by decide +kernel)) rfl), tyX4_ok, nmX4, by decide +kernel, rfl⟩
theorem ff_X4_15 : FFK RX4 15 4 1 (.array .int) := ⟨RX4, TX4, 6, tyX4, rfl, by decide, ix_X4, (tbl_t (List.mem_of_getElem? (i := 192) (by decide +kernel)) rfl), tyX4_ok, nmX4, by decide +kernel, rfl⟩
theorem ff_X4_20 : FFK RX4 20 4 5 (.object "java/lang/String") := ⟨RX4, TX4, 6, tyX4, rfl, by decide, ix_X4, (tbl_t (List.mem_of_getElem? (i := 199) (by decide +kernel)) rfl), tyX4_ok, nmX4, by decide +kernel, rfl⟩
def wX4 (t : gT) (sq h : Nat) (o : Nat → Nat) : va_W := (h, .inr (4, [.ref (o 0), .ref (o 1), .int 0, .int 0, .int 0, .ref sq])) :: (([] ++ [ar t (o 0) 60]) ++ [ar t (o 1) 60])
theorem K_X4 : Mk mX4_init 1 12 2 120 4 (f0 6 tyX4) (fun t sq h w => ∃ o : Nat → Nat, w = wX4 t sq h o) := by
  refine Mk.intro (by decide +kernel) rfl (by decide) ?_
  intro p l e s m args below meth c D t sq h0 A Z C E H locs ls S hl
  have hf : f0 6 tyX4 = [.null, .null, .int 0, .int 0, .int 0, .null] := rfl
  rw [hf] at S
  refine lv_aload_n C.1 C.2.1 dX4_init_0 rfl (lv_at hl 0 rfl) ?_
  refine m_obj (pc' := 4) C lo_X4_3 hl ⟨by decide, by decide⟩ dX4_init_1 rfl ?_
  refine lv_aload_n C.1 C.2.1 dX4_init_4 rfl (lv_at hl 0 rfl) ?_
  refine lv_bipush C.1 C.2.1 (v := 60) dX4_init_5 (by decide) ?_
  refine m_newI (pc' := 9) (N' := 60) C S ⟨by decide, by decide, by decide⟩ ⟨by decide, by decide⟩ dX4_init_7 rfl (fun q0 H S => ?_)
  refine m_put (pc' := 12) (fs' := [.ref q0, .null, .int 0, .int 0, .int 0, .null]) C S ff_X4_9 rfl ⟨rfl, rfl⟩ rfl rfl dX4_init_9 rfl (fun H locs S => ?_)
  refine lv_aload_n C.1 C.2.1 dX4_init_12 rfl (lv_at hl 0 rfl) ?_
  refine lv_bipush C.1 C.2.1 (v := 60) dX4_init_13 (by decide) ?_
  refine m_newI (pc' := 17) (N' := 60) C S ⟨by decide, by decide, by decide⟩ ⟨by decide, by decide⟩ dX4_init_15 rfl (fun q1 H S => ?_)
  refine m_put (pc' := 20) (fs' := [.ref q0, .ref q1, .int 0, .int 0, .int 0, .null]) C S ff_X4_15 rfl ⟨rfl, rfl⟩ rfl rfl dX4_init_17 rfl (fun H locs S => ?_)
  refine lv_aload_n C.1 C.2.1 dX4_init_20 rfl (lv_at hl 0 rfl) ?_
  refine va_ldcS C.1 C.2.1 C.2.2.2.1 C.2.2.2.2.2.1.2.2.1 dX4_init_21 ?_
  refine m_put (pc' := 26) (fs' := [.ref q0, .ref q1, .int 0, .int 0, .int 0, .ref sq]) C S ff_X4_20 rfl ⟨rfl, rfl⟩ rfl rfl dX4_init_23 rfl (fun H locs S => ?_)
  exact E _ H locs 26 ls ⟨fun k => [q0, q1].getD k 0, rfl⟩ S dX4_init_26
abbrev mX5_init : gM := (yX5_init, cX5_init, 1, none)
theorem lo_X5_3 : Cond.methodLink RX5 3 Lib.objectInit ∈ tblG := (tbl_t (List.mem_of_getElem? (i := 248) (by decide +kernel)) rfl)
theorem ff_X5_9 : FFK RX5 9 5 0 (.array .int) := ⟨RX5, TX5, 3, tyX5, rfl, by decide, ix_X5, (tbl_t (List.mem_of_getElem? (i := 249) (by decide +kernel)) rfl), tyX5_ok, nmX5, by decide +kernel, rfl⟩
def wX5 (t : gT) (sq h : Nat) (o : Nat → Nat) : va_W := (h, .inr (5, [.ref (o 0), .int 0, .int 0])) :: ([] ++ [ar t (o 0) 24])
theorem K_X5 : Mk mX5_init 1 12 1 24 5 (f0 3 tyX5) (fun t sq h w => ∃ o : Nat → Nat, w = wX5 t sq h o) := by
  refine Mk.intro (by decide +kernel) rfl (by decide) ?_
  intro p l e s m args below meth c D t sq h0 A Z C E H locs ls S hl
  have hf : f0 3 tyX5 = [.null, .int 0, .int 0] := rfl
  rw [hf] at S
  refine lv_aload_n C.1 C.2.1 dX5_init_0 rfl (lv_at hl 0 rfl) ?_
  refine m_obj (pc' := 4) C lo_X5_3 hl ⟨by decide, by decide⟩ dX5_init_1 rfl ?_
  refine lv_aload_n C.1 C.2.1 dX5_init_4 rfl (lv_at hl 0 rfl) ?_
  refine lv_bipush C.1 C.2.1 (v := 24) dX5_init_5 (by decide) ?_
  refine m_newI (pc' := 9) (N' := 24) C S ⟨by decide, by decide, by decide⟩ ⟨by decide, by decide⟩ dX5_init_7 rfl (fun q0 H S => ?_)
  refine m_put (pc' := 12) (fs' := [.ref q0, .int 0, .int 0]) C S ff_X5_9 rfl ⟨rfl, rfl⟩ rfl rfl dX5_init_9 rfl (fun H locs S => ?_)
  exact E _ H locs 12 ls ⟨fun k => [q0].getD k 0, rfl⟩ S dX5_init_12
abbrev mX6_init : gM := (yX6_init, cX6_init, 1, none)
theorem lo_X6_3 : Cond.methodLink RX6 3 Lib.objectInit ∈ tblG := (tbl_t (List.mem_of_getElem? (i := 38) (by decide +kernel)) rfl)
theorem ff_X6_9 : FFK RX6 9 6 0 (.array .int) := ⟨RX6, TX6, 5, tyX6, rfl, by decide, ix_X6, (tbl_t (List.mem_of_getElem? (i := 39) (by decide +kernel)) rfl), tyX6_ok, nmX6, by decide +kernel, rfl⟩
theorem ff_X6_15 : FFK RX6 15 6 1 (.array .int) := ⟨RX6, TX6, 5, tyX6, rfl, by decide, ix_X6, (tbl_t (List.mem_of_getElem? (i := 41) (by decide +kernel)) rfl), tyX6_ok, nmX6, by decide +kernel, rfl⟩
theorem ff_X6_18 : FFK RX6 18 6 2 (.array .int) := ⟨RX6, TX6, 5, tyX6, rfl, by decide, ix_X6, (tbl_t (List.mem_of_getElem? (i := 43) (by decide +kernel)) rfl), tyX6_ok, nmX6, by decide +kernel, rfl⟩
theorem ff_X6_21 : FFK RX6 21 6 3 (.array .int) := ⟨RX6, TX6, 5, tyX6, rfl, by decide, ix_X6, (tbl_t (List.mem_of_getElem? (i := 45) (by decide +kernel)) rfl), tyX6_ok, nmX6, by decide +kernel, rfl⟩
def wX6 (t : gT) (sq h : Nat) (o : Nat → Nat) : va_W := (h, .inr (6, [.ref (o 0), .ref (o 1), .ref (o 2), .ref (o 3), .int 0])) :: (((([] ++ [ar t (o 0) 6]) ++ [ar t (o 1) 6]) ++ [ar t (o 2) 6]) ++ [ar t (o 3) 6])
theorem K_X6 : Mk mX6_init 1 12 4 24 6 (f0 5 tyX6) (fun t sq h w => ∃ o : Nat → Nat, w = wX6 t sq h o) := by
  refine Mk.intro (by decide +kernel) rfl (by decide) ?_
  intro p l e s m args below meth c D t sq h0 A Z C E H locs ls S hl
  have hf : f0 5 tyX6 = [.null, .null, .null, .null, .int 0] := rfl
  rw [hf] at S
  refine lv_aload_n C.1 C.2.1 dX6_init_0 rfl (lv_at hl 0 rfl) ?_
  refine m_obj (pc' := 4) C lo_X6_3 hl ⟨by decide, by decide⟩ dX6_init_1 rfl ?_
  refine lv_aload_n C.1 C.2.1 dX6_init_4 rfl (lv_at hl 0 rfl) ?_
  refine lv_bipush C.1 C.2.1 (v := 6) dX6_init_5 (by decide) ?_
  refine m_newI (pc' := 9) (N' := 6) C S ⟨by decide, by decide, by decide⟩ ⟨by decide, by decide⟩ dX6_init_7 rfl (fun q0 H S => ?_)
  refine m_put (pc' := 12) (fs' := [.ref q0, .null, .null, .null, .int 0]) C S ff_X6_9 rfl ⟨rfl, rfl⟩ rfl rfl dX6_init_9 rfl (fun H locs S => ?_)
  refine lv_aload_n C.1 C.2.1 dX6_init_12 rfl (lv_at hl 0 rfl) ?_
  refine lv_bipush C.1 C.2.1 (v := 6) dX6_init_13 (by decide) ?_
  refine m_newI (pc' := 17) (N' := 6) C S ⟨by decide, by decide, by decide⟩ ⟨by decide, by decide⟩ dX6_init_15 rfl (fun q1 H S => ?_)
  refine m_put (pc' := 20) (fs' := [.ref q0, .ref q1, .null, .null, .int 0]) C S ff_X6_15 rfl ⟨rfl, rfl⟩ rfl rfl dX6_init_17 rfl (fun H locs S => ?_)
  refine lv_aload_n C.1 C.2.1 dX6_init_20 rfl (lv_at hl 0 rfl) ?_
  refine lv_bipush C.1 C.2.1 (v := 6) dX6_init_21 (by decide) ?_
  refine m_newI (pc' := 25) (N' := 6) C S ⟨by decide, by decide, by decide⟩ ⟨by decide, by decide⟩ dX6_init_23 rfl (fun q2 H S => ?_)
  refine m_put (pc' := 28) (fs' := [.ref q0, .ref q1, .ref q2, .null, .int 0]) C S ff_X6_18 rfl ⟨rfl, rfl⟩ rfl rfl dX6_init_25 rfl (fun H locs S => ?_)
  refine lv_aload_n C.1 C.2.1 dX6_init_28 rfl (lv_at hl 0 rfl) ?_
  refine lv_bipush C.1 C.2.1 (v := 6) dX6_init_29 (by decide) ?_
  refine m_newI (pc' := 33) (N' := 6) C S ⟨by decide, by decide, by decide⟩ ⟨by decide, by decide⟩ dX6_init_31 rfl (fun q3 H S => ?_)
  refine m_put (pc' := 36) (fs' := [.ref q0, .ref q1, .ref q2, .ref q3, .int 0]) C S ff_X6_21 rfl ⟨rfl, rfl⟩ rfl rfl dX6_init_33 rfl (fun H locs S => ?_)
  exact E _ H locs 36 ls ⟨fun k => [q0, q1, q2, q3].getD k 0, rfl⟩ S dX6_init_36
abbrev mX7_init : gM := (yX7_init, cX7_init, 1, none)
theorem lo_X7_3 : Cond.methodLink RX7 3 Lib.objectInit ∈ tblG := (tbl_t (List.mem_of_getElem? (i := 32) (by decide +kernel)) rfl)
theorem nk_X7_9 : NCK RX7 9 6 5 tyX6 := ⟨RX6, TX6, rfl, ix_X6, tyX6_ok, (tbl_t (List.mem_of_getElem? (i := 33) (by decide +kernel)) rfl), (tbl_t (List.mem_of_getElem? (i := 34) (by decide +kernel)) rfl), (tbl_t (List.mem_of_getElem? (i := 3) (by decide +kernel)) rfl)⟩
theorem mk_X6_init : MOK mX6_init 0 := ⟨(tbl_t (List.mem_of_getElem? (i := 37) (by decide +kernel)) rfl), (tbl_t (List.mem_of_getElem? (i := 3) (by decide +kernel)) rfl), ⟨by decide +kernel, by decide +kernel, by decide +kernel⟩, by decide, by decide +kernel⟩
theorem im_X6_init : Cond.instanceMethod yX6_init ∈ tblG := (tbl_t (List.mem_of_getElem? (i := 36) (by decide +kernel)) rfl)
theorem ln_X7_11 : LOK RX7 11 mX6_init := .inr ⟨"SoldYear", (nst_in (List.mem_of_getElem? (i := 35) (by decide +kernel)) rfl)⟩
theorem ff_X7_12 : FFK RX7 12 7 0 (.object "SoldYear$Sky") := ⟨RX7, TX7, 14, tyX7, rfl, by decide, ix_X7, (tbl_t (List.mem_of_getElem? (i := 130) (by decide +kernel)) rfl), tyX7_ok, nmX7, by decide +kernel, rfl⟩
theorem nk_X7_18 : NCK RX7 18 3 2 tyX3 := ⟨RX3, TX3, rfl, ix_X3, tyX3_ok, (tbl_t (List.mem_of_getElem? (i := 61) (by decide +kernel)) rfl), (tbl_t (List.mem_of_getElem? (i := 62) (by decide +kernel)) rfl), (tbl_t (List.mem_of_getElem? (i := 4) (by decide +kernel)) rfl)⟩
theorem mk_X3_init : MOK mX3_init 0 := ⟨(tbl_t (List.mem_of_getElem? (i := 65) (by decide +kernel)) rfl), (tbl_t (List.mem_of_getElem? (i := 4) (by decide +kernel)) rfl), ⟨by decide +kernel, by decide +kernel, by decide +kernel⟩, by decide, by decide +kernel⟩
theorem im_X3_init : Cond.instanceMethod yX3_init ∈ tblG := (tbl_t (List.mem_of_getElem? (i := 64) (by decide +kernel)) rfl)
theorem ln_X7_20 : LOK RX7 20 mX3_init := .inr ⟨"SoldYear", (nst_in (List.mem_of_getElem? (i := 63) (by decide +kernel)) rfl)⟩
theorem ff_X7_21 : FFK RX7 21 7 1 (.object "SoldYear$Roll") := ⟨RX7, TX7, 14, tyX7, rfl, by decide, ix_X7, (tbl_t (List.mem_of_getElem? (i := 132) (by decide +kernel)) rfl), tyX7_ok, nmX7, by decide +kernel, rfl⟩
theorem nk_X7_25 : NCK RX7 25 2 7 tyX2 := ⟨RX2, TX2, rfl, ix_X2, tyX2_ok, (tbl_t (List.mem_of_getElem? (i := 76) (by decide +kernel)) rfl), (tbl_t (List.mem_of_getElem? (i := 77) (by decide +kernel)) rfl), (tbl_t (List.mem_of_getElem? (i := 5) (by decide +kernel)) rfl)⟩
theorem mk_X2_init : MOK mX2_init 0 := ⟨(tbl_t (List.mem_of_getElem? (i := 80) (by decide +kernel)) rfl), (tbl_t (List.mem_of_getElem? (i := 5) (by decide +kernel)) rfl), ⟨by decide +kernel, by decide +kernel, by decide +kernel⟩, by decide, by decide +kernel⟩
theorem im_X2_init : Cond.instanceMethod yX2_init ∈ tblG := (tbl_t (List.mem_of_getElem? (i := 79) (by decide +kernel)) rfl)
theorem ln_X7_27 : LOK RX7 27 mX2_init := .inr ⟨"SoldYear", (nst_in (List.mem_of_getElem? (i := 78) (by decide +kernel)) rfl)⟩
theorem ff_X7_28 : FFK RX7 28 7 2 (.object "SoldYear$Pile") := ⟨RX7, TX7, 14, tyX7, rfl, by decide, ix_X7, (tbl_t (List.mem_of_getElem? (i := 134) (by decide +kernel)) rfl), tyX7_ok, nmX7, by decide +kernel, rfl⟩
theorem nk_X7_32 : NCK RX7 32 1 4 tyX1 := ⟨RX1, TX1, rfl, ix_X1, tyX1_ok, (tbl_t (List.mem_of_getElem? (i := 109) (by decide +kernel)) rfl), (tbl_t (List.mem_of_getElem? (i := 110) (by decide +kernel)) rfl), (tbl_t (List.mem_of_getElem? (i := 6) (by decide +kernel)) rfl)⟩
theorem mk_X1_init : MOK mX1_init 0 := ⟨(tbl_t (List.mem_of_getElem? (i := 113) (by decide +kernel)) rfl), (tbl_t (List.mem_of_getElem? (i := 6) (by decide +kernel)) rfl), ⟨by decide +kernel, by decide +kernel, by decide +kernel⟩, by decide, by decide +kernel⟩
theorem im_X1_init : Cond.instanceMethod yX1_init ∈ tblG := (tbl_t (List.mem_of_getElem? (i := 112) (by decide +kernel)) rfl)
theorem ln_X7_34 : LOK RX7 34 mX1_init := .inr ⟨"SoldYear", (nst_in (List.mem_of_getElem? (i := 111) (by decide +kernel)) rfl)⟩
theorem ff_X7_35 : FFK RX7 35 7 3 (.object "SoldYear$Law") := ⟨RX7, TX7, 14, tyX7, rfl, by decide, ix_X7, (tbl_t (List.mem_of_getElem? (i := 136) (by decide +kernel)) rfl), tyX7_ok, nmX7, by decide +kernel, rfl⟩
theorem ff_X7_39 : FFK RX7 39 7 4 (.object "SoldYear$Law") := ⟨RX7, TX7, 14, tyX7, rfl, by decide, ix_X7, (tbl_t (List.mem_of_getElem? (i := 137) (by decide +kernel)) rfl), tyX7_ok, nmX7, by decide +kernel, rfl⟩
theorem ff_X7_42 : FFK RX7 42 7 5 (.array .int) := ⟨RX7, TX7, 14, tyX7, rfl, by decide, ix_X7, (tbl_t (List.mem_of_getElem? (i := 138) (by decide +kernel)) rfl), tyX7_ok, nmX7, by decide +kernel, rfl⟩
theorem ff_X7_46 : FFK RX7 46 7 7 (.array .int) := ⟨RX7, TX7, 14, tyX7, rfl, by decide, ix_X7, (tbl_t (List.mem_of_getElem? (i := 142) (by decide +kernel)) rfl), tyX7_ok, nmX7, by decide +kernel, rfl⟩
theorem ff_X7_49 : FFK RX7 49 7 10 .int := ⟨RX7, TX7, 14, tyX7, rfl, by decide, ix_X7, (tbl_t (List.mem_of_getElem? (i := 148) (by decide +kernel)) rfl), tyX7_ok, nmX7, by decide +kernel, rfl⟩
theorem ff_X7_53 : FFK RX7 53 7 13 (.array .int) := ⟨RX7, TX7, 14, tyX7, rfl, by decide, ix_X7, (tbl_t (List.mem_of_getElem? (i := 154) (by decide +kernel)) rfl), tyX7_ok, nmX7, by decide +kernel, rfl⟩
def wX7 (t : gT) (sq h : Nat) (o : Nat → Nat) (_a0o : Nat → Nat) (_a1o : Nat → Nat) (_a2o : Nat → Nat) (_a3o : Nat → Nat) (_a4o : Nat → Nat) : va_W := (h, .inr (7, [.ref (o 0), .ref (o 1), .ref (o 2), .ref (o 3), .ref (o 4), .ref (o 5), .int 0, .ref (o 6), .int 0, .int 0, .int 1, .int 0, .int 0, .ref (o 7)])) :: (((((((([] ++ wX6 t sq (o 0) _a0o) ++ wX3 t sq (o 1) _a1o) ++ wX2 t sq (o 2) _a2o) ++ wX1 t sq (o 3) _a3o) ++ wX1 t sq (o 4) _a4o) ++ [ar t (o 5) 60]) ++ [ar t (o 6) 24]) ++ [ar t (o 7) 10])
theorem K_X7 : Mk mX7_init 2 32 23 468 7 (f0 14 tyX7) (fun t sq h w => ∃ o : Nat → Nat, ∃ _a0o : Nat → Nat, ∃ _a1o : Nat → Nat, ∃ _a2o : Nat → Nat, ∃ _a3o : Nat → Nat, ∃ _a4o : Nat → Nat, w = wX7 t sq h o _a0o _a1o _a2o _a3o _a4o) := by
  refine Mk.intro (by decide +kernel) rfl (by decide) ?_
  intro p l e s m args below meth c D t sq h0 A Z C E H locs ls S hl
  have hf : f0 14 tyX7 = [.null, .null, .null, .null, .null, .null, .int 0, .null, .int 0, .int 0, .int 0, .int 0, .int 0, .null] := rfl
  rw [hf] at S
  refine lv_aload_n C.1 C.2.1 dX7_init_0 rfl (lv_at hl 0 rfl) ?_
  refine m_obj (pc' := 4) C lo_X7_3 hl ⟨by decide, by decide⟩ dX7_init_1 rfl ?_
  refine lv_aload_n C.1 C.2.1 dX7_init_4 rfl (lv_at hl 0 rfl) ?_
  refine m_new' (pc' := 8) C S nk_X7_9 ⟨by decide, by decide⟩ dX7_init_5 rfl (fun q0 H S => ?_)
  refine lv_dup C.1 C.2.1 dX7_init_8 rfl ?_
  refine m_init' (pc' := 12) C S K_X6 mk_X6_init rfl rfl im_X6_init ln_X7_11 ⟨by decide, by decide⟩ ⟨by decide, by decide⟩ hl.1 (show (2 : Nat) ≤ 8 by decide) dX7_init_9 rfl (fun w H locs hw S => ?_)
  obtain ⟨a0o, rfl⟩ := hw
  refine m_put (pc' := 15) (fs' := [.ref q0, .null, .null, .null, .null, .null, .int 0, .null, .int 0, .int 0, .int 0, .int 0, .int 0, .null]) C S ff_X7_12 rfl ⟨rfl, rfl⟩ rfl rfl dX7_init_12 rfl (fun H locs S => ?_)
  refine lv_aload_n C.1 C.2.1 dX7_init_15 rfl (lv_at hl 0 rfl) ?_
  refine m_new' (pc' := 19) C S nk_X7_18 ⟨by decide, by decide⟩ dX7_init_16 rfl (fun q1 H S => ?_)
  refine lv_dup C.1 C.2.1 dX7_init_19 rfl ?_
  refine m_init' (pc' := 23) C S K_X3 mk_X3_init rfl rfl im_X3_init ln_X7_20 ⟨by decide, by decide⟩ ⟨by decide, by decide⟩ hl.1 (show (2 : Nat) ≤ 8 by decide) dX7_init_20 rfl (fun w H locs hw S => ?_)
  obtain ⟨a1o, rfl⟩ := hw
  refine m_put (pc' := 26) (fs' := [.ref q0, .ref q1, .null, .null, .null, .null, .int 0, .null, .int 0, .int 0, .int 0, .int 0, .int 0, .null]) C S ff_X7_21 rfl ⟨rfl, rfl⟩ rfl rfl dX7_init_23 rfl (fun H locs S => ?_)
  refine lv_aload_n C.1 C.2.1 dX7_init_26 rfl (lv_at hl 0 rfl) ?_
  refine m_new' (pc' := 30) C S nk_X7_25 ⟨by decide, by decide⟩ dX7_init_27 rfl (fun q2 H S => ?_)
  refine lv_dup C.1 C.2.1 dX7_init_30 rfl ?_
  refine m_init' (pc' := 34) C S K_X2 mk_X2_init rfl rfl im_X2_init ln_X7_27 ⟨by decide, by decide⟩ ⟨by decide, by decide⟩ hl.1 (show (2 : Nat) ≤ 8 by decide) dX7_init_31 rfl (fun w H locs hw S => ?_)
  obtain ⟨a2o, rfl⟩ := hw
  refine m_put (pc' := 37) (fs' := [.ref q0, .ref q1, .ref q2, .null, .null, .null, .int 0, .null, .int 0, .int 0, .int 0, .int 0, .int 0, .null]) C S ff_X7_28 rfl ⟨rfl, rfl⟩ rfl rfl dX7_init_34 rfl (fun H locs S => ?_)
  refine lv_aload_n C.1 C.2.1 dX7_init_37 rfl (lv_at hl 0 rfl) ?_
  refine m_new' (pc' := 41) C S nk_X7_32 ⟨by decide, by decide⟩ dX7_init_38 rfl (fun q3 H S => ?_)
  refine lv_dup C.1 C.2.1 dX7_init_41 rfl ?_
  refine m_init' (pc' := 45) C S K_X1 mk_X1_init rfl rfl im_X1_init ln_X7_34 ⟨by decide, by decide⟩ ⟨by decide, by decide⟩ hl.1 (show (2 : Nat) ≤ 8 by decide) dX7_init_42 rfl (fun w H locs hw S => ?_)
  obtain ⟨a3o, rfl⟩ := hw
  refine m_put (pc' := 48) (fs' := [.ref q0, .ref q1, .ref q2, .ref q3, .null, .null, .int 0, .null, .int 0, .int 0, .int 0, .int 0, .int 0, .null]) C S ff_X7_35 rfl ⟨rfl, rfl⟩ rfl rfl dX7_init_45 rfl (fun H locs S => ?_)
  refine lv_aload_n C.1 C.2.1 dX7_init_48 rfl (lv_at hl 0 rfl) ?_
  refine m_new' (pc' := 52) C S nk_X7_32 ⟨by decide, by decide⟩ dX7_init_49 rfl (fun q4 H S => ?_)
  refine lv_dup C.1 C.2.1 dX7_init_52 rfl ?_
  refine m_init' (pc' := 56) C S K_X1 mk_X1_init rfl rfl im_X1_init ln_X7_34 ⟨by decide, by decide⟩ ⟨by decide, by decide⟩ hl.1 (show (2 : Nat) ≤ 8 by decide) dX7_init_53 rfl (fun w H locs hw S => ?_)
  obtain ⟨a4o, rfl⟩ := hw
  refine m_put (pc' := 59) (fs' := [.ref q0, .ref q1, .ref q2, .ref q3, .ref q4, .null, .int 0, .null, .int 0, .int 0, .int 0, .int 0, .int 0, .null]) C S ff_X7_39 rfl ⟨rfl, rfl⟩ rfl rfl dX7_init_56 rfl (fun H locs S => ?_)
  refine lv_aload_n C.1 C.2.1 dX7_init_59 rfl (lv_at hl 0 rfl) ?_
  refine lv_bipush C.1 C.2.1 (v := 60) dX7_init_60 (by decide) ?_
  refine m_newI (pc' := 64) (N' := 60) C S ⟨by decide, by decide, by decide⟩ ⟨by decide, by decide⟩ dX7_init_62 rfl (fun q5 H S => ?_)
  refine m_put (pc' := 67) (fs' := [.ref q0, .ref q1, .ref q2, .ref q3, .ref q4, .ref q5, .int 0, .null, .int 0, .int 0, .int 0, .int 0, .int 0, .null]) C S ff_X7_42 rfl ⟨rfl, rfl⟩ rfl rfl dX7_init_64 rfl (fun H locs S => ?_)
  refine lv_aload_n C.1 C.2.1 dX7_init_67 rfl (lv_at hl 0 rfl) ?_
  refine lv_bipush C.1 C.2.1 (v := 24) dX7_init_68 (by decide) ?_
  refine m_newI (pc' := 72) (N' := 24) C S ⟨by decide, by decide, by decide⟩ ⟨by decide, by decide⟩ dX7_init_70 rfl (fun q6 H S => ?_)
  refine m_put (pc' := 75) (fs' := [.ref q0, .ref q1, .ref q2, .ref q3, .ref q4, .ref q5, .int 0, .ref q6, .int 0, .int 0, .int 0, .int 0, .int 0, .null]) C S ff_X7_46 rfl ⟨rfl, rfl⟩ rfl rfl dX7_init_72 rfl (fun H locs S => ?_)
  refine lv_aload_n C.1 C.2.1 dX7_init_75 rfl (lv_at hl 0 rfl) ?_
  refine lv_iconst C.1 C.2.1 (v := 1) dX7_init_76 (by decide) ?_
  refine m_put (pc' := 80) (fs' := [.ref q0, .ref q1, .ref q2, .ref q3, .ref q4, .ref q5, .int 0, .ref q6, .int 0, .int 0, .int 1, .int 0, .int 0, .null]) C S ff_X7_49 rfl ⟨rfl, rfl⟩ rfl rfl dX7_init_77 rfl (fun H locs S => ?_)
  refine lv_aload_n C.1 C.2.1 dX7_init_80 rfl (lv_at hl 0 rfl) ?_
  refine lv_bipush C.1 C.2.1 (v := 10) dX7_init_81 (by decide) ?_
  refine m_newI (pc' := 85) (N' := 10) C S ⟨by decide, by decide, by decide⟩ ⟨by decide, by decide⟩ dX7_init_83 rfl (fun q7 H S => ?_)
  refine m_put (pc' := 88) (fs' := [.ref q0, .ref q1, .ref q2, .ref q3, .ref q4, .ref q5, .int 0, .ref q6, .int 0, .int 0, .int 1, .int 0, .int 0, .ref q7]) C S ff_X7_53 rfl ⟨rfl, rfl⟩ rfl rfl dX7_init_85 rfl (fun H locs S => ?_)
  exact E _ H locs 88 ls ⟨fun k => [q0, q1, q2, q3, q4, q5, q6, q7].getD k 0, a0o, a1o, a2o, a3o, a4o, rfl⟩ S dX7_init_88
