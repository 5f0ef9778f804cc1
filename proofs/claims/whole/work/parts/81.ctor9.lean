/-! ===== THE CONSTRUCTORS ===== -/
abbrev mX9_init : gM := (yX9_init, cX9_init, 1, none)
theorem lo_X9_1 : Cond.methodLink RX9 1 Lib.objectInit ∈ tblG := (tbl_t (List.mem_of_getElem? (i := 874) (by decide +kernel)) rfl)
theorem ff_X9_7 : FFK RX9 7 9 0 (.array .int) := ⟨RX9, TX9, 25, tyX9, rfl, by decide, ix_X9, (tbl_t (List.mem_of_getElem? (i := 875) (by decide +kernel)) rfl), tyX9_ok, nmX9, by decide +kernel, rfl⟩
theorem ff_X9_13 : FFK RX9 13 9 1 (.array .int) := ⟨RX9, TX9, 25, tyX9, rfl, by decide, ix_X9, (tbl_t (List.mem_of_getElem? (i := 876) (by decide +kernel)) rfl), tyX9_ok, nmX9, by decide +kernel, rfl⟩
theorem ff_X9_16 : FFK RX9 16 9 3 (.array .int) := ⟨RX9, TX9, 25, tyX9, rfl, by decide, ix_X9, (tbl_t (List.mem_of_getElem? (i := 878) (by decide +kernel)) rfl), tyX9_ok, nmX9, by decide +kernel, rfl⟩
theorem ff_X9_19 : FFK RX9 19 9 4 (.array .int) := ⟨RX9, TX9, 25, tyX9, rfl, by decide, ix_X9, (tbl_t (List.mem_of_getElem? (i := 879) (by decide +kernel)) rfl), tyX9_ok, nmX9, by decide +kernel, rfl⟩
theorem ff_X9_22 : FFK RX9 22 9 9 (.array .int) := ⟨RX9, TX9, 25, tyX9, rfl, by decide, ix_X9, (tbl_t (List.mem_of_getElem? (i := 884) (by decide +kernel)) rfl), tyX9_ok, nmX9, by decide +kernel, rfl⟩
theorem ff_X9_25 : FFK RX9 25 9 10 (.array .int) := ⟨RX9, TX9, 25, tyX9, rfl, by decide, ix_X9, (tbl_t (List.mem_of_getElem? (i := 885) (by decide +kernel)) rfl), tyX9_ok, nmX9, by decide +kernel, rfl⟩
theorem ff_X9_28 : FFK RX9 28 9 11 (.array .int) := ⟨RX9, TX9, 25, tyX9, rfl, by decide, ix_X9, (tbl_t (List.mem_of_getElem? (i := 886) (by decide +kernel)) rfl), tyX9_ok, nmX9, by decide +kernel, rfl⟩
theorem ff_X9_31 : FFK RX9 31 9 12 (.array .int) := ⟨RX9, TX9, 25, tyX9, rfl, by decide, ix_X9, (tbl_t (List.mem_of_getElem? (i := 887) (by decide +kernel)) rfl), tyX9_ok, nmX9, by decide +kernel, rfl⟩
theorem ff_X9_34 : FFK RX9 34 9 13 (.array .int) := ⟨RX9, TX9, 25, tyX9, rfl, by decide, ix_X9, (tbl_t (List.mem_of_getElem? (i := 888) (by decide +kernel)) rfl), tyX9_ok, nmX9, by decide +kernel, rfl⟩
theorem ff_X9_37 : FFK RX9 37 9 14 (.array .long) := ⟨RX9, TX9, 25, tyX9, rfl, by decide, ix_X9, (tbl_t (List.mem_of_getElem? (i := 889) (by decide +kernel)) rfl), tyX9_ok, nmX9, by decide +kernel, rfl⟩
theorem ff_X9_41 : FFK RX9 41 9 15 (.array .long) := ⟨RX9, TX9, 25, tyX9, rfl, by decide, ix_X9, (tbl_t (List.mem_of_getElem? (i := 890) (by decide +kernel)) rfl), tyX9_ok, nmX9, by decide +kernel, rfl⟩
theorem ff_X9_44 : FFK RX9 44 9 16 (.array .int) := ⟨RX9, TX9, 25, tyX9, rfl, by decide, ix_X9, (tbl_t (List.mem_of_getElem? (i := 891) (by decide +kernel)) rfl), tyX9_ok, nmX9, by decide +kernel, rfl⟩
theorem ff_X9_47 : FFK RX9 47 9 17 (.array .int) := ⟨RX9, TX9, 25, tyX9, rfl, by decide, ix_X9, (tbl_t (List.mem_of_getElem? (i := 892) (by decide +kernel)) rfl), tyX9_ok, nmX9, by decide +kernel, rfl⟩
theorem ff_X9_50 : FFK RX9 50 9 21 (.array .int) := ⟨RX9, TX9, 25, tyX9, rfl, by decide, ix_X9, (tbl_t (List.mem_of_getElem? (i := 896) (by decide +kernel)) rfl), tyX9_ok, nmX9, by decide +kernel, rfl⟩
theorem ff_X9_53 : FFK RX9 53 9 22 (.array .int) := ⟨RX9, TX9, 25, tyX9, rfl, by decide, ix_X9, (tbl_t (List.mem_of_getElem? (i := 897) (by decide +kernel)) rfl), tyX9_ok, nmX9, by decide +kernel, rfl⟩
theorem ff_X9_56 : FFK RX9 56 9 23 (.array .int) := ⟨RX9, TX9, 25, tyX9, rfl, by decide, ix_X9, (tbl_t (List.mem_of_getElem? (i := 898) (by decide +kernel)) rfl), tyX9_ok, nmX9, by decide +kernel, rfl⟩
theorem ff_X9_59 : FFK RX9 59 9 24 (.array .int) := ⟨RX9, TX9, 25, tyX9, rfl, by decide, ix_X9, (tbl_t (List.mem_of_getElem? (i := 899) (by decide +kernel)) rfl), tyX9_ok, nmX9, by decide +kernel, rfl⟩
def wX9 (t : gT) (sq h : Nat) (o : Nat → Nat) : va_W := (h, .inr (9, [.ref (o 0), .ref (o 1), .int 0, .ref (o 2), .ref (o 3), .int 0, .int 0, .int 0, .int 0, .ref (o 4), .ref (o 5), .ref (o 6), .ref (o 7), .ref (o 8), .ref (o 9), .ref (o 10), .ref (o 11), .ref (o 12), .int 0, .int 0, .int 0, .ref (o 13), .ref (o 14), .ref (o 15), .ref (o 16)])) :: ([] ++ (o 0, .inl (t.1, 418, .inl (upd (upd (fun _ => 0) 8 1) 4 (-1)))) :: (((((((((((((((([] ++ [ar t (o 1) 418]) ++ [ar t (o 2) 7]) ++ [ar t (o 3) 800]) ++ [ar t (o 4) 124]) ++ [ar t (o 5) 128]) ++ [ar t (o 6) 64]) ++ [ar t (o 7) 64]) ++ [ar t (o 8) 8]) ++ [arL t (o 9) 64]) ++ [arL t (o 10) 64]) ++ [ar t (o 11) 10]) ++ [ar t (o 12) 30]) ++ [ar t (o 13) 4]) ++ [ar t (o 14) 4]) ++ [ar t (o 15) 96]) ++ [ar t (o 16) 24]))
set_option maxRecDepth 100000 in
set_option maxHeartbeats 8000000 in
theorem K_X9 : Mk mX9_init 1 12 17 2327 9 (f0 25 tyX9) (fun t sq h w => ∃ o : Nat → Nat, w = wX9 t sq h o) := by
  refine Mk.intro (by decide +kernel) rfl (by decide) ?_
  intro p l e s m args below meth c D t sq h0 A Z C E H locs ls S hl
  have hf : f0 25 tyX9 = [.null, .null, .int 0, .null, .null, .int 0, .int 0, .int 0, .int 0, .null, .null, .null, .null, .null, .null, .null, .null, .null, .int 0, .int 0, .int 0, .null, .null, .null, .null] := rfl
  rw [hf] at S
  refine lv_aload_n C.1 C.2.1 dX9_init_0 rfl (lv_at hl 0 rfl) ?_
  refine m_obj (pc' := 4) C lo_X9_1 hl ⟨by decide, by decide⟩ dX9_init_1 rfl ?_
  refine lv_aload_n C.1 C.2.1 dX9_init_4 rfl (lv_at hl 0 rfl) ?_
  refine lv_sipush C.1 C.2.1 (v := 418) dX9_init_5 (by decide) ?_
  refine m_newI (pc' := 10) (N' := 418) C S ⟨by decide, by decide, by decide⟩ ⟨by decide, by decide⟩ dX9_init_8 rfl (fun q0 H S => ?_)
  have S : ST D A s ((h0, .inr (9, [.null, .null, .int 0, .null, .null, .int 0, .int 0, .int 0, .int 0, .null, .null, .null, .null, .null, .null, .null, .null, .null, .int 0, .int 0, .int 0, .null, .null, .null, .null])) :: ([] ++ ar t q0 418 :: [])) H locs := S
  refine m_put (pc' := 13) (fs' := [.ref q0, .null, .int 0, .null, .null, .int 0, .int 0, .int 0, .int 0, .null, .null, .null, .null, .null, .null, .null, .null, .null, .int 0, .int 0, .int 0, .null, .null, .null, .null]) C S ff_X9_7 rfl ⟨rfl, rfl⟩ rfl rfl dX9_init_10 rfl (fun H locs S => ?_)
  refine lv_aload_n C.1 C.2.1 dX9_init_13 rfl (lv_at hl 0 rfl) ?_
  refine lv_sipush C.1 C.2.1 (v := 418) dX9_init_14 (by decide) ?_
  refine m_newI (pc' := 19) (N' := 418) C S ⟨by decide, by decide, by decide⟩ ⟨by decide, by decide⟩ dX9_init_17 rfl (fun q1 H S => ?_)
  have S : ST D A s ((h0, .inr (9, [.ref q0, .null, .int 0, .null, .null, .int 0, .int 0, .int 0, .int 0, .null, .null, .null, .null, .null, .null, .null, .null, .null, .int 0, .int 0, .int 0, .null, .null, .null, .null])) :: ([] ++ ar t q0 418 :: ([] ++ [ar t q1 418]))) H locs := S
  refine m_put (pc' := 22) (fs' := [.ref q0, .ref q1, .int 0, .null, .null, .int 0, .int 0, .int 0, .int 0, .null, .null, .null, .null, .null, .null, .null, .null, .null, .int 0, .int 0, .int 0, .null, .null, .null, .null]) C S ff_X9_13 rfl ⟨rfl, rfl⟩ rfl rfl dX9_init_19 rfl (fun H locs S => ?_)
  refine lv_aload_n C.1 C.2.1 dX9_init_22 rfl (lv_at hl 0 rfl) ?_
  refine lv_bipush C.1 C.2.1 (v := 7) dX9_init_23 (by decide) ?_
  refine m_newI (pc' := 27) (N' := 7) C S ⟨by decide, by decide, by decide⟩ ⟨by decide, by decide⟩ dX9_init_25 rfl (fun q2 H S => ?_)
  have S : ST D A s ((h0, .inr (9, [.ref q0, .ref q1, .int 0, .null, .null, .int 0, .int 0, .int 0, .int 0, .null, .null, .null, .null, .null, .null, .null, .null, .null, .int 0, .int 0, .int 0, .null, .null, .null, .null])) :: ([] ++ ar t q0 418 :: (([] ++ [ar t q1 418]) ++ [ar t q2 7]))) H locs := S
  refine m_put (pc' := 30) (fs' := [.ref q0, .ref q1, .int 0, .ref q2, .null, .int 0, .int 0, .int 0, .int 0, .null, .null, .null, .null, .null, .null, .null, .null, .null, .int 0, .int 0, .int 0, .null, .null, .null, .null]) C S ff_X9_16 rfl ⟨rfl, rfl⟩ rfl rfl dX9_init_27 rfl (fun H locs S => ?_)
  refine lv_aload_n C.1 C.2.1 dX9_init_30 rfl (lv_at hl 0 rfl) ?_
  refine lv_sipush C.1 C.2.1 (v := 800) dX9_init_31 (by decide) ?_
  refine m_newI (pc' := 36) (N' := 800) C S ⟨by decide, by decide, by decide⟩ ⟨by decide, by decide⟩ dX9_init_34 rfl (fun q3 H S => ?_)
  have S : ST D A s ((h0, .inr (9, [.ref q0, .ref q1, .int 0, .ref q2, .null, .int 0, .int 0, .int 0, .int 0, .null, .null, .null, .null, .null, .null, .null, .null, .null, .int 0, .int 0, .int 0, .null, .null, .null, .null])) :: ([] ++ ar t q0 418 :: ((([] ++ [ar t q1 418]) ++ [ar t q2 7]) ++ [ar t q3 800]))) H locs := S
  refine m_put (pc' := 39) (fs' := [.ref q0, .ref q1, .int 0, .ref q2, .ref q3, .int 0, .int 0, .int 0, .int 0, .null, .null, .null, .null, .null, .null, .null, .null, .null, .int 0, .int 0, .int 0, .null, .null, .null, .null]) C S ff_X9_19 rfl ⟨rfl, rfl⟩ rfl rfl dX9_init_36 rfl (fun H locs S => ?_)
  refine lv_aload_n C.1 C.2.1 dX9_init_39 rfl (lv_at hl 0 rfl) ?_
  refine lv_bipush C.1 C.2.1 (v := 124) dX9_init_40 (by decide) ?_
  refine m_newI (pc' := 44) (N' := 124) C S ⟨by decide, by decide, by decide⟩ ⟨by decide, by decide⟩ dX9_init_42 rfl (fun q4 H S => ?_)
  have S : ST D A s ((h0, .inr (9, [.ref q0, .ref q1, .int 0, .ref q2, .ref q3, .int 0, .int 0, .int 0, .int 0, .null, .null, .null, .null, .null, .null, .null, .null, .null, .int 0, .int 0, .int 0, .null, .null, .null, .null])) :: ([] ++ ar t q0 418 :: (((([] ++ [ar t q1 418]) ++ [ar t q2 7]) ++ [ar t q3 800]) ++ [ar t q4 124]))) H locs := S
  refine m_put (pc' := 47) (fs' := [.ref q0, .ref q1, .int 0, .ref q2, .ref q3, .int 0, .int 0, .int 0, .int 0, .ref q4, .null, .null, .null, .null, .null, .null, .null, .null, .int 0, .int 0, .int 0, .null, .null, .null, .null]) C S ff_X9_22 rfl ⟨rfl, rfl⟩ rfl rfl dX9_init_44 rfl (fun H locs S => ?_)
  refine lv_aload_n C.1 C.2.1 dX9_init_47 rfl (lv_at hl 0 rfl) ?_
  refine lv_sipush C.1 C.2.1 (v := 128) dX9_init_48 (by decide) ?_
  refine m_newI (pc' := 53) (N' := 128) C S ⟨by decide, by decide, by decide⟩ ⟨by decide, by decide⟩ dX9_init_51 rfl (fun q5 H S => ?_)
  have S : ST D A s ((h0, .inr (9, [.ref q0, .ref q1, .int 0, .ref q2, .ref q3, .int 0, .int 0, .int 0, .int 0, .ref q4, .null, .null, .null, .null, .null, .null, .null, .null, .int 0, .int 0, .int 0, .null, .null, .null, .null])) :: ([] ++ ar t q0 418 :: ((((([] ++ [ar t q1 418]) ++ [ar t q2 7]) ++ [ar t q3 800]) ++ [ar t q4 124]) ++ [ar t q5 128]))) H locs := S
  refine m_put (pc' := 56) (fs' := [.ref q0, .ref q1, .int 0, .ref q2, .ref q3, .int 0, .int 0, .int 0, .int 0, .ref q4, .ref q5, .null, .null, .null, .null, .null, .null, .null, .int 0, .int 0, .int 0, .null, .null, .null, .null]) C S ff_X9_25 rfl ⟨rfl, rfl⟩ rfl rfl dX9_init_53 rfl (fun H locs S => ?_)
  refine lv_aload_n C.1 C.2.1 dX9_init_56 rfl (lv_at hl 0 rfl) ?_
  refine lv_bipush C.1 C.2.1 (v := 64) dX9_init_57 (by decide) ?_
  refine m_newI (pc' := 61) (N' := 64) C S ⟨by decide, by decide, by decide⟩ ⟨by decide, by decide⟩ dX9_init_59 rfl (fun q6 H S => ?_)
  have S : ST D A s ((h0, .inr (9, [.ref q0, .ref q1, .int 0, .ref q2, .ref q3, .int 0, .int 0, .int 0, .int 0, .ref q4, .ref q5, .null, .null, .null, .null, .null, .null, .null, .int 0, .int 0, .int 0, .null, .null, .null, .null])) :: ([] ++ ar t q0 418 :: (((((([] ++ [ar t q1 418]) ++ [ar t q2 7]) ++ [ar t q3 800]) ++ [ar t q4 124]) ++ [ar t q5 128]) ++ [ar t q6 64]))) H locs := S
  refine m_put (pc' := 64) (fs' := [.ref q0, .ref q1, .int 0, .ref q2, .ref q3, .int 0, .int 0, .int 0, .int 0, .ref q4, .ref q5, .ref q6, .null, .null, .null, .null, .null, .null, .int 0, .int 0, .int 0, .null, .null, .null, .null]) C S ff_X9_28 rfl ⟨rfl, rfl⟩ rfl rfl dX9_init_61 rfl (fun H locs S => ?_)
  refine lv_aload_n C.1 C.2.1 dX9_init_64 rfl (lv_at hl 0 rfl) ?_
  refine lv_bipush C.1 C.2.1 (v := 64) dX9_init_65 (by decide) ?_
  refine m_newI (pc' := 69) (N' := 64) C S ⟨by decide, by decide, by decide⟩ ⟨by decide, by decide⟩ dX9_init_67 rfl (fun q7 H S => ?_)
  have S : ST D A s ((h0, .inr (9, [.ref q0, .ref q1, .int 0, .ref q2, .ref q3, .int 0, .int 0, .int 0, .int 0, .ref q4, .ref q5, .ref q6, .null, .null, .null, .null, .null, .null, .int 0, .int 0, .int 0, .null, .null, .null, .null])) :: ([] ++ ar t q0 418 :: ((((((([] ++ [ar t q1 418]) ++ [ar t q2 7]) ++ [ar t q3 800]) ++ [ar t q4 124]) ++ [ar t q5 128]) ++ [ar t q6 64]) ++ [ar t q7 64]))) H locs := S
  refine m_put (pc' := 72) (fs' := [.ref q0, .ref q1, .int 0, .ref q2, .ref q3, .int 0, .int 0, .int 0, .int 0, .ref q4, .ref q5, .ref q6, .ref q7, .null, .null, .null, .null, .null, .int 0, .int 0, .int 0, .null, .null, .null, .null]) C S ff_X9_31 rfl ⟨rfl, rfl⟩ rfl rfl dX9_init_69 rfl (fun H locs S => ?_)
  refine lv_aload_n C.1 C.2.1 dX9_init_72 rfl (lv_at hl 0 rfl) ?_
  refine lv_bipush C.1 C.2.1 (v := 8) dX9_init_73 (by decide) ?_
  refine m_newI (pc' := 77) (N' := 8) C S ⟨by decide, by decide, by decide⟩ ⟨by decide, by decide⟩ dX9_init_75 rfl (fun q8 H S => ?_)
  have S : ST D A s ((h0, .inr (9, [.ref q0, .ref q1, .int 0, .ref q2, .ref q3, .int 0, .int 0, .int 0, .int 0, .ref q4, .ref q5, .ref q6, .ref q7, .null, .null, .null, .null, .null, .int 0, .int 0, .int 0, .null, .null, .null, .null])) :: ([] ++ ar t q0 418 :: (((((((([] ++ [ar t q1 418]) ++ [ar t q2 7]) ++ [ar t q3 800]) ++ [ar t q4 124]) ++ [ar t q5 128]) ++ [ar t q6 64]) ++ [ar t q7 64]) ++ [ar t q8 8]))) H locs := S
  refine m_put (pc' := 80) (fs' := [.ref q0, .ref q1, .int 0, .ref q2, .ref q3, .int 0, .int 0, .int 0, .int 0, .ref q4, .ref q5, .ref q6, .ref q7, .ref q8, .null, .null, .null, .null, .int 0, .int 0, .int 0, .null, .null, .null, .null]) C S ff_X9_34 rfl ⟨rfl, rfl⟩ rfl rfl dX9_init_77 rfl (fun H locs S => ?_)
  refine lv_aload_n C.1 C.2.1 dX9_init_80 rfl (lv_at hl 0 rfl) ?_
  refine lv_bipush C.1 C.2.1 (v := 64) dX9_init_81 (by decide) ?_
  refine m_newL (pc' := 85) (N' := 64) C S ⟨by decide, by decide, by decide⟩ ⟨by decide, by decide⟩ dX9_init_83 rfl (fun q9 H S => ?_)
  have S : ST D A s ((h0, .inr (9, [.ref q0, .ref q1, .int 0, .ref q2, .ref q3, .int 0, .int 0, .int 0, .int 0, .ref q4, .ref q5, .ref q6, .ref q7, .ref q8, .null, .null, .null, .null, .int 0, .int 0, .int 0, .null, .null, .null, .null])) :: ([] ++ ar t q0 418 :: ((((((((([] ++ [ar t q1 418]) ++ [ar t q2 7]) ++ [ar t q3 800]) ++ [ar t q4 124]) ++ [ar t q5 128]) ++ [ar t q6 64]) ++ [ar t q7 64]) ++ [ar t q8 8]) ++ [arL t q9 64]))) H locs := S
  refine m_put (pc' := 88) (fs' := [.ref q0, .ref q1, .int 0, .ref q2, .ref q3, .int 0, .int 0, .int 0, .int 0, .ref q4, .ref q5, .ref q6, .ref q7, .ref q8, .ref q9, .null, .null, .null, .int 0, .int 0, .int 0, .null, .null, .null, .null]) C S ff_X9_37 rfl ⟨rfl, rfl⟩ rfl rfl dX9_init_85 rfl (fun H locs S => ?_)
  refine lv_aload_n C.1 C.2.1 dX9_init_88 rfl (lv_at hl 0 rfl) ?_
  refine lv_bipush C.1 C.2.1 (v := 64) dX9_init_89 (by decide) ?_
  refine m_newL (pc' := 93) (N' := 64) C S ⟨by decide, by decide, by decide⟩ ⟨by decide, by decide⟩ dX9_init_91 rfl (fun q10 H S => ?_)
  have S : ST D A s ((h0, .inr (9, [.ref q0, .ref q1, .int 0, .ref q2, .ref q3, .int 0, .int 0, .int 0, .int 0, .ref q4, .ref q5, .ref q6, .ref q7, .ref q8, .ref q9, .null, .null, .null, .int 0, .int 0, .int 0, .null, .null, .null, .null])) :: ([] ++ ar t q0 418 :: (((((((((([] ++ [ar t q1 418]) ++ [ar t q2 7]) ++ [ar t q3 800]) ++ [ar t q4 124]) ++ [ar t q5 128]) ++ [ar t q6 64]) ++ [ar t q7 64]) ++ [ar t q8 8]) ++ [arL t q9 64]) ++ [arL t q10 64]))) H locs := S
  refine m_put (pc' := 96) (fs' := [.ref q0, .ref q1, .int 0, .ref q2, .ref q3, .int 0, .int 0, .int 0, .int 0, .ref q4, .ref q5, .ref q6, .ref q7, .ref q8, .ref q9, .ref q10, .null, .null, .int 0, .int 0, .int 0, .null, .null, .null, .null]) C S ff_X9_41 rfl ⟨rfl, rfl⟩ rfl rfl dX9_init_93 rfl (fun H locs S => ?_)
  refine lv_aload_n C.1 C.2.1 dX9_init_96 rfl (lv_at hl 0 rfl) ?_
  refine lv_bipush C.1 C.2.1 (v := 10) dX9_init_97 (by decide) ?_
  refine m_newI (pc' := 101) (N' := 10) C S ⟨by decide, by decide, by decide⟩ ⟨by decide, by decide⟩ dX9_init_99 rfl (fun q11 H S => ?_)
  have S : ST D A s ((h0, .inr (9, [.ref q0, .ref q1, .int 0, .ref q2, .ref q3, .int 0, .int 0, .int 0, .int 0, .ref q4, .ref q5, .ref q6, .ref q7, .ref q8, .ref q9, .ref q10, .null, .null, .int 0, .int 0, .int 0, .null, .null, .null, .null])) :: ([] ++ ar t q0 418 :: ((((((((((([] ++ [ar t q1 418]) ++ [ar t q2 7]) ++ [ar t q3 800]) ++ [ar t q4 124]) ++ [ar t q5 128]) ++ [ar t q6 64]) ++ [ar t q7 64]) ++ [ar t q8 8]) ++ [arL t q9 64]) ++ [arL t q10 64]) ++ [ar t q11 10]))) H locs := S
  refine m_put (pc' := 104) (fs' := [.ref q0, .ref q1, .int 0, .ref q2, .ref q3, .int 0, .int 0, .int 0, .int 0, .ref q4, .ref q5, .ref q6, .ref q7, .ref q8, .ref q9, .ref q10, .ref q11, .null, .int 0, .int 0, .int 0, .null, .null, .null, .null]) C S ff_X9_44 rfl ⟨rfl, rfl⟩ rfl rfl dX9_init_101 rfl (fun H locs S => ?_)
  refine lv_aload_n C.1 C.2.1 dX9_init_104 rfl (lv_at hl 0 rfl) ?_
  refine lv_bipush C.1 C.2.1 (v := 30) dX9_init_105 (by decide) ?_
  refine m_newI (pc' := 109) (N' := 30) C S ⟨by decide, by decide, by decide⟩ ⟨by decide, by decide⟩ dX9_init_107 rfl (fun q12 H S => ?_)
  have S : ST D A s ((h0, .inr (9, [.ref q0, .ref q1, .int 0, .ref q2, .ref q3, .int 0, .int 0, .int 0, .int 0, .ref q4, .ref q5, .ref q6, .ref q7, .ref q8, .ref q9, .ref q10, .ref q11, .null, .int 0, .int 0, .int 0, .null, .null, .null, .null])) :: ([] ++ ar t q0 418 :: (((((((((((([] ++ [ar t q1 418]) ++ [ar t q2 7]) ++ [ar t q3 800]) ++ [ar t q4 124]) ++ [ar t q5 128]) ++ [ar t q6 64]) ++ [ar t q7 64]) ++ [ar t q8 8]) ++ [arL t q9 64]) ++ [arL t q10 64]) ++ [ar t q11 10]) ++ [ar t q12 30]))) H locs := S
  refine m_put (pc' := 112) (fs' := [.ref q0, .ref q1, .int 0, .ref q2, .ref q3, .int 0, .int 0, .int 0, .int 0, .ref q4, .ref q5, .ref q6, .ref q7, .ref q8, .ref q9, .ref q10, .ref q11, .ref q12, .int 0, .int 0, .int 0, .null, .null, .null, .null]) C S ff_X9_47 rfl ⟨rfl, rfl⟩ rfl rfl dX9_init_109 rfl (fun H locs S => ?_)
  refine lv_aload_n C.1 C.2.1 dX9_init_112 rfl (lv_at hl 0 rfl) ?_
  refine lv_iconst C.1 C.2.1 (v := 4) dX9_init_113 (by decide) ?_
  refine m_newI (pc' := 116) (N' := 4) C S ⟨by decide, by decide, by decide⟩ ⟨by decide, by decide⟩ dX9_init_114 rfl (fun q13 H S => ?_)
  have S : ST D A s ((h0, .inr (9, [.ref q0, .ref q1, .int 0, .ref q2, .ref q3, .int 0, .int 0, .int 0, .int 0, .ref q4, .ref q5, .ref q6, .ref q7, .ref q8, .ref q9, .ref q10, .ref q11, .ref q12, .int 0, .int 0, .int 0, .null, .null, .null, .null])) :: ([] ++ ar t q0 418 :: ((((((((((((([] ++ [ar t q1 418]) ++ [ar t q2 7]) ++ [ar t q3 800]) ++ [ar t q4 124]) ++ [ar t q5 128]) ++ [ar t q6 64]) ++ [ar t q7 64]) ++ [ar t q8 8]) ++ [arL t q9 64]) ++ [arL t q10 64]) ++ [ar t q11 10]) ++ [ar t q12 30]) ++ [ar t q13 4]))) H locs := S
  refine m_put (pc' := 119) (fs' := [.ref q0, .ref q1, .int 0, .ref q2, .ref q3, .int 0, .int 0, .int 0, .int 0, .ref q4, .ref q5, .ref q6, .ref q7, .ref q8, .ref q9, .ref q10, .ref q11, .ref q12, .int 0, .int 0, .int 0, .ref q13, .null, .null, .null]) C S ff_X9_50 rfl ⟨rfl, rfl⟩ rfl rfl dX9_init_116 rfl (fun H locs S => ?_)
  refine lv_aload_n C.1 C.2.1 dX9_init_119 rfl (lv_at hl 0 rfl) ?_
  refine lv_iconst C.1 C.2.1 (v := 4) dX9_init_120 (by decide) ?_
  refine m_newI (pc' := 123) (N' := 4) C S ⟨by decide, by decide, by decide⟩ ⟨by decide, by decide⟩ dX9_init_121 rfl (fun q14 H S => ?_)
  have S : ST D A s ((h0, .inr (9, [.ref q0, .ref q1, .int 0, .ref q2, .ref q3, .int 0, .int 0, .int 0, .int 0, .ref q4, .ref q5, .ref q6, .ref q7, .ref q8, .ref q9, .ref q10, .ref q11, .ref q12, .int 0, .int 0, .int 0, .ref q13, .null, .null, .null])) :: ([] ++ ar t q0 418 :: (((((((((((((([] ++ [ar t q1 418]) ++ [ar t q2 7]) ++ [ar t q3 800]) ++ [ar t q4 124]) ++ [ar t q5 128]) ++ [ar t q6 64]) ++ [ar t q7 64]) ++ [ar t q8 8]) ++ [arL t q9 64]) ++ [arL t q10 64]) ++ [ar t q11 10]) ++ [ar t q12 30]) ++ [ar t q13 4]) ++ [ar t q14 4]))) H locs := S
  refine m_put (pc' := 126) (fs' := [.ref q0, .ref q1, .int 0, .ref q2, .ref q3, .int 0, .int 0, .int 0, .int 0, .ref q4, .ref q5, .ref q6, .ref q7, .ref q8, .ref q9, .ref q10, .ref q11, .ref q12, .int 0, .int 0, .int 0, .ref q13, .ref q14, .null, .null]) C S ff_X9_53 rfl ⟨rfl, rfl⟩ rfl rfl dX9_init_123 rfl (fun H locs S => ?_)
  refine lv_aload_n C.1 C.2.1 dX9_init_126 rfl (lv_at hl 0 rfl) ?_
  refine lv_bipush C.1 C.2.1 (v := 96) dX9_init_127 (by decide) ?_
  refine m_newI (pc' := 131) (N' := 96) C S ⟨by decide, by decide, by decide⟩ ⟨by decide, by decide⟩ dX9_init_129 rfl (fun q15 H S => ?_)
  have S : ST D A s ((h0, .inr (9, [.ref q0, .ref q1, .int 0, .ref q2, .ref q3, .int 0, .int 0, .int 0, .int 0, .ref q4, .ref q5, .ref q6, .ref q7, .ref q8, .ref q9, .ref q10, .ref q11, .ref q12, .int 0, .int 0, .int 0, .ref q13, .ref q14, .null, .null])) :: ([] ++ ar t q0 418 :: ((((((((((((((([] ++ [ar t q1 418]) ++ [ar t q2 7]) ++ [ar t q3 800]) ++ [ar t q4 124]) ++ [ar t q5 128]) ++ [ar t q6 64]) ++ [ar t q7 64]) ++ [ar t q8 8]) ++ [arL t q9 64]) ++ [arL t q10 64]) ++ [ar t q11 10]) ++ [ar t q12 30]) ++ [ar t q13 4]) ++ [ar t q14 4]) ++ [ar t q15 96]))) H locs := S
  refine m_put (pc' := 134) (fs' := [.ref q0, .ref q1, .int 0, .ref q2, .ref q3, .int 0, .int 0, .int 0, .int 0, .ref q4, .ref q5, .ref q6, .ref q7, .ref q8, .ref q9, .ref q10, .ref q11, .ref q12, .int 0, .int 0, .int 0, .ref q13, .ref q14, .ref q15, .null]) C S ff_X9_56 rfl ⟨rfl, rfl⟩ rfl rfl dX9_init_131 rfl (fun H locs S => ?_)
  refine lv_aload_n C.1 C.2.1 dX9_init_134 rfl (lv_at hl 0 rfl) ?_
  refine lv_bipush C.1 C.2.1 (v := 24) dX9_init_135 (by decide) ?_
  refine m_newI (pc' := 139) (N' := 24) C S ⟨by decide, by decide, by decide⟩ ⟨by decide, by decide⟩ dX9_init_137 rfl (fun q16 H S => ?_)
  have S : ST D A s ((h0, .inr (9, [.ref q0, .ref q1, .int 0, .ref q2, .ref q3, .int 0, .int 0, .int 0, .int 0, .ref q4, .ref q5, .ref q6, .ref q7, .ref q8, .ref q9, .ref q10, .ref q11, .ref q12, .int 0, .int 0, .int 0, .ref q13, .ref q14, .ref q15, .null])) :: ([] ++ ar t q0 418 :: (((((((((((((((([] ++ [ar t q1 418]) ++ [ar t q2 7]) ++ [ar t q3 800]) ++ [ar t q4 124]) ++ [ar t q5 128]) ++ [ar t q6 64]) ++ [ar t q7 64]) ++ [ar t q8 8]) ++ [arL t q9 64]) ++ [arL t q10 64]) ++ [ar t q11 10]) ++ [ar t q12 30]) ++ [ar t q13 4]) ++ [ar t q14 4]) ++ [ar t q15 96]) ++ [ar t q16 24]))) H locs := S
  refine m_put (pc' := 142) (fs' := [.ref q0, .ref q1, .int 0, .ref q2, .ref q3, .int 0, .int 0, .int 0, .int 0, .ref q4, .ref q5, .ref q6, .ref q7, .ref q8, .ref q9, .ref q10, .ref q11, .ref q12, .int 0, .int 0, .int 0, .ref q13, .ref q14, .ref q15, .ref q16]) C S ff_X9_59 rfl ⟨rfl, rfl⟩ rfl rfl dX9_init_139 rfl (fun H locs S => ?_)
  refine lv_aload_n C.1 C.2.1 dX9_init_142 rfl (lv_at hl 0 rfl) ?_
  refine m_get (pc' := 146) (v := .ref q0) C S ff_X9_7 rfl dX9_init_143 rfl ?_
  refine lv_bipush C.1 C.2.1 (v := 8) dX9_init_146 (by decide) ?_
  refine lv_iconst C.1 C.2.1 (v := 1) dX9_init_148 (by decide) ?_
  refine m_iast2 (pc' := 150) (pre := []) (i' := 8) C S (by decide) (vin (by decide)) dX9_init_149 rfl (fun H locs S => ?_)
  refine lv_aload_n C.1 C.2.1 dX9_init_150 rfl (lv_at hl 0 rfl) ?_
  refine m_get (pc' := 154) (v := .ref q0) C S ff_X9_7 rfl dX9_init_151 rfl ?_
  refine lv_iconst C.1 C.2.1 (v := 4) dX9_init_154 (by decide) ?_
  refine lv_iconst C.1 C.2.1 (v := (-1)) dX9_init_155 (by decide) ?_
  refine m_iast2 (pc' := 157) (pre := []) (i' := 4) C S (by decide) (vin (by decide)) dX9_init_156 rfl (fun H locs S => ?_)
  exact E _ H locs 157 ls ⟨fun k => [q0, q1, q2, q3, q4, q5, q6, q7, q8, q9, q10, q11, q12, q13, q14, q15, q16].getD k 0, rfl⟩ S dX9_init_157
