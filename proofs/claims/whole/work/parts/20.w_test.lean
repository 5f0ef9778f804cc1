set_option maxRecDepth 100000 in
set_option maxHeartbeats 4000000 in
theorem wp_X6_nameOf_15 (xs : gX) (d : Nat) (v1 : Int32) (v2 : Int32) (M : Mem) (Q : Int32 → Mem → Prop) (h : GW xs d mX6_nameOf 5 [(0, .ref 15), (1, .int v1), (2, .int v2), (3, .int v2), (4, .int 0)] [] M (QI Q)) : MI xs d mX6_nameOf [.ref 15, .int v1, .int v2] M Q := by
  refine MI.intro (lv := [(0, .ref 15), (1, .int v1), (2, .int v2)]) mk_X6_nameOf.2.2.2.2 (Nat.le_of_ble_eq_true rfl) rfl ?_
  refine GW.iload_n (pc' := 1) dX6_nameOf_0 rfl rfl ?_
  refine GW.istore_n (pc' := 2) (lv' := [(0, .ref 15), (1, .int v1), (2, .int v2), (3, .int v2)]) dX6_nameOf_1 rfl rfl (by decide) rfl ?_
  refine GW.iconst (pc' := 3) (v := 0) dX6_nameOf_2 rfl (by decide) ?_
  refine GW.istore (pc' := 5) (lv' := [(0, .ref 15), (1, .int v1), (2, .int v2), (3, .int v2), (4, .int 0)]) dX6_nameOf_3 rfl rfl (by decide) rfl ?_
  exact h
set_option maxRecDepth 100000 in
set_option maxHeartbeats 4000000 in
theorem wp_X6_nameOf_15_L5 (xs : gX) (d : Nat) (v1 : Int32) (v2 : Int32) (v3 : Int32) (v4 : Int32) (M : Mem) (Q : Int32 → Mem → Prop) (h : (if v4 < (M.1 15 4) then (vp_in v4 6 ∧ (vp_in (M.1 19 v4.toNatClampNeg) 6 ∧ (if (M.1 17 ((M.1 19 v4.toNatClampNeg)).toNatClampNeg) = v1 then (if v3 < (M.1 16 ((M.1 19 v4.toNatClampNeg)).toNatClampNeg) then (if (M.1 18 ((M.1 19 v4.toNatClampNeg)).toNatClampNeg) = v1 then (if (M.1 16 ((M.1 19 v4.toNatClampNeg)).toNatClampNeg) < v3 then GW xs d mX6_nameOf 5 [(0, .ref 15), (1, .int v1), (2, .int v2), (3, .int (v3 + (-1))), (4, .int (v4 + 1))] [] M (QI Q) else GW xs d mX6_nameOf 5 [(0, .ref 15), (1, .int v1), (2, .int v2), (3, .int v3), (4, .int (v4 + 1))] [] M (QI Q)) else GW xs d mX6_nameOf 5 [(0, .ref 15), (1, .int v1), (2, .int v2), (3, .int v3), (4, .int (v4 + 1))] [] M (QI Q)) else GW xs d mX6_nameOf 5 [(0, .ref 15), (1, .int v1), (2, .int v2), (3, .int (v3 + 1)), (4, .int (v4 + 1))] [] M (QI Q)) else (if (M.1 18 ((M.1 19 v4.toNatClampNeg)).toNatClampNeg) = v1 then (if (M.1 16 ((M.1 19 v4.toNatClampNeg)).toNatClampNeg) < v3 then GW xs d mX6_nameOf 5 [(0, .ref 15), (1, .int v1), (2, .int v2), (3, .int (v3 + (-1))), (4, .int (v4 + 1))] [] M (QI Q) else GW xs d mX6_nameOf 5 [(0, .ref 15), (1, .int v1), (2, .int v2), (3, .int v3), (4, .int (v4 + 1))] [] M (QI Q)) else GW xs d mX6_nameOf 5 [(0, .ref 15), (1, .int v1), (2, .int v2), (3, .int v3), (4, .int (v4 + 1))] [] M (QI Q))))) else Q v3 M)) : GW xs d mX6_nameOf 5 [(0, .ref 15), (1, .int v1), (2, .int v2), (3, .int v3), (4, .int v4)] [] M (QI Q) := by
  refine GW.iload (pc' := 7) dX6_nameOf_5 rfl rfl ?_
  refine GW.aload_n (pc' := 8) dX6_nameOf_7 rfl rfl ?_
  refine GW.getI (pc' := 11) dX6_nameOf_8 rfl fk_X6_24 rfl (by decide) rfl rfl ?_
  refine GW.if_icmpge (pc' := 14) (tgt := 82) dX6_nameOf_11 rfl (by decide) (ite_i (fun c1 => ?_) (fun c1 => ?_))
  · replace h := ite_t h c1
    refine GW.aload_n (pc' := 15) dX6_nameOf_14 rfl rfl ?_
    refine GW.getR (pc' := 18) (t := 19) dX6_nameOf_15 rfl fk_X6_21 rfl (by decide) rfl rfl ?_
    refine GW.iload (pc' := 20) dX6_nameOf_18 rfl rfl ?_
    obtain ⟨b2, h⟩ := h
    refine GW.iaload (pc' := 21) (j := v4.toNatClampNeg) dX6_nameOf_20 rfl rfl b2 rfl ?_
    refine GW.istore (pc' := 23) (lv' := [(0, .ref 15), (1, .int v1), (2, .int v2), (3, .int v3), (4, .int v4), (5, .int (M.1 19 v4.toNatClampNeg))]) dX6_nameOf_21 rfl rfl (by decide) rfl ?_
    refine GW.aload_n (pc' := 24) dX6_nameOf_23 rfl rfl ?_
    refine GW.getR (pc' := 27) (t := 17) dX6_nameOf_24 rfl fk_X6_15 rfl (by decide) rfl rfl ?_
    refine GW.iload (pc' := 29) dX6_nameOf_27 rfl rfl ?_
    obtain ⟨b3, h⟩ := h
    refine GW.iaload (pc' := 30) (j := ((M.1 19 v4.toNatClampNeg)).toNatClampNeg) dX6_nameOf_29 rfl rfl b3 rfl ?_
    refine GW.iload_n (pc' := 31) dX6_nameOf_30 rfl rfl ?_
    refine GW.if_icmpne (pc' := 34) (tgt := 51) dX6_nameOf_31 rfl (by decide) (ite_i (fun c4 => ?_) (fun c4 => ?_))
    · replace h := ite_t h c4
      refine GW.iload_n (pc' := 35) dX6_nameOf_34 rfl rfl ?_
      refine GW.aload_n (pc' := 36) dX6_nameOf_35 rfl rfl ?_
      refine GW.getR (pc' := 39) (t := 16) dX6_nameOf_36 rfl fk_X6_9 rfl (by decide) rfl rfl ?_
      refine GW.iload (pc' := 41) dX6_nameOf_39 rfl rfl ?_
      refine GW.iaload (pc' := 42) (j := ((M.1 19 v4.toNatClampNeg)).toNatClampNeg) dX6_nameOf_41 rfl rfl b3 rfl ?_
      refine GW.if_icmplt (pc' := 45) (tgt := 51) dX6_nameOf_42 rfl (by decide) (ite_i (fun c5 => ?_) (fun c5 => ?_))
      · replace h := ite_t h c5
        refine GW.aload_n (pc' := 52) dX6_nameOf_51 rfl rfl ?_
        refine GW.getR (pc' := 55) (t := 18) dX6_nameOf_52 rfl fk_X6_18 rfl (by decide) rfl rfl ?_
        refine GW.iload (pc' := 57) dX6_nameOf_55 rfl rfl ?_
        refine GW.iaload (pc' := 58) (j := ((M.1 19 v4.toNatClampNeg)).toNatClampNeg) dX6_nameOf_57 rfl rfl b3 rfl ?_
        refine GW.iload_n (pc' := 59) dX6_nameOf_58 rfl rfl ?_
        refine GW.if_icmpne (pc' := 62) (tgt := 76) dX6_nameOf_59 rfl (by decide) (ite_i (fun c6 => ?_) (fun c6 => ?_))
        · replace h := ite_t h c6
          refine GW.iload_n (pc' := 63) dX6_nameOf_62 rfl rfl ?_
          refine GW.aload_n (pc' := 64) dX6_nameOf_63 rfl rfl ?_
          refine GW.getR (pc' := 67) (t := 16) dX6_nameOf_64 rfl fk_X6_9 rfl (by decide) rfl rfl ?_
          refine GW.iload (pc' := 69) dX6_nameOf_67 rfl rfl ?_
          refine GW.iaload (pc' := 70) (j := ((M.1 19 v4.toNatClampNeg)).toNatClampNeg) dX6_nameOf_69 rfl rfl b3 rfl ?_
          refine GW.if_icmple (pc' := 73) (tgt := 76) dX6_nameOf_70 rfl (by decide) (ite_i (fun c7 => ?_) (fun c7 => ?_))
          · replace h := ite_t h c7
            refine GW.iinc (pc' := 76) (lv' := [(0, .ref 15), (1, .int v1), (2, .int v2), (3, .int (v3 + (-1))), (4, .int v4), (5, .int (M.1 19 v4.toNatClampNeg))]) (v := (v3 + (-1))) dX6_nameOf_73 rfl rfl (by decide) rfl rfl rfl ?_
            refine GW.iinc (pc' := 79) (lv' := [(0, .ref 15), (1, .int v1), (2, .int v2), (3, .int (v3 + (-1))), (4, .int (v4 + 1)), (5, .int (M.1 19 v4.toNatClampNeg))]) (v := (v4 + 1)) dX6_nameOf_76 rfl rfl (by decide) rfl rfl rfl ?_
            refine GW.goto (tgt := 5) dX6_nameOf_79 (by decide) ?_
            refine GW.sub (lv' := [(0, .ref 15), (1, .int v1), (2, .int v2), (3, .int (v3 + (-1))), (4, .int (v4 + 1))]) [0, 1, 2, 3, 4] rfl ?_
            exact h
          · replace h := ite_f h c7
            refine GW.iinc (pc' := 79) (lv' := [(0, .ref 15), (1, .int v1), (2, .int v2), (3, .int v3), (4, .int (v4 + 1)), (5, .int (M.1 19 v4.toNatClampNeg))]) (v := (v4 + 1)) dX6_nameOf_76 rfl rfl (by decide) rfl rfl rfl ?_
            refine GW.goto (tgt := 5) dX6_nameOf_79 (by decide) ?_
            refine GW.sub (lv' := [(0, .ref 15), (1, .int v1), (2, .int v2), (3, .int v3), (4, .int (v4 + 1))]) [0, 1, 2, 3, 4] rfl ?_
            exact h
        · replace h := ite_f h c6
          refine GW.iinc (pc' := 79) (lv' := [(0, .ref 15), (1, .int v1), (2, .int v2), (3, .int v3), (4, .int (v4 + 1)), (5, .int (M.1 19 v4.toNatClampNeg))]) (v := (v4 + 1)) dX6_nameOf_76 rfl rfl (by decide) rfl rfl rfl ?_
          refine GW.goto (tgt := 5) dX6_nameOf_79 (by decide) ?_
          refine GW.sub (lv' := [(0, .ref 15), (1, .int v1), (2, .int v2), (3, .int v3), (4, .int (v4 + 1))]) [0, 1, 2, 3, 4] rfl ?_
          exact h
      · replace h := ite_f h c5
        refine GW.iinc (pc' := 48) (lv' := [(0, .ref 15), (1, .int v1), (2, .int v2), (3, .int (v3 + 1)), (4, .int v4), (5, .int (M.1 19 v4.toNatClampNeg))]) (v := (v3 + 1)) dX6_nameOf_45 rfl rfl (by decide) rfl rfl rfl ?_
        refine GW.goto (tgt := 76) dX6_nameOf_48 (by decide) ?_
        refine GW.iinc (pc' := 79) (lv' := [(0, .ref 15), (1, .int v1), (2, .int v2), (3, .int (v3 + 1)), (4, .int (v4 + 1)), (5, .int (M.1 19 v4.toNatClampNeg))]) (v := (v4 + 1)) dX6_nameOf_76 rfl rfl (by decide) rfl rfl rfl ?_
        refine GW.goto (tgt := 5) dX6_nameOf_79 (by decide) ?_
        refine GW.sub (lv' := [(0, .ref 15), (1, .int v1), (2, .int v2), (3, .int (v3 + 1)), (4, .int (v4 + 1))]) [0, 1, 2, 3, 4] rfl ?_
        exact h
    · replace h := ite_f h c4
      refine GW.aload_n (pc' := 52) dX6_nameOf_51 rfl rfl ?_
      refine GW.getR (pc' := 55) (t := 18) dX6_nameOf_52 rfl fk_X6_18 rfl (by decide) rfl rfl ?_
      refine GW.iload (pc' := 57) dX6_nameOf_55 rfl rfl ?_
      refine GW.iaload (pc' := 58) (j := ((M.1 19 v4.toNatClampNeg)).toNatClampNeg) dX6_nameOf_57 rfl rfl b3 rfl ?_
      refine GW.iload_n (pc' := 59) dX6_nameOf_58 rfl rfl ?_
      refine GW.if_icmpne (pc' := 62) (tgt := 76) dX6_nameOf_59 rfl (by decide) (ite_i (fun c8 => ?_) (fun c8 => ?_))
      · replace h := ite_t h c8
        refine GW.iload_n (pc' := 63) dX6_nameOf_62 rfl rfl ?_
        refine GW.aload_n (pc' := 64) dX6_nameOf_63 rfl rfl ?_
        refine GW.getR (pc' := 67) (t := 16) dX6_nameOf_64 rfl fk_X6_9 rfl (by decide) rfl rfl ?_
        refine GW.iload (pc' := 69) dX6_nameOf_67 rfl rfl ?_
        refine GW.iaload (pc' := 70) (j := ((M.1 19 v4.toNatClampNeg)).toNatClampNeg) dX6_nameOf_69 rfl rfl b3 rfl ?_
        refine GW.if_icmple (pc' := 73) (tgt := 76) dX6_nameOf_70 rfl (by decide) (ite_i (fun c9 => ?_) (fun c9 => ?_))
        · replace h := ite_t h c9
          refine GW.iinc (pc' := 76) (lv' := [(0, .ref 15), (1, .int v1), (2, .int v2), (3, .int (v3 + (-1))), (4, .int v4), (5, .int (M.1 19 v4.toNatClampNeg))]) (v := (v3 + (-1))) dX6_nameOf_73 rfl rfl (by decide) rfl rfl rfl ?_
          refine GW.iinc (pc' := 79) (lv' := [(0, .ref 15), (1, .int v1), (2, .int v2), (3, .int (v3 + (-1))), (4, .int (v4 + 1)), (5, .int (M.1 19 v4.toNatClampNeg))]) (v := (v4 + 1)) dX6_nameOf_76 rfl rfl (by decide) rfl rfl rfl ?_
          refine GW.goto (tgt := 5) dX6_nameOf_79 (by decide) ?_
          refine GW.sub (lv' := [(0, .ref 15), (1, .int v1), (2, .int v2), (3, .int (v3 + (-1))), (4, .int (v4 + 1))]) [0, 1, 2, 3, 4] rfl ?_
          exact h
        · replace h := ite_f h c9
          refine GW.iinc (pc' := 79) (lv' := [(0, .ref 15), (1, .int v1), (2, .int v2), (3, .int v3), (4, .int (v4 + 1)), (5, .int (M.1 19 v4.toNatClampNeg))]) (v := (v4 + 1)) dX6_nameOf_76 rfl rfl (by decide) rfl rfl rfl ?_
          refine GW.goto (tgt := 5) dX6_nameOf_79 (by decide) ?_
          refine GW.sub (lv' := [(0, .ref 15), (1, .int v1), (2, .int v2), (3, .int v3), (4, .int (v4 + 1))]) [0, 1, 2, 3, 4] rfl ?_
          exact h
      · replace h := ite_f h c8
        refine GW.iinc (pc' := 79) (lv' := [(0, .ref 15), (1, .int v1), (2, .int v2), (3, .int v3), (4, .int (v4 + 1)), (5, .int (M.1 19 v4.toNatClampNeg))]) (v := (v4 + 1)) dX6_nameOf_76 rfl rfl (by decide) rfl rfl rfl ?_
        refine GW.goto (tgt := 5) dX6_nameOf_79 (by decide) ?_
        refine GW.sub (lv' := [(0, .ref 15), (1, .int v1), (2, .int v2), (3, .int v3), (4, .int (v4 + 1))]) [0, 1, 2, 3, 4] rfl ?_
        exact h
  · replace h := ite_f h c1
    refine GW.iload_n (pc' := 83) dX6_nameOf_82 rfl rfl ?_
    refine GW.iret dX6_nameOf_83 rfl ⟨_, rfl, ?_⟩
    exact h

set_option maxRecDepth 100000 in
set_option maxHeartbeats 4000000 in
theorem wp_X8_pass_0 (xs : gX) (d : Nat) (v1 : Int32) (M : Mem) (Q : Int32 → Mem → Prop) (h : (if v1 < 1 then Q ((-1000000000) - 1) (mw M 6 1 ((M.1 6 1) + 1)) else (if 9999 < v1 then Q ((-1000000000) - 1) (mw M 6 1 ((M.1 6 1) + 1)) else (if ((M.1 1 9) + v1) < 73000 then Q ((mw M 1 9 ((M.1 1 9) + v1)).1 1 9) (mw M 1 9 ((M.1 1 9) + v1)) else Q ((-1000000000) - 3) (mw M 6 3 ((M.1 6 3) + 1)))))) : MI xs (d + 1) mX8_pass [.ref 0, .int v1] M Q := by
  refine MI.intro (lv := [(0, .ref 0), (1, .int v1)]) mk_X8_pass.2.2.2.2 (Nat.le_of_ble_eq_true rfl) rfl ?_
  refine GW.iload_n (pc' := 1) dX8_pass_0 rfl rfl ?_
  refine GW.iconst (pc' := 2) (v := 1) dX8_pass_1 rfl (by decide) ?_
  refine GW.if_icmplt (pc' := 5) (tgt := 12) dX8_pass_2 rfl (by decide) (ite_i (fun c1 => ?_) (fun c1 => ?_))
  · replace h := ite_t h c1
    refine GW.aload_n (pc' := 13) dX8_pass_12 rfl rfl ?_
    refine GW.iconst (pc' := 14) (v := 1) dX8_pass_13 rfl (by decide) ?_
    refine GW.callV (pc' := 17) (k := 0) (av := [.int 1]) (rest := []) dX8_pass_14 rfl mk_X8_error lk_X8_48 vk_X8_error ko_0 rfl rfl (Nat.le_of_ble_eq_true rfl) (bk_i (MI.intro (lv := [(0, .ref 0), (1, .int 1)]) mk_X8_error.2.2.2.2 (Nat.le_of_ble_eq_true rfl) rfl ?_))
    refine GW.aload_n (pc' := 1) dX8_error_0 rfl rfl ?_
    refine GW.getR (pc' := 4) (t := 6) dX8_error_1 rfl fk_X8_39 rfl (by decide) rfl rfl ?_
    refine GW.iload_n (pc' := 5) dX8_error_4 rfl rfl ?_
    refine GW.dup2 (pc' := 6) dX8_error_5 rfl rfl rfl ?_
    refine GW.iaload (pc' := 7) (j := 1) dX8_error_6 rfl rfl (vin (by decide)) (by decide) ?_
    refine GW.iconst (pc' := 8) (v := 1) dX8_error_7 rfl (by decide) ?_
    refine GW.iadd (pc' := 9) dX8_error_8 rfl ?_
    refine GW.iastore (pc' := 10) (j := 1) dX8_error_9 rfl rfl (vin (by decide)) (by decide) ?_
    refine GW.ldcw (pc' := 13) (v := (-1000000000)) dX8_error_10 rfl ck_X8_310 ?_
    refine GW.iload_n (pc' := 14) dX8_error_13 rfl rfl ?_
    refine GW.isub (pc' := 15) dX8_error_14 rfl ?_
    refine GW.iret dX8_error_15 rfl ⟨_, rfl, ?_⟩
    refine GW.iret dX8_pass_17 rfl ⟨_, rfl, ?_⟩
    exact h
  · replace h := ite_f h c1
    refine GW.iload_n (pc' := 6) dX8_pass_5 rfl rfl ?_
    refine GW.sipush (pc' := 9) (v := 9999) dX8_pass_6 rfl (by decide) ?_
    refine GW.if_icmple (pc' := 12) (tgt := 18) dX8_pass_9 rfl (by decide) (ite_i (fun c2 => ?_) (fun c2 => ?_))
    · replace h := ite_t h c2
      refine GW.aload_n (pc' := 13) dX8_pass_12 rfl rfl ?_
      refine GW.iconst (pc' := 14) (v := 1) dX8_pass_13 rfl (by decide) ?_
      refine GW.callV (pc' := 17) (k := 0) (av := [.int 1]) (rest := []) dX8_pass_14 rfl mk_X8_error lk_X8_48 vk_X8_error ko_0 rfl rfl (Nat.le_of_ble_eq_true rfl) (bk_i (MI.intro (lv := [(0, .ref 0), (1, .int 1)]) mk_X8_error.2.2.2.2 (Nat.le_of_ble_eq_true rfl) rfl ?_))
      refine GW.aload_n (pc' := 1) dX8_error_0 rfl rfl ?_
      refine GW.getR (pc' := 4) (t := 6) dX8_error_1 rfl fk_X8_39 rfl (by decide) rfl rfl ?_
      refine GW.iload_n (pc' := 5) dX8_error_4 rfl rfl ?_
      refine GW.dup2 (pc' := 6) dX8_error_5 rfl rfl rfl ?_
      refine GW.iaload (pc' := 7) (j := 1) dX8_error_6 rfl rfl (vin (by decide)) (by decide) ?_
      refine GW.iconst (pc' := 8) (v := 1) dX8_error_7 rfl (by decide) ?_
      refine GW.iadd (pc' := 9) dX8_error_8 rfl ?_
      refine GW.iastore (pc' := 10) (j := 1) dX8_error_9 rfl rfl (vin (by decide)) (by decide) ?_
      refine GW.ldcw (pc' := 13) (v := (-1000000000)) dX8_error_10 rfl ck_X8_310 ?_
      refine GW.iload_n (pc' := 14) dX8_error_13 rfl rfl ?_
      refine GW.isub (pc' := 15) dX8_error_14 rfl ?_
      refine GW.iret dX8_error_15 rfl ⟨_, rfl, ?_⟩
      refine GW.iret dX8_pass_17 rfl ⟨_, rfl, ?_⟩
      exact h
    · replace h := ite_f h c2
      refine GW.aload_n (pc' := 19) dX8_pass_18 rfl rfl ?_
      refine GW.getR (pc' := 22) (t := 1) dX8_pass_19 rfl fk_X8_12 rfl (by decide) rfl rfl ?_
      refine GW.getI (pc' := 25) dX8_pass_22 rfl fk_X8_96 rfl (by decide) rfl rfl ?_
      refine GW.iload_n (pc' := 26) dX8_pass_25 rfl rfl ?_
      refine GW.iadd (pc' := 27) dX8_pass_26 rfl ?_
      refine GW.ldc (pc' := 29) (v := 73000) dX8_pass_27 rfl ck_X8_86 ?_
      refine GW.if_icmplt (pc' := 32) (tgt := 38) dX8_pass_29 rfl (by decide) (ite_i (fun c3 => ?_) (fun c3 => ?_))
      · replace h := ite_t h c3
        refine GW.aload_n (pc' := 39) dX8_pass_38 rfl rfl ?_
        refine GW.getR (pc' := 42) (t := 1) dX8_pass_39 rfl fk_X8_12 rfl (by decide) rfl rfl ?_
        refine GW.dup (pc' := 43) dX8_pass_42 rfl rfl ?_
        refine GW.getI (pc' := 46) dX8_pass_43 rfl fk_X8_96 rfl (by decide) rfl rfl ?_
        refine GW.iload_n (pc' := 47) dX8_pass_46 rfl rfl ?_
        refine GW.iadd (pc' := 48) dX8_pass_47 rfl ?_
        refine GW.putI (pc' := 51) dX8_pass_48 rfl fp_X8_96 rfl (by decide) rfl rfl ⟨rfl, rfl⟩ ?_
        refine GW.aload_n (pc' := 52) dX8_pass_51 rfl rfl ?_
        refine GW.getR (pc' := 55) (t := 1) dX8_pass_52 rfl fk_X8_12 rfl (by decide) rfl rfl ?_
        refine GW.getI (pc' := 58) dX8_pass_55 rfl fk_X8_96 rfl (by decide) rfl rfl ?_
        refine GW.iret dX8_pass_58 rfl ⟨_, rfl, ?_⟩
        exact h
      · replace h := ite_f h c3
        refine GW.aload_n (pc' := 33) dX8_pass_32 rfl rfl ?_
        refine GW.iconst (pc' := 34) (v := 3) dX8_pass_33 rfl (by decide) ?_
        refine GW.callV (pc' := 37) (k := 0) (av := [.int 3]) (rest := []) dX8_pass_34 rfl mk_X8_error lk_X8_48 vk_X8_error ko_0 rfl rfl (Nat.le_of_ble_eq_true rfl) (bk_i (MI.intro (lv := [(0, .ref 0), (1, .int 3)]) mk_X8_error.2.2.2.2 (Nat.le_of_ble_eq_true rfl) rfl ?_))
        refine GW.aload_n (pc' := 1) dX8_error_0 rfl rfl ?_
        refine GW.getR (pc' := 4) (t := 6) dX8_error_1 rfl fk_X8_39 rfl (by decide) rfl rfl ?_
        refine GW.iload_n (pc' := 5) dX8_error_4 rfl rfl ?_
        refine GW.dup2 (pc' := 6) dX8_error_5 rfl rfl rfl ?_
        refine GW.iaload (pc' := 7) (j := 3) dX8_error_6 rfl rfl (vin (by decide)) (by decide) ?_
        refine GW.iconst (pc' := 8) (v := 1) dX8_error_7 rfl (by decide) ?_
        refine GW.iadd (pc' := 9) dX8_error_8 rfl ?_
        refine GW.iastore (pc' := 10) (j := 3) dX8_error_9 rfl rfl (vin (by decide)) (by decide) ?_
        refine GW.ldcw (pc' := 13) (v := (-1000000000)) dX8_error_10 rfl ck_X8_310 ?_
        refine GW.iload_n (pc' := 14) dX8_error_13 rfl rfl ?_
        refine GW.isub (pc' := 15) dX8_error_14 rfl ?_
        refine GW.iret dX8_error_15 rfl ⟨_, rfl, ?_⟩
        refine GW.iret dX8_pass_37 rfl ⟨_, rfl, ?_⟩
        exact h

set_option maxRecDepth 100000 in
set_option maxHeartbeats 4000000 in
theorem wp_X8_put_0 (xs : gX) (d : Nat) (v1 : Int32) (v2 : Int32) (v3 : Int32) (M : Mem) (Q : Int32 → Mem → Prop) (h : (if v1 < 0 then Q ((-1000000000) - 1) (mw M 6 1 ((M.1 6 1) + 1)) else (if v1 < 4 then (vp_in v1 4 ∧ (v1 = 0 → (if (M.1 7 1) = 0 then Q ((-1000000000) - 2) (mw M 6 2 ((M.1 6 2) + 1)) else (if v2 < 0 then Q ((-1000000000) - 1) (mw M 6 1 ((M.1 6 1) + 1)) else (if v2 < (M.1 7 2) then (if (M.1 7 1) = 8 then (vp_in v2 24 ∧ Q 1 (mw M 11 v2.toNatClampNeg v3.toInt8.toInt32)) else (if (M.1 7 1) = 16 then (vp_in v2 24 ∧ Q 1 (mw M 11 v2.toNatClampNeg v3.toInt16.toInt32)) else (vp_in v2 24 ∧ Q 1 (mw M 11 v2.toNatClampNeg v3)))) else Q ((-1000000000) - 1) (mw M 6 1 ((M.1 6 1) + 1)))))) ∧ (v1 = 1 → (if (M.1 8 1) = 0 then Q ((-1000000000) - 2) (mw M 6 2 ((M.1 6 2) + 1)) else (if v2 < 0 then Q ((-1000000000) - 1) (mw M 6 1 ((M.1 6 1) + 1)) else (if v2 < (M.1 8 2) then (if (M.1 8 1) = 8 then (vp_in v2 24 ∧ Q 1 (mw M 12 v2.toNatClampNeg v3.toInt8.toInt32)) else (if (M.1 8 1) = 16 then (vp_in v2 24 ∧ Q 1 (mw M 12 v2.toNatClampNeg v3.toInt16.toInt32)) else (vp_in v2 24 ∧ Q 1 (mw M 12 v2.toNatClampNeg v3)))) else Q ((-1000000000) - 1) (mw M 6 1 ((M.1 6 1) + 1)))))) ∧ (v1 = 2 → (if (M.1 9 1) = 0 then Q ((-1000000000) - 2) (mw M 6 2 ((M.1 6 2) + 1)) else (if v2 < 0 then Q ((-1000000000) - 1) (mw M 6 1 ((M.1 6 1) + 1)) else (if v2 < (M.1 9 2) then (if (M.1 9 1) = 8 then (vp_in v2 24 ∧ Q 1 (mw M 13 v2.toNatClampNeg v3.toInt8.toInt32)) else (if (M.1 9 1) = 16 then (vp_in v2 24 ∧ Q 1 (mw M 13 v2.toNatClampNeg v3.toInt16.toInt32)) else (vp_in v2 24 ∧ Q 1 (mw M 13 v2.toNatClampNeg v3)))) else Q ((-1000000000) - 1) (mw M 6 1 ((M.1 6 1) + 1)))))) ∧ (v1 = 3 → (if (M.1 10 1) = 0 then Q ((-1000000000) - 2) (mw M 6 2 ((M.1 6 2) + 1)) else (if v2 < 0 then Q ((-1000000000) - 1) (mw M 6 1 ((M.1 6 1) + 1)) else (if v2 < (M.1 10 2) then (if (M.1 10 1) = 8 then (vp_in v2 24 ∧ Q 1 (mw M 14 v2.toNatClampNeg v3.toInt8.toInt32)) else (if (M.1 10 1) = 16 then (vp_in v2 24 ∧ Q 1 (mw M 14 v2.toNatClampNeg v3.toInt16.toInt32)) else (vp_in v2 24 ∧ Q 1 (mw M 14 v2.toNatClampNeg v3)))) else Q ((-1000000000) - 1) (mw M 6 1 ((M.1 6 1) + 1))))))) else Q ((-1000000000) - 1) (mw M 6 1 ((M.1 6 1) + 1))))) : MI xs (d + 2) mX8_put [.ref 0, .int v1, .int v2, .int v3] M Q := by
  refine MI.intro (lv := [(0, .ref 0), (1, .int v1), (2, .int v2), (3, .int v3)]) mk_X8_put.2.2.2.2 (Nat.le_of_ble_eq_true rfl) rfl ?_
  refine GW.iload_n (pc' := 1) dX8_put_0 rfl rfl ?_
  refine GW.iconst (pc' := 2) (v := 4) dX8_put_1 rfl (by decide) ?_
  refine GW.callS (pc' := 5) (av := [.int v1, .int 4]) (rest := []) dX8_put_2 rfl mk_X8_isWithin lk_X8_66 sk_X8_isWithin rfl rfl (Nat.le_of_ble_eq_true rfl) (bk_i (MI.intro (lv := [(0, .int v1), (1, .int 4)]) mk_X8_isWithin.2.2.2.2 (Nat.le_of_ble_eq_true rfl) rfl ?_))
  refine GW.iload_n (pc' := 1) dX8_isWithin_0 rfl rfl ?_
  refine GW.iflt (pc' := 4) (tgt := 13) dX8_isWithin_1 rfl (by decide) (ite_i (fun c1 => ?_) (fun c1 => ?_))
  · replace h := ite_t h c1
    refine GW.iconst (pc' := 14) (v := 0) dX8_isWithin_13 rfl (by decide) ?_
    refine GW.zret dX8_isWithin_14 rfl (by decide) ⟨_, rfl, ?_⟩
    refine GW.ifne (pc' := 8) (tgt := 14) dX8_put_5 rfl (by decide) (ite_p (by decide) ?_)
    refine GW.aload_n (pc' := 9) dX8_put_8 rfl rfl ?_
    refine GW.iconst (pc' := 10) (v := 1) dX8_put_9 rfl (by decide) ?_
    refine GW.callV (pc' := 13) (k := 0) (av := [.int 1]) (rest := []) dX8_put_10 rfl mk_X8_error lk_X8_48 vk_X8_error ko_0 rfl rfl (Nat.le_of_ble_eq_true rfl) (bk_i (MI.intro (lv := [(0, .ref 0), (1, .int 1)]) mk_X8_error.2.2.2.2 (Nat.le_of_ble_eq_true rfl) rfl ?_))
    refine GW.aload_n (pc' := 1) dX8_error_0 rfl rfl ?_
    refine GW.getR (pc' := 4) (t := 6) dX8_error_1 rfl fk_X8_39 rfl (by decide) rfl rfl ?_
    refine GW.iload_n (pc' := 5) dX8_error_4 rfl rfl ?_
    refine GW.dup2 (pc' := 6) dX8_error_5 rfl rfl rfl ?_
    refine GW.iaload (pc' := 7) (j := 1) dX8_error_6 rfl rfl (vin (by decide)) (by decide) ?_
    refine GW.iconst (pc' := 8) (v := 1) dX8_error_7 rfl (by decide) ?_
    refine GW.iadd (pc' := 9) dX8_error_8 rfl ?_
    refine GW.iastore (pc' := 10) (j := 1) dX8_error_9 rfl rfl (vin (by decide)) (by decide) ?_
    refine GW.ldcw (pc' := 13) (v := (-1000000000)) dX8_error_10 rfl ck_X8_310 ?_
    refine GW.iload_n (pc' := 14) dX8_error_13 rfl rfl ?_
    refine GW.isub (pc' := 15) dX8_error_14 rfl ?_
    refine GW.iret dX8_error_15 rfl ⟨_, rfl, ?_⟩
    refine GW.iret dX8_put_13 rfl ⟨_, rfl, ?_⟩
    exact h
  · replace h := ite_f h c1
    refine GW.iload_n (pc' := 5) dX8_isWithin_4 rfl rfl ?_
    refine GW.iload_n (pc' := 6) dX8_isWithin_5 rfl rfl ?_
    refine GW.if_icmpge (pc' := 9) (tgt := 13) dX8_isWithin_6 rfl (by decide) (ite_i (fun c2 => ?_) (fun c2 => ?_))
    · replace h := ite_t h c2
      refine GW.iconst (pc' := 10) (v := 1) dX8_isWithin_9 rfl (by decide) ?_
      refine GW.goto (tgt := 14) dX8_isWithin_10 (by decide) ?_
      refine GW.zret dX8_isWithin_14 rfl (by decide) ⟨_, rfl, ?_⟩
      refine GW.ifne (pc' := 8) (tgt := 14) dX8_put_5 rfl (by decide) (ite_n (by decide) ?_)
      refine GW.aload_n (pc' := 15) dX8_put_14 rfl rfl ?_
      refine GW.getR (pc' := 18) (t := 5) dX8_put_15 rfl fk_X8_35 rfl (by decide) rfl rfl ?_
      refine GW.iload_n (pc' := 19) dX8_put_18 rfl rfl ?_
      obtain ⟨b3, h⟩ := h
      rcases i4 b3 with e4 | e4 | e4 | e4
      · replace h := h.1 e4
        refine GW.aaload (pc' := 20) (t := 7) dX8_put_19 rfl rfl b3 (by rw [e4]; rfl) ?_
        refine GW.getI (pc' := 23) dX8_put_20 rfl fk_X8_266 rfl (by decide) rfl rfl ?_
        refine GW.ifne (pc' := 26) (tgt := 32) dX8_put_23 rfl (by decide) (ite_i (fun c5 => ?_) (fun c5 => ?_))
        · replace h := ite_t h c5
          refine GW.aload_n (pc' := 27) dX8_put_26 rfl rfl ?_
          refine GW.iconst (pc' := 28) (v := 2) dX8_put_27 rfl (by decide) ?_
          refine GW.callV (pc' := 31) (k := 0) (av := [.int 2]) (rest := []) dX8_put_28 rfl mk_X8_error lk_X8_48 vk_X8_error ko_0 rfl rfl (Nat.le_of_ble_eq_true rfl) (bk_i (MI.intro (lv := [(0, .ref 0), (1, .int 2)]) mk_X8_error.2.2.2.2 (Nat.le_of_ble_eq_true rfl) rfl ?_))
          refine GW.aload_n (pc' := 1) dX8_error_0 rfl rfl ?_
          refine GW.getR (pc' := 4) (t := 6) dX8_error_1 rfl fk_X8_39 rfl (by decide) rfl rfl ?_
          refine GW.iload_n (pc' := 5) dX8_error_4 rfl rfl ?_
          refine GW.dup2 (pc' := 6) dX8_error_5 rfl rfl rfl ?_
          refine GW.iaload (pc' := 7) (j := 2) dX8_error_6 rfl rfl (vin (by decide)) (by decide) ?_
          refine GW.iconst (pc' := 8) (v := 1) dX8_error_7 rfl (by decide) ?_
          refine GW.iadd (pc' := 9) dX8_error_8 rfl ?_
          refine GW.iastore (pc' := 10) (j := 2) dX8_error_9 rfl rfl (vin (by decide)) (by decide) ?_
          refine GW.ldcw (pc' := 13) (v := (-1000000000)) dX8_error_10 rfl ck_X8_310 ?_
          refine GW.iload_n (pc' := 14) dX8_error_13 rfl rfl ?_
          refine GW.isub (pc' := 15) dX8_error_14 rfl ?_
          refine GW.iret dX8_error_15 rfl ⟨_, rfl, ?_⟩
          refine GW.iret dX8_put_31 rfl ⟨_, rfl, ?_⟩
          exact h
        · replace h := ite_f h c5
          refine GW.iload_n (pc' := 33) dX8_put_32 rfl rfl ?_
          refine GW.aload_n (pc' := 34) dX8_put_33 rfl rfl ?_
          refine GW.getR (pc' := 37) (t := 5) dX8_put_34 rfl fk_X8_35 rfl (by decide) rfl rfl ?_
          refine GW.iload_n (pc' := 38) dX8_put_37 rfl rfl ?_
          refine GW.aaload (pc' := 39) (t := 7) dX8_put_38 rfl rfl b3 (by rw [e4]; rfl) ?_
          refine GW.getI (pc' := 42) dX8_put_39 rfl fk_X8_269 rfl (by decide) rfl rfl ?_
          refine GW.callS (pc' := 45) (av := [.int v2, .int (M.1 7 2)]) (rest := []) dX8_put_42 rfl mk_X8_isWithin lk_X8_66 sk_X8_isWithin rfl rfl (Nat.le_of_ble_eq_true rfl) (bk_i (MI.intro (lv := [(0, .int v2), (1, .int (M.1 7 2))]) mk_X8_isWithin.2.2.2.2 (Nat.le_of_ble_eq_true rfl) rfl ?_))
          refine GW.iload_n (pc' := 1) dX8_isWithin_0 rfl rfl ?_
          refine GW.iflt (pc' := 4) (tgt := 13) dX8_isWithin_1 rfl (by decide) (ite_i (fun c6 => ?_) (fun c6 => ?_))
          · replace h := ite_t h c6
            refine GW.iconst (pc' := 14) (v := 0) dX8_isWithin_13 rfl (by decide) ?_
            refine GW.zret dX8_isWithin_14 rfl (by decide) ⟨_, rfl, ?_⟩
            refine GW.ifne (pc' := 48) (tgt := 54) dX8_put_45 rfl (by decide) (ite_p (by decide) ?_)
            refine GW.aload_n (pc' := 49) dX8_put_48 rfl rfl ?_
            refine GW.iconst (pc' := 50) (v := 1) dX8_put_49 rfl (by decide) ?_
            refine GW.callV (pc' := 53) (k := 0) (av := [.int 1]) (rest := []) dX8_put_50 rfl mk_X8_error lk_X8_48 vk_X8_error ko_0 rfl rfl (Nat.le_of_ble_eq_true rfl) (bk_i (MI.intro (lv := [(0, .ref 0), (1, .int 1)]) mk_X8_error.2.2.2.2 (Nat.le_of_ble_eq_true rfl) rfl ?_))
            refine GW.aload_n (pc' := 1) dX8_error_0 rfl rfl ?_
            refine GW.getR (pc' := 4) (t := 6) dX8_error_1 rfl fk_X8_39 rfl (by decide) rfl rfl ?_
            refine GW.iload_n (pc' := 5) dX8_error_4 rfl rfl ?_
            refine GW.dup2 (pc' := 6) dX8_error_5 rfl rfl rfl ?_
            refine GW.iaload (pc' := 7) (j := 1) dX8_error_6 rfl rfl (vin (by decide)) (by decide) ?_
            refine GW.iconst (pc' := 8) (v := 1) dX8_error_7 rfl (by decide) ?_
            refine GW.iadd (pc' := 9) dX8_error_8 rfl ?_
            refine GW.iastore (pc' := 10) (j := 1) dX8_error_9 rfl rfl (vin (by decide)) (by decide) ?_
            refine GW.ldcw (pc' := 13) (v := (-1000000000)) dX8_error_10 rfl ck_X8_310 ?_
            refine GW.iload_n (pc' := 14) dX8_error_13 rfl rfl ?_
            refine GW.isub (pc' := 15) dX8_error_14 rfl ?_
            refine GW.iret dX8_error_15 rfl ⟨_, rfl, ?_⟩
            refine GW.iret dX8_put_53 rfl ⟨_, rfl, ?_⟩
            exact h
          · replace h := ite_f h c6
            refine GW.iload_n (pc' := 5) dX8_isWithin_4 rfl rfl ?_
            refine GW.iload_n (pc' := 6) dX8_isWithin_5 rfl rfl ?_
            refine GW.if_icmpge (pc' := 9) (tgt := 13) dX8_isWithin_6 rfl (by decide) (ite_i (fun c7 => ?_) (fun c7 => ?_))
            · replace h := ite_t h c7
              refine GW.iconst (pc' := 10) (v := 1) dX8_isWithin_9 rfl (by decide) ?_
              refine GW.goto (tgt := 14) dX8_isWithin_10 (by decide) ?_
              refine GW.zret dX8_isWithin_14 rfl (by decide) ⟨_, rfl, ?_⟩
              refine GW.ifne (pc' := 48) (tgt := 54) dX8_put_45 rfl (by decide) (ite_n (by decide) ?_)
              refine GW.aload_n (pc' := 55) dX8_put_54 rfl rfl ?_
              refine GW.getR (pc' := 58) (t := 5) dX8_put_55 rfl fk_X8_35 rfl (by decide) rfl rfl ?_
              refine GW.iload_n (pc' := 59) dX8_put_58 rfl rfl ?_
              refine GW.aaload (pc' := 60) (t := 7) dX8_put_59 rfl rfl b3 (by rw [e4]; rfl) ?_
              refine GW.iload_n (pc' := 61) dX8_put_60 rfl rfl ?_
              refine GW.iload_n (pc' := 62) dX8_put_61 rfl rfl ?_
              refine GW.callV (pc' := 65) (k := 7) (av := [.int v2, .int v3]) (rest := []) dX8_put_62 rfl mk_X5_write lk_X8_270 vk_X5_write ko_7 rfl rfl (Nat.le_of_ble_eq_true rfl) (bk_v (MV.intro (lv := [(0, .ref 7), (1, .int v2), (2, .int v3)]) mk_X5_write.2.2.2.2 (Nat.le_of_ble_eq_true rfl) rfl ?_))
              refine GW.iload_n (pc' := 1) dX5_write_0 rfl rfl ?_
              refine GW.aload_n (pc' := 2) dX5_write_1 rfl rfl ?_
              refine GW.getI (pc' := 5) dX5_write_2 rfl fk_X5_19 rfl (by decide) rfl rfl ?_
              refine GW.callS (pc' := 8) (av := [.int v2, .int (M.1 7 2)]) (rest := []) dX5_write_5 rfl mk_X8_isWithin lk_X5_28 sk_X8_isWithin rfl rfl (Nat.le_of_ble_eq_true rfl) (bk_i (MI.intro (lv := [(0, .int v2), (1, .int (M.1 7 2))]) mk_X8_isWithin.2.2.2.2 (Nat.le_of_ble_eq_true rfl) rfl ?_))
              refine GW.iload_n (pc' := 1) dX8_isWithin_0 rfl rfl ?_
              refine GW.iflt (pc' := 4) (tgt := 13) dX8_isWithin_1 rfl (by decide) (ite_n c6 ?_)
              refine GW.iload_n (pc' := 5) dX8_isWithin_4 rfl rfl ?_
              refine GW.iload_n (pc' := 6) dX8_isWithin_5 rfl rfl ?_
              refine GW.if_icmpge (pc' := 9) (tgt := 13) dX8_isWithin_6 rfl (by decide) (ite_p c7 ?_)
              refine GW.iconst (pc' := 10) (v := 1) dX8_isWithin_9 rfl (by decide) ?_
              refine GW.goto (tgt := 14) dX8_isWithin_10 (by decide) ?_
              refine GW.zret dX8_isWithin_14 rfl (by decide) ⟨_, rfl, ?_⟩
              refine GW.ifeq (pc' := 11) (tgt := 46) dX5_write_8 rfl (by decide) (ite_n (by decide) ?_)
              refine GW.aload_n (pc' := 12) dX5_write_11 rfl rfl ?_
              refine GW.getR (pc' := 15) (t := 11) dX5_write_12 rfl fk_X5_9 rfl (by decide) rfl rfl ?_
              refine GW.iload_n (pc' := 16) dX5_write_15 rfl rfl ?_
              refine GW.aload_n (pc' := 17) dX5_write_16 rfl rfl ?_
              refine GW.getI (pc' := 20) dX5_write_17 rfl fk_X5_15 rfl (by decide) rfl rfl ?_
              refine GW.bipush (pc' := 22) (v := 8) dX5_write_20 rfl (by decide) ?_
              refine GW.if_icmpne (pc' := 25) (tgt := 30) dX5_write_22 rfl (by decide) (ite_i (fun c8 => ?_) (fun c8 => ?_))
              · replace h := ite_t h c8
                refine GW.iload_n (pc' := 26) dX5_write_25 rfl rfl ?_
                refine GW.i2b (pc' := 27) dX5_write_26 rfl ?_
                refine GW.goto (tgt := 45) dX5_write_27 (by decide) ?_
                obtain ⟨b9, h⟩ := h
                refine GW.iastore (pc' := 46) (j := v2.toNatClampNeg) dX5_write_45 rfl rfl b9 rfl ?_
                refine GW.vret dX5_write_46 rfl ⟨rfl, ?_⟩
                refine GW.iconst (pc' := 66) (v := 1) dX8_put_65 rfl (by decide) ?_
                refine GW.iret dX8_put_66 rfl ⟨_, rfl, ?_⟩
                exact h
              · replace h := ite_f h c8
                refine GW.aload_n (pc' := 31) dX5_write_30 rfl rfl ?_
                refine GW.getI (pc' := 34) dX5_write_31 rfl fk_X5_15 rfl (by decide) rfl rfl ?_
                refine GW.bipush (pc' := 36) (v := 16) dX5_write_34 rfl (by decide) ?_
                refine GW.if_icmpne (pc' := 39) (tgt := 44) dX5_write_36 rfl (by decide) (ite_i (fun c10 => ?_) (fun c10 => ?_))
                · replace h := ite_t h c10
                  refine GW.iload_n (pc' := 40) dX5_write_39 rfl rfl ?_
                  refine GW.i2s (pc' := 41) dX5_write_40 rfl ?_
                  refine GW.goto (tgt := 45) dX5_write_41 (by decide) ?_
                  obtain ⟨b11, h⟩ := h
                  refine GW.iastore (pc' := 46) (j := v2.toNatClampNeg) dX5_write_45 rfl rfl b11 rfl ?_
                  refine GW.vret dX5_write_46 rfl ⟨rfl, ?_⟩
                  refine GW.iconst (pc' := 66) (v := 1) dX8_put_65 rfl (by decide) ?_
                  refine GW.iret dX8_put_66 rfl ⟨_, rfl, ?_⟩
                  exact h
                · replace h := ite_f h c10
                  refine GW.iload_n (pc' := 45) dX5_write_44 rfl rfl ?_
                  obtain ⟨b12, h⟩ := h
                  refine GW.iastore (pc' := 46) (j := v2.toNatClampNeg) dX5_write_45 rfl rfl b12 rfl ?_
                  refine GW.vret dX5_write_46 rfl ⟨rfl, ?_⟩
                  refine GW.iconst (pc' := 66) (v := 1) dX8_put_65 rfl (by decide) ?_
                  refine GW.iret dX8_put_66 rfl ⟨_, rfl, ?_⟩
                  exact h
            · replace h := ite_f h c7
              refine GW.iconst (pc' := 14) (v := 0) dX8_isWithin_13 rfl (by decide) ?_
              refine GW.zret dX8_isWithin_14 rfl (by decide) ⟨_, rfl, ?_⟩
              refine GW.ifne (pc' := 48) (tgt := 54) dX8_put_45 rfl (by decide) (ite_p (by decide) ?_)
              refine GW.aload_n (pc' := 49) dX8_put_48 rfl rfl ?_
              refine GW.iconst (pc' := 50) (v := 1) dX8_put_49 rfl (by decide) ?_
              refine GW.callV (pc' := 53) (k := 0) (av := [.int 1]) (rest := []) dX8_put_50 rfl mk_X8_error lk_X8_48 vk_X8_error ko_0 rfl rfl (Nat.le_of_ble_eq_true rfl) (bk_i (MI.intro (lv := [(0, .ref 0), (1, .int 1)]) mk_X8_error.2.2.2.2 (Nat.le_of_ble_eq_true rfl) rfl ?_))
              refine GW.aload_n (pc' := 1) dX8_error_0 rfl rfl ?_
              refine GW.getR (pc' := 4) (t := 6) dX8_error_1 rfl fk_X8_39 rfl (by decide) rfl rfl ?_
              refine GW.iload_n (pc' := 5) dX8_error_4 rfl rfl ?_
              refine GW.dup2 (pc' := 6) dX8_error_5 rfl rfl rfl ?_
              refine GW.iaload (pc' := 7) (j := 1) dX8_error_6 rfl rfl (vin (by decide)) (by decide) ?_
              refine GW.iconst (pc' := 8) (v := 1) dX8_error_7 rfl (by decide) ?_
              refine GW.iadd (pc' := 9) dX8_error_8 rfl ?_
              refine GW.iastore (pc' := 10) (j := 1) dX8_error_9 rfl rfl (vin (by decide)) (by decide) ?_
              refine GW.ldcw (pc' := 13) (v := (-1000000000)) dX8_error_10 rfl ck_X8_310 ?_
              refine GW.iload_n (pc' := 14) dX8_error_13 rfl rfl ?_
              refine GW.isub (pc' := 15) dX8_error_14 rfl ?_
              refine GW.iret dX8_error_15 rfl ⟨_, rfl, ?_⟩
              refine GW.iret dX8_put_53 rfl ⟨_, rfl, ?_⟩
              exact h
      · replace h := h.2.1 e4
        refine GW.aaload (pc' := 20) (t := 8) dX8_put_19 rfl rfl b3 (by rw [e4]; rfl) ?_
        refine GW.getI (pc' := 23) dX8_put_20 rfl fk_X8_266 rfl (by decide) rfl rfl ?_
        refine GW.ifne (pc' := 26) (tgt := 32) dX8_put_23 rfl (by decide) (ite_i (fun c13 => ?_) (fun c13 => ?_))
        · replace h := ite_t h c13
          refine GW.aload_n (pc' := 27) dX8_put_26 rfl rfl ?_
          refine GW.iconst (pc' := 28) (v := 2) dX8_put_27 rfl (by decide) ?_
          refine GW.callV (pc' := 31) (k := 0) (av := [.int 2]) (rest := []) dX8_put_28 rfl mk_X8_error lk_X8_48 vk_X8_error ko_0 rfl rfl (Nat.le_of_ble_eq_true rfl) (bk_i (MI.intro (lv := [(0, .ref 0), (1, .int 2)]) mk_X8_error.2.2.2.2 (Nat.le_of_ble_eq_true rfl) rfl ?_))
          refine GW.aload_n (pc' := 1) dX8_error_0 rfl rfl ?_
          refine GW.getR (pc' := 4) (t := 6) dX8_error_1 rfl fk_X8_39 rfl (by decide) rfl rfl ?_
          refine GW.iload_n (pc' := 5) dX8_error_4 rfl rfl ?_
          refine GW.dup2 (pc' := 6) dX8_error_5 rfl rfl rfl ?_
          refine GW.iaload (pc' := 7) (j := 2) dX8_error_6 rfl rfl (vin (by decide)) (by decide) ?_
          refine GW.iconst (pc' := 8) (v := 1) dX8_error_7 rfl (by decide) ?_
          refine GW.iadd (pc' := 9) dX8_error_8 rfl ?_
          refine GW.iastore (pc' := 10) (j := 2) dX8_error_9 rfl rfl (vin (by decide)) (by decide) ?_
          refine GW.ldcw (pc' := 13) (v := (-1000000000)) dX8_error_10 rfl ck_X8_310 ?_
          refine GW.iload_n (pc' := 14) dX8_error_13 rfl rfl ?_
          refine GW.isub (pc' := 15) dX8_error_14 rfl ?_
          refine GW.iret dX8_error_15 rfl ⟨_, rfl, ?_⟩
          refine GW.iret dX8_put_31 rfl ⟨_, rfl, ?_⟩
          exact h
        · replace h := ite_f h c13
          refine GW.iload_n (pc' := 33) dX8_put_32 rfl rfl ?_
          refine GW.aload_n (pc' := 34) dX8_put_33 rfl rfl ?_
          refine GW.getR (pc' := 37) (t := 5) dX8_put_34 rfl fk_X8_35 rfl (by decide) rfl rfl ?_
          refine GW.iload_n (pc' := 38) dX8_put_37 rfl rfl ?_
          refine GW.aaload (pc' := 39) (t := 8) dX8_put_38 rfl rfl b3 (by rw [e4]; rfl) ?_
          refine GW.getI (pc' := 42) dX8_put_39 rfl fk_X8_269 rfl (by decide) rfl rfl ?_
          refine GW.callS (pc' := 45) (av := [.int v2, .int (M.1 8 2)]) (rest := []) dX8_put_42 rfl mk_X8_isWithin lk_X8_66 sk_X8_isWithin rfl rfl (Nat.le_of_ble_eq_true rfl) (bk_i (MI.intro (lv := [(0, .int v2), (1, .int (M.1 8 2))]) mk_X8_isWithin.2.2.2.2 (Nat.le_of_ble_eq_true rfl) rfl ?_))
          refine GW.iload_n (pc' := 1) dX8_isWithin_0 rfl rfl ?_
          refine GW.iflt (pc' := 4) (tgt := 13) dX8_isWithin_1 rfl (by decide) (ite_i (fun c14 => ?_) (fun c14 => ?_))
          · replace h := ite_t h c14
            refine GW.iconst (pc' := 14) (v := 0) dX8_isWithin_13 rfl (by decide) ?_
            refine GW.zret dX8_isWithin_14 rfl (by decide) ⟨_, rfl, ?_⟩
            refine GW.ifne (pc' := 48) (tgt := 54) dX8_put_45 rfl (by decide) (ite_p (by decide) ?_)
            refine GW.aload_n (pc' := 49) dX8_put_48 rfl rfl ?_
            refine GW.iconst (pc' := 50) (v := 1) dX8_put_49 rfl (by decide) ?_
            refine GW.callV (pc' := 53) (k := 0) (av := [.int 1]) (rest := []) dX8_put_50 rfl mk_X8_error lk_X8_48 vk_X8_error ko_0 rfl rfl (Nat.le_of_ble_eq_true rfl) (bk_i (MI.intro (lv := [(0, .ref 0), (1, .int 1)]) mk_X8_error.2.2.2.2 (Nat.le_of_ble_eq_true rfl) rfl ?_))
            refine GW.aload_n (pc' := 1) dX8_error_0 rfl rfl ?_
            refine GW.getR (pc' := 4) (t := 6) dX8_error_1 rfl fk_X8_39 rfl (by decide) rfl rfl ?_
            refine GW.iload_n (pc' := 5) dX8_error_4 rfl rfl ?_
            refine GW.dup2 (pc' := 6) dX8_error_5 rfl rfl rfl ?_
            refine GW.iaload (pc' := 7) (j := 1) dX8_error_6 rfl rfl (vin (by decide)) (by decide) ?_
            refine GW.iconst (pc' := 8) (v := 1) dX8_error_7 rfl (by decide) ?_
            refine GW.iadd (pc' := 9) dX8_error_8 rfl ?_
            refine GW.iastore (pc' := 10) (j := 1) dX8_error_9 rfl rfl (vin (by decide)) (by decide) ?_
            refine GW.ldcw (pc' := 13) (v := (-1000000000)) dX8_error_10 rfl ck_X8_310 ?_
            refine GW.iload_n (pc' := 14) dX8_error_13 rfl rfl ?_
            refine GW.isub (pc' := 15) dX8_error_14 rfl ?_
            refine GW.iret dX8_error_15 rfl ⟨_, rfl, ?_⟩
            refine GW.iret dX8_put_53 rfl ⟨_, rfl, ?_⟩
            exact h
          · replace h := ite_f h c14
            refine GW.iload_n (pc' := 5) dX8_isWithin_4 rfl rfl ?_
            refine GW.iload_n (pc' := 6) dX8_isWithin_5 rfl rfl ?_
            refine GW.if_icmpge (pc' := 9) (tgt := 13) dX8_isWithin_6 rfl (by decide) (ite_i (fun c15 => ?_) (fun c15 => ?_))
            · replace h := ite_t h c15
              refine GW.iconst (pc' := 10) (v := 1) dX8_isWithin_9 rfl (by decide) ?_
              refine GW.goto (tgt := 14) dX8_isWithin_10 (by decide) ?_
              refine GW.zret dX8_isWithin_14 rfl (by decide) ⟨_, rfl, ?_⟩
              refine GW.ifne (pc' := 48) (tgt := 54) dX8_put_45 rfl (by decide) (ite_n (by decide) ?_)
              refine GW.aload_n (pc' := 55) dX8_put_54 rfl rfl ?_
              refine GW.getR (pc' := 58) (t := 5) dX8_put_55 rfl fk_X8_35 rfl (by decide) rfl rfl ?_
              refine GW.iload_n (pc' := 59) dX8_put_58 rfl rfl ?_
              refine GW.aaload (pc' := 60) (t := 8) dX8_put_59 rfl rfl b3 (by rw [e4]; rfl) ?_
              refine GW.iload_n (pc' := 61) dX8_put_60 rfl rfl ?_
              refine GW.iload_n (pc' := 62) dX8_put_61 rfl rfl ?_
              refine GW.callV (pc' := 65) (k := 8) (av := [.int v2, .int v3]) (rest := []) dX8_put_62 rfl mk_X5_write lk_X8_270 vk_X5_write ko_8 rfl rfl (Nat.le_of_ble_eq_true rfl) (bk_v (MV.intro (lv := [(0, .ref 8), (1, .int v2), (2, .int v3)]) mk_X5_write.2.2.2.2 (Nat.le_of_ble_eq_true rfl) rfl ?_))
              refine GW.iload_n (pc' := 1) dX5_write_0 rfl rfl ?_
              refine GW.aload_n (pc' := 2) dX5_write_1 rfl rfl ?_
              refine GW.getI (pc' := 5) dX5_write_2 rfl fk_X5_19 rfl (by decide) rfl rfl ?_
              refine GW.callS (pc' := 8) (av := [.int v2, .int (M.1 8 2)]) (rest := []) dX5_write_5 rfl mk_X8_isWithin lk_X5_28 sk_X8_isWithin rfl rfl (Nat.le_of_ble_eq_true rfl) (bk_i (MI.intro (lv := [(0, .int v2), (1, .int (M.1 8 2))]) mk_X8_isWithin.2.2.2.2 (Nat.le_of_ble_eq_true rfl) rfl ?_))
              refine GW.iload_n (pc' := 1) dX8_isWithin_0 rfl rfl ?_
              refine GW.iflt (pc' := 4) (tgt := 13) dX8_isWithin_1 rfl (by decide) (ite_n c14 ?_)
              refine GW.iload_n (pc' := 5) dX8_isWithin_4 rfl rfl ?_
              refine GW.iload_n (pc' := 6) dX8_isWithin_5 rfl rfl ?_
              refine GW.if_icmpge (pc' := 9) (tgt := 13) dX8_isWithin_6 rfl (by decide) (ite_p c15 ?_)
              refine GW.iconst (pc' := 10) (v := 1) dX8_isWithin_9 rfl (by decide) ?_
              refine GW.goto (tgt := 14) dX8_isWithin_10 (by decide) ?_
              refine GW.zret dX8_isWithin_14 rfl (by decide) ⟨_, rfl, ?_⟩
              refine GW.ifeq (pc' := 11) (tgt := 46) dX5_write_8 rfl (by decide) (ite_n (by decide) ?_)
              refine GW.aload_n (pc' := 12) dX5_write_11 rfl rfl ?_
              refine GW.getR (pc' := 15) (t := 12) dX5_write_12 rfl fk_X5_9 rfl (by decide) rfl rfl ?_
              refine GW.iload_n (pc' := 16) dX5_write_15 rfl rfl ?_
              refine GW.aload_n (pc' := 17) dX5_write_16 rfl rfl ?_
              refine GW.getI (pc' := 20) dX5_write_17 rfl fk_X5_15 rfl (by decide) rfl rfl ?_
              refine GW.bipush (pc' := 22) (v := 8) dX5_write_20 rfl (by decide) ?_
              refine GW.if_icmpne (pc' := 25) (tgt := 30) dX5_write_22 rfl (by decide) (ite_i (fun c16 => ?_) (fun c16 => ?_))
              · replace h := ite_t h c16
                refine GW.iload_n (pc' := 26) dX5_write_25 rfl rfl ?_
                refine GW.i2b (pc' := 27) dX5_write_26 rfl ?_
                refine GW.goto (tgt := 45) dX5_write_27 (by decide) ?_
                obtain ⟨b17, h⟩ := h
                refine GW.iastore (pc' := 46) (j := v2.toNatClampNeg) dX5_write_45 rfl rfl b17 rfl ?_
                refine GW.vret dX5_write_46 rfl ⟨rfl, ?_⟩
                refine GW.iconst (pc' := 66) (v := 1) dX8_put_65 rfl (by decide) ?_
                refine GW.iret dX8_put_66 rfl ⟨_, rfl, ?_⟩
                exact h
              · replace h := ite_f h c16
                refine GW.aload_n (pc' := 31) dX5_write_30 rfl rfl ?_
                refine GW.getI (pc' := 34) dX5_write_31 rfl fk_X5_15 rfl (by decide) rfl rfl ?_
                refine GW.bipush (pc' := 36) (v := 16) dX5_write_34 rfl (by decide) ?_
                refine GW.if_icmpne (pc' := 39) (tgt := 44) dX5_write_36 rfl (by decide) (ite_i (fun c18 => ?_) (fun c18 => ?_))
                · replace h := ite_t h c18
                  refine GW.iload_n (pc' := 40) dX5_write_39 rfl rfl ?_
                  refine GW.i2s (pc' := 41) dX5_write_40 rfl ?_
                  refine GW.goto (tgt := 45) dX5_write_41 (by decide) ?_
                  obtain ⟨b19, h⟩ := h
                  refine GW.iastore (pc' := 46) (j := v2.toNatClampNeg) dX5_write_45 rfl rfl b19 rfl ?_
                  refine GW.vret dX5_write_46 rfl ⟨rfl, ?_⟩
                  refine GW.iconst (pc' := 66) (v := 1) dX8_put_65 rfl (by decide) ?_
                  refine GW.iret dX8_put_66 rfl ⟨_, rfl, ?_⟩
                  exact h
                · replace h := ite_f h c18
                  refine GW.iload_n (pc' := 45) dX5_write_44 rfl rfl ?_
                  obtain ⟨b20, h⟩ := h
                  refine GW.iastore (pc' := 46) (j := v2.toNatClampNeg) dX5_write_45 rfl rfl b20 rfl ?_
                  refine GW.vret dX5_write_46 rfl ⟨rfl, ?_⟩
                  refine GW.iconst (pc' := 66) (v := 1) dX8_put_65 rfl (by decide) ?_
                  refine GW.iret dX8_put_66 rfl ⟨_, rfl, ?_⟩
                  exact h
            · replace h := ite_f h c15
              refine GW.iconst (pc' := 14) (v := 0) dX8_isWithin_13 rfl (by decide) ?_
              refine GW.zret dX8_isWithin_14 rfl (by decide) ⟨_, rfl, ?_⟩
              refine GW.ifne (pc' := 48) (tgt := 54) dX8_put_45 rfl (by decide) (ite_p (by decide) ?_)
              refine GW.aload_n (pc' := 49) dX8_put_48 rfl rfl ?_
              refine GW.iconst (pc' := 50) (v := 1) dX8_put_49 rfl (by decide) ?_
              refine GW.callV (pc' := 53) (k := 0) (av := [.int 1]) (rest := []) dX8_put_50 rfl mk_X8_error lk_X8_48 vk_X8_error ko_0 rfl rfl (Nat.le_of_ble_eq_true rfl) (bk_i (MI.intro (lv := [(0, .ref 0), (1, .int 1)]) mk_X8_error.2.2.2.2 (Nat.le_of_ble_eq_true rfl) rfl ?_))
              refine GW.aload_n (pc' := 1) dX8_error_0 rfl rfl ?_
              refine GW.getR (pc' := 4) (t := 6) dX8_error_1 rfl fk_X8_39 rfl (by decide) rfl rfl ?_
              refine GW.iload_n (pc' := 5) dX8_error_4 rfl rfl ?_
              refine GW.dup2 (pc' := 6) dX8_error_5 rfl rfl rfl ?_
              refine GW.iaload (pc' := 7) (j := 1) dX8_error_6 rfl rfl (vin (by decide)) (by decide) ?_
              refine GW.iconst (pc' := 8) (v := 1) dX8_error_7 rfl (by decide) ?_
              refine GW.iadd (pc' := 9) dX8_error_8 rfl ?_
              refine GW.iastore (pc' := 10) (j := 1) dX8_error_9 rfl rfl (vin (by decide)) (by decide) ?_
              refine GW.ldcw (pc' := 13) (v := (-1000000000)) dX8_error_10 rfl ck_X8_310 ?_
              refine GW.iload_n (pc' := 14) dX8_error_13 rfl rfl ?_
              refine GW.isub (pc' := 15) dX8_error_14 rfl ?_
              refine GW.iret dX8_error_15 rfl ⟨_, rfl, ?_⟩
              refine GW.iret dX8_put_53 rfl ⟨_, rfl, ?_⟩
              exact h
      · replace h := h.2.2.1 e4
        refine GW.aaload (pc' := 20) (t := 9) dX8_put_19 rfl rfl b3 (by rw [e4]; rfl) ?_
        refine GW.getI (pc' := 23) dX8_put_20 rfl fk_X8_266 rfl (by decide) rfl rfl ?_
        refine GW.ifne (pc' := 26) (tgt := 32) dX8_put_23 rfl (by decide) (ite_i (fun c21 => ?_) (fun c21 => ?_))
        · replace h := ite_t h c21
          refine GW.aload_n (pc' := 27) dX8_put_26 rfl rfl ?_
          refine GW.iconst (pc' := 28) (v := 2) dX8_put_27 rfl (by decide) ?_
          refine GW.callV (pc' := 31) (k := 0) (av := [.int 2]) (rest := []) dX8_put_28 rfl mk_X8_error lk_X8_48 vk_X8_error ko_0 rfl rfl (Nat.le_of_ble_eq_true rfl) (bk_i (MI.intro (lv := [(0, .ref 0), (1, .int 2)]) mk_X8_error.2.2.2.2 (Nat.le_of_ble_eq_true rfl) rfl ?_))
          refine GW.aload_n (pc' := 1) dX8_error_0 rfl rfl ?_
          refine GW.getR (pc' := 4) (t := 6) dX8_error_1 rfl fk_X8_39 rfl (by decide) rfl rfl ?_
          refine GW.iload_n (pc' := 5) dX8_error_4 rfl rfl ?_
          refine GW.dup2 (pc' := 6) dX8_error_5 rfl rfl rfl ?_
          refine GW.iaload (pc' := 7) (j := 2) dX8_error_6 rfl rfl (vin (by decide)) (by decide) ?_
          refine GW.iconst (pc' := 8) (v := 1) dX8_error_7 rfl (by decide) ?_
          refine GW.iadd (pc' := 9) dX8_error_8 rfl ?_
          refine GW.iastore (pc' := 10) (j := 2) dX8_error_9 rfl rfl (vin (by decide)) (by decide) ?_
          refine GW.ldcw (pc' := 13) (v := (-1000000000)) dX8_error_10 rfl ck_X8_310 ?_
          refine GW.iload_n (pc' := 14) dX8_error_13 rfl rfl ?_
          refine GW.isub (pc' := 15) dX8_error_14 rfl ?_
          refine GW.iret dX8_error_15 rfl ⟨_, rfl, ?_⟩
          refine GW.iret dX8_put_31 rfl ⟨_, rfl, ?_⟩
          exact h
        · replace h := ite_f h c21
          refine GW.iload_n (pc' := 33) dX8_put_32 rfl rfl ?_
          refine GW.aload_n (pc' := 34) dX8_put_33 rfl rfl ?_
          refine GW.getR (pc' := 37) (t := 5) dX8_put_34 rfl fk_X8_35 rfl (by decide) rfl rfl ?_
          refine GW.iload_n (pc' := 38) dX8_put_37 rfl rfl ?_
          refine GW.aaload (pc' := 39) (t := 9) dX8_put_38 rfl rfl b3 (by rw [e4]; rfl) ?_
          refine GW.getI (pc' := 42) dX8_put_39 rfl fk_X8_269 rfl (by decide) rfl rfl ?_
          refine GW.callS (pc' := 45) (av := [.int v2, .int (M.1 9 2)]) (rest := []) dX8_put_42 rfl mk_X8_isWithin lk_X8_66 sk_X8_isWithin rfl rfl (Nat.le_of_ble_eq_true rfl) (bk_i (MI.intro (lv := [(0, .int v2), (1, .int (M.1 9 2))]) mk_X8_isWithin.2.2.2.2 (Nat.le_of_ble_eq_true rfl) rfl ?_))
          refine GW.iload_n (pc' := 1) dX8_isWithin_0 rfl rfl ?_
          refine GW.iflt (pc' := 4) (tgt := 13) dX8_isWithin_1 rfl (by decide) (ite_i (fun c22 => ?_) (fun c22 => ?_))
          · replace h := ite_t h c22
            refine GW.iconst (pc' := 14) (v := 0) dX8_isWithin_13 rfl (by decide) ?_
            refine GW.zret dX8_isWithin_14 rfl (by decide) ⟨_, rfl, ?_⟩
            refine GW.ifne (pc' := 48) (tgt := 54) dX8_put_45 rfl (by decide) (ite_p (by decide) ?_)
            refine GW.aload_n (pc' := 49) dX8_put_48 rfl rfl ?_
            refine GW.iconst (pc' := 50) (v := 1) dX8_put_49 rfl (by decide) ?_
            refine GW.callV (pc' := 53) (k := 0) (av := [.int 1]) (rest := []) dX8_put_50 rfl mk_X8_error lk_X8_48 vk_X8_error ko_0 rfl rfl (Nat.le_of_ble_eq_true rfl) (bk_i (MI.intro (lv := [(0, .ref 0), (1, .int 1)]) mk_X8_error.2.2.2.2 (Nat.le_of_ble_eq_true rfl) rfl ?_))
            refine GW.aload_n (pc' := 1) dX8_error_0 rfl rfl ?_
            refine GW.getR (pc' := 4) (t := 6) dX8_error_1 rfl fk_X8_39 rfl (by decide) rfl rfl ?_
            refine GW.iload_n (pc' := 5) dX8_error_4 rfl rfl ?_
            refine GW.dup2 (pc' := 6) dX8_error_5 rfl rfl rfl ?_
            refine GW.iaload (pc' := 7) (j := 1) dX8_error_6 rfl rfl (vin (by decide)) (by decide) ?_
            refine GW.iconst (pc' := 8) (v := 1) dX8_error_7 rfl (by decide) ?_
            refine GW.iadd (pc' := 9) dX8_error_8 rfl ?_
            refine GW.iastore (pc' := 10) (j := 1) dX8_error_9 rfl rfl (vin (by decide)) (by decide) ?_
            refine GW.ldcw (pc' := 13) (v := (-1000000000)) dX8_error_10 rfl ck_X8_310 ?_
            refine GW.iload_n (pc' := 14) dX8_error_13 rfl rfl ?_
            refine GW.isub (pc' := 15) dX8_error_14 rfl ?_
            refine GW.iret dX8_error_15 rfl ⟨_, rfl, ?_⟩
            refine GW.iret dX8_put_53 rfl ⟨_, rfl, ?_⟩
            exact h
          · replace h := ite_f h c22
            refine GW.iload_n (pc' := 5) dX8_isWithin_4 rfl rfl ?_
            refine GW.iload_n (pc' := 6) dX8_isWithin_5 rfl rfl ?_
            refine GW.if_icmpge (pc' := 9) (tgt := 13) dX8_isWithin_6 rfl (by decide) (ite_i (fun c23 => ?_) (fun c23 => ?_))
            · replace h := ite_t h c23
              refine GW.iconst (pc' := 10) (v := 1) dX8_isWithin_9 rfl (by decide) ?_
              refine GW.goto (tgt := 14) dX8_isWithin_10 (by decide) ?_
              refine GW.zret dX8_isWithin_14 rfl (by decide) ⟨_, rfl, ?_⟩
              refine GW.ifne (pc' := 48) (tgt := 54) dX8_put_45 rfl (by decide) (ite_n (by decide) ?_)
              refine GW.aload_n (pc' := 55) dX8_put_54 rfl rfl ?_
              refine GW.getR (pc' := 58) (t := 5) dX8_put_55 rfl fk_X8_35 rfl (by decide) rfl rfl ?_
              refine GW.iload_n (pc' := 59) dX8_put_58 rfl rfl ?_
              refine GW.aaload (pc' := 60) (t := 9) dX8_put_59 rfl rfl b3 (by rw [e4]; rfl) ?_
              refine GW.iload_n (pc' := 61) dX8_put_60 rfl rfl ?_
              refine GW.iload_n (pc' := 62) dX8_put_61 rfl rfl ?_
              refine GW.callV (pc' := 65) (k := 9) (av := [.int v2, .int v3]) (rest := []) dX8_put_62 rfl mk_X5_write lk_X8_270 vk_X5_write ko_9 rfl rfl (Nat.le_of_ble_eq_true rfl) (bk_v (MV.intro (lv := [(0, .ref 9), (1, .int v2), (2, .int v3)]) mk_X5_write.2.2.2.2 (Nat.le_of_ble_eq_true rfl) rfl ?_))
              refine GW.iload_n (pc' := 1) dX5_write_0 rfl rfl ?_
              refine GW.aload_n (pc' := 2) dX5_write_1 rfl rfl ?_
              refine GW.getI (pc' := 5) dX5_write_2 rfl fk_X5_19 rfl (by decide) rfl rfl ?_
              refine GW.callS (pc' := 8) (av := [.int v2, .int (M.1 9 2)]) (rest := []) dX5_write_5 rfl mk_X8_isWithin lk_X5_28 sk_X8_isWithin rfl rfl (Nat.le_of_ble_eq_true rfl) (bk_i (MI.intro (lv := [(0, .int v2), (1, .int (M.1 9 2))]) mk_X8_isWithin.2.2.2.2 (Nat.le_of_ble_eq_true rfl) rfl ?_))
              refine GW.iload_n (pc' := 1) dX8_isWithin_0 rfl rfl ?_
              refine GW.iflt (pc' := 4) (tgt := 13) dX8_isWithin_1 rfl (by decide) (ite_n c22 ?_)
              refine GW.iload_n (pc' := 5) dX8_isWithin_4 rfl rfl ?_
              refine GW.iload_n (pc' := 6) dX8_isWithin_5 rfl rfl ?_
              refine GW.if_icmpge (pc' := 9) (tgt := 13) dX8_isWithin_6 rfl (by decide) (ite_p c23 ?_)
              refine GW.iconst (pc' := 10) (v := 1) dX8_isWithin_9 rfl (by decide) ?_
              refine GW.goto (tgt := 14) dX8_isWithin_10 (by decide) ?_
              refine GW.zret dX8_isWithin_14 rfl (by decide) ⟨_, rfl, ?_⟩
              refine GW.ifeq (pc' := 11) (tgt := 46) dX5_write_8 rfl (by decide) (ite_n (by decide) ?_)
              refine GW.aload_n (pc' := 12) dX5_write_11 rfl rfl ?_
              refine GW.getR (pc' := 15) (t := 13) dX5_write_12 rfl fk_X5_9 rfl (by decide) rfl rfl ?_
              refine GW.iload_n (pc' := 16) dX5_write_15 rfl rfl ?_
              refine GW.aload_n (pc' := 17) dX5_write_16 rfl rfl ?_
              refine GW.getI (pc' := 20) dX5_write_17 rfl fk_X5_15 rfl (by decide) rfl rfl ?_
              refine GW.bipush (pc' := 22) (v := 8) dX5_write_20 rfl (by decide) ?_
              refine GW.if_icmpne (pc' := 25) (tgt := 30) dX5_write_22 rfl (by decide) (ite_i (fun c24 => ?_) (fun c24 => ?_))
              · replace h := ite_t h c24
                refine GW.iload_n (pc' := 26) dX5_write_25 rfl rfl ?_
                refine GW.i2b (pc' := 27) dX5_write_26 rfl ?_
                refine GW.goto (tgt := 45) dX5_write_27 (by decide) ?_
                obtain ⟨b25, h⟩ := h
                refine GW.iastore (pc' := 46) (j := v2.toNatClampNeg) dX5_write_45 rfl rfl b25 rfl ?_
                refine GW.vret dX5_write_46 rfl ⟨rfl, ?_⟩
                refine GW.iconst (pc' := 66) (v := 1) dX8_put_65 rfl (by decide) ?_
                refine GW.iret dX8_put_66 rfl ⟨_, rfl, ?_⟩
                exact h
              · replace h := ite_f h c24
                refine GW.aload_n (pc' := 31) dX5_write_30 rfl rfl ?_
                refine GW.getI (pc' := 34) dX5_write_31 rfl fk_X5_15 rfl (by decide) rfl rfl ?_
                refine GW.bipush (pc' := 36) (v := 16) dX5_write_34 rfl (by decide) ?_
                refine GW.if_icmpne (pc' := 39) (tgt := 44) dX5_write_36 rfl (by decide) (ite_i (fun c26 => ?_) (fun c26 => ?_))
                · replace h := ite_t h c26
                  refine GW.iload_n (pc' := 40) dX5_write_39 rfl rfl ?_
                  refine GW.i2s (pc' := 41) dX5_write_40 rfl ?_
                  refine GW.goto (tgt := 45) dX5_write_41 (by decide) ?_
                  obtain ⟨b27, h⟩ := h
                  refine GW.iastore (pc' := 46) (j := v2.toNatClampNeg) dX5_write_45 rfl rfl b27 rfl ?_
                  refine GW.vret dX5_write_46 rfl ⟨rfl, ?_⟩
                  refine GW.iconst (pc' := 66) (v := 1) dX8_put_65 rfl (by decide) ?_
                  refine GW.iret dX8_put_66 rfl ⟨_, rfl, ?_⟩
                  exact h
                · replace h := ite_f h c26
                  refine GW.iload_n (pc' := 45) dX5_write_44 rfl rfl ?_
                  obtain ⟨b28, h⟩ := h
                  refine GW.iastore (pc' := 46) (j := v2.toNatClampNeg) dX5_write_45 rfl rfl b28 rfl ?_
                  refine GW.vret dX5_write_46 rfl ⟨rfl, ?_⟩
                  refine GW.iconst (pc' := 66) (v := 1) dX8_put_65 rfl (by decide) ?_
                  refine GW.iret dX8_put_66 rfl ⟨_, rfl, ?_⟩
                  exact h
            · replace h := ite_f h c23
              refine GW.iconst (pc' := 14) (v := 0) dX8_isWithin_13 rfl (by decide) ?_
              refine GW.zret dX8_isWithin_14 rfl (by decide) ⟨_, rfl, ?_⟩
              refine GW.ifne (pc' := 48) (tgt := 54) dX8_put_45 rfl (by decide) (ite_p (by decide) ?_)
              refine GW.aload_n (pc' := 49) dX8_put_48 rfl rfl ?_
              refine GW.iconst (pc' := 50) (v := 1) dX8_put_49 rfl (by decide) ?_
              refine GW.callV (pc' := 53) (k := 0) (av := [.int 1]) (rest := []) dX8_put_50 rfl mk_X8_error lk_X8_48 vk_X8_error ko_0 rfl rfl (Nat.le_of_ble_eq_true rfl) (bk_i (MI.intro (lv := [(0, .ref 0), (1, .int 1)]) mk_X8_error.2.2.2.2 (Nat.le_of_ble_eq_true rfl) rfl ?_))
              refine GW.aload_n (pc' := 1) dX8_error_0 rfl rfl ?_
              refine GW.getR (pc' := 4) (t := 6) dX8_error_1 rfl fk_X8_39 rfl (by decide) rfl rfl ?_
              refine GW.iload_n (pc' := 5) dX8_error_4 rfl rfl ?_
              refine GW.dup2 (pc' := 6) dX8_error_5 rfl rfl rfl ?_
              refine GW.iaload (pc' := 7) (j := 1) dX8_error_6 rfl rfl (vin (by decide)) (by decide) ?_
              refine GW.iconst (pc' := 8) (v := 1) dX8_error_7 rfl (by decide) ?_
              refine GW.iadd (pc' := 9) dX8_error_8 rfl ?_
              refine GW.iastore (pc' := 10) (j := 1) dX8_error_9 rfl rfl (vin (by decide)) (by decide) ?_
              refine GW.ldcw (pc' := 13) (v := (-1000000000)) dX8_error_10 rfl ck_X8_310 ?_
              refine GW.iload_n (pc' := 14) dX8_error_13 rfl rfl ?_
              refine GW.isub (pc' := 15) dX8_error_14 rfl ?_
              refine GW.iret dX8_error_15 rfl ⟨_, rfl, ?_⟩
              refine GW.iret dX8_put_53 rfl ⟨_, rfl, ?_⟩
              exact h
      · replace h := h.2.2.2 e4
        refine GW.aaload (pc' := 20) (t := 10) dX8_put_19 rfl rfl b3 (by rw [e4]; rfl) ?_
        refine GW.getI (pc' := 23) dX8_put_20 rfl fk_X8_266 rfl (by decide) rfl rfl ?_
        refine GW.ifne (pc' := 26) (tgt := 32) dX8_put_23 rfl (by decide) (ite_i (fun c29 => ?_) (fun c29 => ?_))
        · replace h := ite_t h c29
          refine GW.aload_n (pc' := 27) dX8_put_26 rfl rfl ?_
          refine GW.iconst (pc' := 28) (v := 2) dX8_put_27 rfl (by decide) ?_
          refine GW.callV (pc' := 31) (k := 0) (av := [.int 2]) (rest := []) dX8_put_28 rfl mk_X8_error lk_X8_48 vk_X8_error ko_0 rfl rfl (Nat.le_of_ble_eq_true rfl) (bk_i (MI.intro (lv := [(0, .ref 0), (1, .int 2)]) mk_X8_error.2.2.2.2 (Nat.le_of_ble_eq_true rfl) rfl ?_))
          refine GW.aload_n (pc' := 1) dX8_error_0 rfl rfl ?_
          refine GW.getR (pc' := 4) (t := 6) dX8_error_1 rfl fk_X8_39 rfl (by decide) rfl rfl ?_
          refine GW.iload_n (pc' := 5) dX8_error_4 rfl rfl ?_
          refine GW.dup2 (pc' := 6) dX8_error_5 rfl rfl rfl ?_
          refine GW.iaload (pc' := 7) (j := 2) dX8_error_6 rfl rfl (vin (by decide)) (by decide) ?_
          refine GW.iconst (pc' := 8) (v := 1) dX8_error_7 rfl (by decide) ?_
          refine GW.iadd (pc' := 9) dX8_error_8 rfl ?_
          refine GW.iastore (pc' := 10) (j := 2) dX8_error_9 rfl rfl (vin (by decide)) (by decide) ?_
          refine GW.ldcw (pc' := 13) (v := (-1000000000)) dX8_error_10 rfl ck_X8_310 ?_
          refine GW.iload_n (pc' := 14) dX8_error_13 rfl rfl ?_
          refine GW.isub (pc' := 15) dX8_error_14 rfl ?_
          refine GW.iret dX8_error_15 rfl ⟨_, rfl, ?_⟩
          refine GW.iret dX8_put_31 rfl ⟨_, rfl, ?_⟩
          exact h
        · replace h := ite_f h c29
          refine GW.iload_n (pc' := 33) dX8_put_32 rfl rfl ?_
          refine GW.aload_n (pc' := 34) dX8_put_33 rfl rfl ?_
          refine GW.getR (pc' := 37) (t := 5) dX8_put_34 rfl fk_X8_35 rfl (by decide) rfl rfl ?_
          refine GW.iload_n (pc' := 38) dX8_put_37 rfl rfl ?_
          refine GW.aaload (pc' := 39) (t := 10) dX8_put_38 rfl rfl b3 (by rw [e4]; rfl) ?_
          refine GW.getI (pc' := 42) dX8_put_39 rfl fk_X8_269 rfl (by decide) rfl rfl ?_
          refine GW.callS (pc' := 45) (av := [.int v2, .int (M.1 10 2)]) (rest := []) dX8_put_42 rfl mk_X8_isWithin lk_X8_66 sk_X8_isWithin rfl rfl (Nat.le_of_ble_eq_true rfl) (bk_i (MI.intro (lv := [(0, .int v2), (1, .int (M.1 10 2))]) mk_X8_isWithin.2.2.2.2 (Nat.le_of_ble_eq_true rfl) rfl ?_))
          refine GW.iload_n (pc' := 1) dX8_isWithin_0 rfl rfl ?_
          refine GW.iflt (pc' := 4) (tgt := 13) dX8_isWithin_1 rfl (by decide) (ite_i (fun c30 => ?_) (fun c30 => ?_))
          · replace h := ite_t h c30
            refine GW.iconst (pc' := 14) (v := 0) dX8_isWithin_13 rfl (by decide) ?_
            refine GW.zret dX8_isWithin_14 rfl (by decide) ⟨_, rfl, ?_⟩
            refine GW.ifne (pc' := 48) (tgt := 54) dX8_put_45 rfl (by decide) (ite_p (by decide) ?_)
            refine GW.aload_n (pc' := 49) dX8_put_48 rfl rfl ?_
            refine GW.iconst (pc' := 50) (v := 1) dX8_put_49 rfl (by decide) ?_
            refine GW.callV (pc' := 53) (k := 0) (av := [.int 1]) (rest := []) dX8_put_50 rfl mk_X8_error lk_X8_48 vk_X8_error ko_0 rfl rfl (Nat.le_of_ble_eq_true rfl) (bk_i (MI.intro (lv := [(0, .ref 0), (1, .int 1)]) mk_X8_error.2.2.2.2 (Nat.le_of_ble_eq_true rfl) rfl ?_))
            refine GW.aload_n (pc' := 1) dX8_error_0 rfl rfl ?_
            refine GW.getR (pc' := 4) (t := 6) dX8_error_1 rfl fk_X8_39 rfl (by decide) rfl rfl ?_
            refine GW.iload_n (pc' := 5) dX8_error_4 rfl rfl ?_
            refine GW.dup2 (pc' := 6) dX8_error_5 rfl rfl rfl ?_
            refine GW.iaload (pc' := 7) (j := 1) dX8_error_6 rfl rfl (vin (by decide)) (by decide) ?_
            refine GW.iconst (pc' := 8) (v := 1) dX8_error_7 rfl (by decide) ?_
            refine GW.iadd (pc' := 9) dX8_error_8 rfl ?_
            refine GW.iastore (pc' := 10) (j := 1) dX8_error_9 rfl rfl (vin (by decide)) (by decide) ?_
            refine GW.ldcw (pc' := 13) (v := (-1000000000)) dX8_error_10 rfl ck_X8_310 ?_
            refine GW.iload_n (pc' := 14) dX8_error_13 rfl rfl ?_
            refine GW.isub (pc' := 15) dX8_error_14 rfl ?_
            refine GW.iret dX8_error_15 rfl ⟨_, rfl, ?_⟩
            refine GW.iret dX8_put_53 rfl ⟨_, rfl, ?_⟩
            exact h
          · replace h := ite_f h c30
            refine GW.iload_n (pc' := 5) dX8_isWithin_4 rfl rfl ?_
            refine GW.iload_n (pc' := 6) dX8_isWithin_5 rfl rfl ?_
            refine GW.if_icmpge (pc' := 9) (tgt := 13) dX8_isWithin_6 rfl (by decide) (ite_i (fun c31 => ?_) (fun c31 => ?_))
            · replace h := ite_t h c31
              refine GW.iconst (pc' := 10) (v := 1) dX8_isWithin_9 rfl (by decide) ?_
              refine GW.goto (tgt := 14) dX8_isWithin_10 (by decide) ?_
              refine GW.zret dX8_isWithin_14 rfl (by decide) ⟨_, rfl, ?_⟩
              refine GW.ifne (pc' := 48) (tgt := 54) dX8_put_45 rfl (by decide) (ite_n (by decide) ?_)
              refine GW.aload_n (pc' := 55) dX8_put_54 rfl rfl ?_
              refine GW.getR (pc' := 58) (t := 5) dX8_put_55 rfl fk_X8_35 rfl (by decide) rfl rfl ?_
              refine GW.iload_n (pc' := 59) dX8_put_58 rfl rfl ?_
              refine GW.aaload (pc' := 60) (t := 10) dX8_put_59 rfl rfl b3 (by rw [e4]; rfl) ?_
              refine GW.iload_n (pc' := 61) dX8_put_60 rfl rfl ?_
              refine GW.iload_n (pc' := 62) dX8_put_61 rfl rfl ?_
              refine GW.callV (pc' := 65) (k := 10) (av := [.int v2, .int v3]) (rest := []) dX8_put_62 rfl mk_X5_write lk_X8_270 vk_X5_write ko_10 rfl rfl (Nat.le_of_ble_eq_true rfl) (bk_v (MV.intro (lv := [(0, .ref 10), (1, .int v2), (2, .int v3)]) mk_X5_write.2.2.2.2 (Nat.le_of_ble_eq_true rfl) rfl ?_))
              refine GW.iload_n (pc' := 1) dX5_write_0 rfl rfl ?_
              refine GW.aload_n (pc' := 2) dX5_write_1 rfl rfl ?_
              refine GW.getI (pc' := 5) dX5_write_2 rfl fk_X5_19 rfl (by decide) rfl rfl ?_
              refine GW.callS (pc' := 8) (av := [.int v2, .int (M.1 10 2)]) (rest := []) dX5_write_5 rfl mk_X8_isWithin lk_X5_28 sk_X8_isWithin rfl rfl (Nat.le_of_ble_eq_true rfl) (bk_i (MI.intro (lv := [(0, .int v2), (1, .int (M.1 10 2))]) mk_X8_isWithin.2.2.2.2 (Nat.le_of_ble_eq_true rfl) rfl ?_))
              refine GW.iload_n (pc' := 1) dX8_isWithin_0 rfl rfl ?_
              refine GW.iflt (pc' := 4) (tgt := 13) dX8_isWithin_1 rfl (by decide) (ite_n c30 ?_)
              refine GW.iload_n (pc' := 5) dX8_isWithin_4 rfl rfl ?_
              refine GW.iload_n (pc' := 6) dX8_isWithin_5 rfl rfl ?_
              refine GW.if_icmpge (pc' := 9) (tgt := 13) dX8_isWithin_6 rfl (by decide) (ite_p c31 ?_)
              refine GW.iconst (pc' := 10) (v := 1) dX8_isWithin_9 rfl (by decide) ?_
              refine GW.goto (tgt := 14) dX8_isWithin_10 (by decide) ?_
              refine GW.zret dX8_isWithin_14 rfl (by decide) ⟨_, rfl, ?_⟩
              refine GW.ifeq (pc' := 11) (tgt := 46) dX5_write_8 rfl (by decide) (ite_n (by decide) ?_)
              refine GW.aload_n (pc' := 12) dX5_write_11 rfl rfl ?_
              refine GW.getR (pc' := 15) (t := 14) dX5_write_12 rfl fk_X5_9 rfl (by decide) rfl rfl ?_
              refine GW.iload_n (pc' := 16) dX5_write_15 rfl rfl ?_
              refine GW.aload_n (pc' := 17) dX5_write_16 rfl rfl ?_
              refine GW.getI (pc' := 20) dX5_write_17 rfl fk_X5_15 rfl (by decide) rfl rfl ?_
              refine GW.bipush (pc' := 22) (v := 8) dX5_write_20 rfl (by decide) ?_
              refine GW.if_icmpne (pc' := 25) (tgt := 30) dX5_write_22 rfl (by decide) (ite_i (fun c32 => ?_) (fun c32 => ?_))
              · replace h := ite_t h c32
                refine GW.iload_n (pc' := 26) dX5_write_25 rfl rfl ?_
                refine GW.i2b (pc' := 27) dX5_write_26 rfl ?_
                refine GW.goto (tgt := 45) dX5_write_27 (by decide) ?_
                obtain ⟨b33, h⟩ := h
                refine GW.iastore (pc' := 46) (j := v2.toNatClampNeg) dX5_write_45 rfl rfl b33 rfl ?_
                refine GW.vret dX5_write_46 rfl ⟨rfl, ?_⟩
                refine GW.iconst (pc' := 66) (v := 1) dX8_put_65 rfl (by decide) ?_
                refine GW.iret dX8_put_66 rfl ⟨_, rfl, ?_⟩
                exact h
              · replace h := ite_f h c32
                refine GW.aload_n (pc' := 31) dX5_write_30 rfl rfl ?_
                refine GW.getI (pc' := 34) dX5_write_31 rfl fk_X5_15 rfl (by decide) rfl rfl ?_
                refine GW.bipush (pc' := 36) (v := 16) dX5_write_34 rfl (by decide) ?_
                refine GW.if_icmpne (pc' := 39) (tgt := 44) dX5_write_36 rfl (by decide) (ite_i (fun c34 => ?_) (fun c34 => ?_))
                · replace h := ite_t h c34
                  refine GW.iload_n (pc' := 40) dX5_write_39 rfl rfl ?_
                  refine GW.i2s (pc' := 41) dX5_write_40 rfl ?_
                  refine GW.goto (tgt := 45) dX5_write_41 (by decide) ?_
                  obtain ⟨b35, h⟩ := h
                  refine GW.iastore (pc' := 46) (j := v2.toNatClampNeg) dX5_write_45 rfl rfl b35 rfl ?_
                  refine GW.vret dX5_write_46 rfl ⟨rfl, ?_⟩
                  refine GW.iconst (pc' := 66) (v := 1) dX8_put_65 rfl (by decide) ?_
                  refine GW.iret dX8_put_66 rfl ⟨_, rfl, ?_⟩
                  exact h
                · replace h := ite_f h c34
                  refine GW.iload_n (pc' := 45) dX5_write_44 rfl rfl ?_
                  obtain ⟨b36, h⟩ := h
                  refine GW.iastore (pc' := 46) (j := v2.toNatClampNeg) dX5_write_45 rfl rfl b36 rfl ?_
                  refine GW.vret dX5_write_46 rfl ⟨rfl, ?_⟩
                  refine GW.iconst (pc' := 66) (v := 1) dX8_put_65 rfl (by decide) ?_
                  refine GW.iret dX8_put_66 rfl ⟨_, rfl, ?_⟩
                  exact h
            · replace h := ite_f h c31
              refine GW.iconst (pc' := 14) (v := 0) dX8_isWithin_13 rfl (by decide) ?_
              refine GW.zret dX8_isWithin_14 rfl (by decide) ⟨_, rfl, ?_⟩
              refine GW.ifne (pc' := 48) (tgt := 54) dX8_put_45 rfl (by decide) (ite_p (by decide) ?_)
              refine GW.aload_n (pc' := 49) dX8_put_48 rfl rfl ?_
              refine GW.iconst (pc' := 50) (v := 1) dX8_put_49 rfl (by decide) ?_
              refine GW.callV (pc' := 53) (k := 0) (av := [.int 1]) (rest := []) dX8_put_50 rfl mk_X8_error lk_X8_48 vk_X8_error ko_0 rfl rfl (Nat.le_of_ble_eq_true rfl) (bk_i (MI.intro (lv := [(0, .ref 0), (1, .int 1)]) mk_X8_error.2.2.2.2 (Nat.le_of_ble_eq_true rfl) rfl ?_))
              refine GW.aload_n (pc' := 1) dX8_error_0 rfl rfl ?_
              refine GW.getR (pc' := 4) (t := 6) dX8_error_1 rfl fk_X8_39 rfl (by decide) rfl rfl ?_
              refine GW.iload_n (pc' := 5) dX8_error_4 rfl rfl ?_
              refine GW.dup2 (pc' := 6) dX8_error_5 rfl rfl rfl ?_
              refine GW.iaload (pc' := 7) (j := 1) dX8_error_6 rfl rfl (vin (by decide)) (by decide) ?_
              refine GW.iconst (pc' := 8) (v := 1) dX8_error_7 rfl (by decide) ?_
              refine GW.iadd (pc' := 9) dX8_error_8 rfl ?_
              refine GW.iastore (pc' := 10) (j := 1) dX8_error_9 rfl rfl (vin (by decide)) (by decide) ?_
              refine GW.ldcw (pc' := 13) (v := (-1000000000)) dX8_error_10 rfl ck_X8_310 ?_
              refine GW.iload_n (pc' := 14) dX8_error_13 rfl rfl ?_
              refine GW.isub (pc' := 15) dX8_error_14 rfl ?_
              refine GW.iret dX8_error_15 rfl ⟨_, rfl, ?_⟩
              refine GW.iret dX8_put_53 rfl ⟨_, rfl, ?_⟩
              exact h
    · replace h := ite_f h c2
      refine GW.iconst (pc' := 14) (v := 0) dX8_isWithin_13 rfl (by decide) ?_
      refine GW.zret dX8_isWithin_14 rfl (by decide) ⟨_, rfl, ?_⟩
      refine GW.ifne (pc' := 8) (tgt := 14) dX8_put_5 rfl (by decide) (ite_p (by decide) ?_)
      refine GW.aload_n (pc' := 9) dX8_put_8 rfl rfl ?_
      refine GW.iconst (pc' := 10) (v := 1) dX8_put_9 rfl (by decide) ?_
      refine GW.callV (pc' := 13) (k := 0) (av := [.int 1]) (rest := []) dX8_put_10 rfl mk_X8_error lk_X8_48 vk_X8_error ko_0 rfl rfl (Nat.le_of_ble_eq_true rfl) (bk_i (MI.intro (lv := [(0, .ref 0), (1, .int 1)]) mk_X8_error.2.2.2.2 (Nat.le_of_ble_eq_true rfl) rfl ?_))
      refine GW.aload_n (pc' := 1) dX8_error_0 rfl rfl ?_
      refine GW.getR (pc' := 4) (t := 6) dX8_error_1 rfl fk_X8_39 rfl (by decide) rfl rfl ?_
      refine GW.iload_n (pc' := 5) dX8_error_4 rfl rfl ?_
      refine GW.dup2 (pc' := 6) dX8_error_5 rfl rfl rfl ?_
      refine GW.iaload (pc' := 7) (j := 1) dX8_error_6 rfl rfl (vin (by decide)) (by decide) ?_
      refine GW.iconst (pc' := 8) (v := 1) dX8_error_7 rfl (by decide) ?_
      refine GW.iadd (pc' := 9) dX8_error_8 rfl ?_
      refine GW.iastore (pc' := 10) (j := 1) dX8_error_9 rfl rfl (vin (by decide)) (by decide) ?_
      refine GW.ldcw (pc' := 13) (v := (-1000000000)) dX8_error_10 rfl ck_X8_310 ?_
      refine GW.iload_n (pc' := 14) dX8_error_13 rfl rfl ?_
      refine GW.isub (pc' := 15) dX8_error_14 rfl ?_
      refine GW.iret dX8_error_15 rfl ⟨_, rfl, ?_⟩
      refine GW.iret dX8_put_13 rfl ⟨_, rfl, ?_⟩
      exact h

set_option maxRecDepth 100000 in
set_option maxHeartbeats 4000000 in
theorem wp_X8_voice_0 (xs : gX) (d : Nat) (v1 : Int32) (v2 : Int32) (v3 : Int32) (M : Mem) (Q : Int32 → Mem → Prop) (h : (if v1 < 0 then Q ((-1000000000) - 1) (mw M 6 1 ((M.1 6 1) + 1)) else (if v1 < (M.1 20 1) then (if v2 < 0 then Q ((-1000000000) - 1) (mw M 6 1 ((M.1 6 1) + 1)) else (if v2 < 4 then MI xs (d + 2) mX0_sing [.ref 4, .int v1, .ref 20, .int v2, .int v3] M (fun r5 M6 => (if (M6.1 4 2) = 0 then Q r5 M6 else Q ((-1000000000) - 6) (mw M6 6 6 ((M6.1 6 6) + 1)))) else Q ((-1000000000) - 1) (mw M 6 1 ((M.1 6 1) + 1)))) else Q ((-1000000000) - 1) (mw M 6 1 ((M.1 6 1) + 1))))) : MI xs (d + 3) mX8_voice [.ref 0, .int v1, .int v2, .int v3] M Q := by
  refine MI.intro (lv := [(0, .ref 0), (1, .int v1), (2, .int v2), (3, .int v3)]) mk_X8_voice.2.2.2.2 (Nat.le_of_ble_eq_true rfl) rfl ?_
  refine GW.aload_n (pc' := 1) dX8_voice_0 rfl rfl ?_
  refine GW.iload_n (pc' := 2) dX8_voice_1 rfl rfl ?_
  refine GW.callV (pc' := 5) (k := 0) (av := [.int v1]) (rest := []) dX8_voice_2 rfl mk_X8_isThing lk_X8_109 vk_X8_isThing ko_0 rfl rfl (Nat.le_of_ble_eq_true rfl) (bk_i (MI.intro (lv := [(0, .ref 0), (1, .int v1)]) mk_X8_isThing.2.2.2.2 (Nat.le_of_ble_eq_true rfl) rfl ?_))
  refine GW.iload_n (pc' := 1) dX8_isThing_0 rfl rfl ?_
  refine GW.aload_n (pc' := 2) dX8_isThing_1 rfl rfl ?_
  refine GW.getR (pc' := 5) (t := 1) dX8_isThing_2 rfl fk_X8_12 rfl (by decide) rfl rfl ?_
  refine GW.getR (pc' := 8) (t := 20) dX8_isThing_5 rfl fk_X8_99 rfl (by decide) rfl rfl ?_
  refine GW.getI (pc' := 11) dX8_isThing_8 rfl fk_X8_103 rfl (by decide) rfl rfl ?_
  refine GW.callS (pc' := 14) (av := [.int v1, .int (M.1 20 1)]) (rest := []) dX8_isThing_11 rfl mk_X8_isWithin lk_X8_66 sk_X8_isWithin rfl rfl (Nat.le_of_ble_eq_true rfl) (bk_i (MI.intro (lv := [(0, .int v1), (1, .int (M.1 20 1))]) mk_X8_isWithin.2.2.2.2 (Nat.le_of_ble_eq_true rfl) rfl ?_))
  refine GW.iload_n (pc' := 1) dX8_isWithin_0 rfl rfl ?_
  refine GW.iflt (pc' := 4) (tgt := 13) dX8_isWithin_1 rfl (by decide) (ite_i (fun c1 => ?_) (fun c1 => ?_))
  · replace h := ite_t h c1
    refine GW.iconst (pc' := 14) (v := 0) dX8_isWithin_13 rfl (by decide) ?_
    refine GW.zret dX8_isWithin_14 rfl (by decide) ⟨_, rfl, ?_⟩
    refine GW.zret dX8_isThing_14 rfl (by decide) ⟨_, rfl, ?_⟩
    refine GW.ifeq (pc' := 8) (tgt := 16) dX8_voice_5 rfl (by decide) (ite_p (by decide) ?_)
    refine GW.aload_n (pc' := 17) dX8_voice_16 rfl rfl ?_
    refine GW.iconst (pc' := 18) (v := 1) dX8_voice_17 rfl (by decide) ?_
    refine GW.callV (pc' := 21) (k := 0) (av := [.int 1]) (rest := []) dX8_voice_18 rfl mk_X8_error lk_X8_48 vk_X8_error ko_0 rfl rfl (Nat.le_of_ble_eq_true rfl) (bk_i (MI.intro (lv := [(0, .ref 0), (1, .int 1)]) mk_X8_error.2.2.2.2 (Nat.le_of_ble_eq_true rfl) rfl ?_))
    refine GW.aload_n (pc' := 1) dX8_error_0 rfl rfl ?_
    refine GW.getR (pc' := 4) (t := 6) dX8_error_1 rfl fk_X8_39 rfl (by decide) rfl rfl ?_
    refine GW.iload_n (pc' := 5) dX8_error_4 rfl rfl ?_
    refine GW.dup2 (pc' := 6) dX8_error_5 rfl rfl rfl ?_
    refine GW.iaload (pc' := 7) (j := 1) dX8_error_6 rfl rfl (vin (by decide)) (by decide) ?_
    refine GW.iconst (pc' := 8) (v := 1) dX8_error_7 rfl (by decide) ?_
    refine GW.iadd (pc' := 9) dX8_error_8 rfl ?_
    refine GW.iastore (pc' := 10) (j := 1) dX8_error_9 rfl rfl (vin (by decide)) (by decide) ?_
    refine GW.ldcw (pc' := 13) (v := (-1000000000)) dX8_error_10 rfl ck_X8_310 ?_
    refine GW.iload_n (pc' := 14) dX8_error_13 rfl rfl ?_
    refine GW.isub (pc' := 15) dX8_error_14 rfl ?_
    refine GW.iret dX8_error_15 rfl ⟨_, rfl, ?_⟩
    refine GW.iret dX8_voice_21 rfl ⟨_, rfl, ?_⟩
    exact h
  · replace h := ite_f h c1
    refine GW.iload_n (pc' := 5) dX8_isWithin_4 rfl rfl ?_
    refine GW.iload_n (pc' := 6) dX8_isWithin_5 rfl rfl ?_
    refine GW.if_icmpge (pc' := 9) (tgt := 13) dX8_isWithin_6 rfl (by decide) (ite_i (fun c2 => ?_) (fun c2 => ?_))
    · replace h := ite_t h c2
      refine GW.iconst (pc' := 10) (v := 1) dX8_isWithin_9 rfl (by decide) ?_
      refine GW.goto (tgt := 14) dX8_isWithin_10 (by decide) ?_
      refine GW.zret dX8_isWithin_14 rfl (by decide) ⟨_, rfl, ?_⟩
      refine GW.zret dX8_isThing_14 rfl (by decide) ⟨_, rfl, ?_⟩
      refine GW.ifeq (pc' := 8) (tgt := 16) dX8_voice_5 rfl (by decide) (ite_n (by decide) ?_)
      refine GW.iload_n (pc' := 9) dX8_voice_8 rfl rfl ?_
      refine GW.iconst (pc' := 10) (v := 4) dX8_voice_9 rfl (by decide) ?_
      refine GW.callS (pc' := 13) (av := [.int v2, .int 4]) (rest := []) dX8_voice_10 rfl mk_X8_isWithin lk_X8_66 sk_X8_isWithin rfl rfl (Nat.le_of_ble_eq_true rfl) (bk_i (MI.intro (lv := [(0, .int v2), (1, .int 4)]) mk_X8_isWithin.2.2.2.2 (Nat.le_of_ble_eq_true rfl) rfl ?_))
      refine GW.iload_n (pc' := 1) dX8_isWithin_0 rfl rfl ?_
      refine GW.iflt (pc' := 4) (tgt := 13) dX8_isWithin_1 rfl (by decide) (ite_i (fun c3 => ?_) (fun c3 => ?_))
      · replace h := ite_t h c3
        refine GW.iconst (pc' := 14) (v := 0) dX8_isWithin_13 rfl (by decide) ?_
        refine GW.zret dX8_isWithin_14 rfl (by decide) ⟨_, rfl, ?_⟩
        refine GW.ifne (pc' := 16) (tgt := 22) dX8_voice_13 rfl (by decide) (ite_p (by decide) ?_)
        refine GW.aload_n (pc' := 17) dX8_voice_16 rfl rfl ?_
        refine GW.iconst (pc' := 18) (v := 1) dX8_voice_17 rfl (by decide) ?_
        refine GW.callV (pc' := 21) (k := 0) (av := [.int 1]) (rest := []) dX8_voice_18 rfl mk_X8_error lk_X8_48 vk_X8_error ko_0 rfl rfl (Nat.le_of_ble_eq_true rfl) (bk_i (MI.intro (lv := [(0, .ref 0), (1, .int 1)]) mk_X8_error.2.2.2.2 (Nat.le_of_ble_eq_true rfl) rfl ?_))
        refine GW.aload_n (pc' := 1) dX8_error_0 rfl rfl ?_
        refine GW.getR (pc' := 4) (t := 6) dX8_error_1 rfl fk_X8_39 rfl (by decide) rfl rfl ?_
        refine GW.iload_n (pc' := 5) dX8_error_4 rfl rfl ?_
        refine GW.dup2 (pc' := 6) dX8_error_5 rfl rfl rfl ?_
        refine GW.iaload (pc' := 7) (j := 1) dX8_error_6 rfl rfl (vin (by decide)) (by decide) ?_
        refine GW.iconst (pc' := 8) (v := 1) dX8_error_7 rfl (by decide) ?_
        refine GW.iadd (pc' := 9) dX8_error_8 rfl ?_
        refine GW.iastore (pc' := 10) (j := 1) dX8_error_9 rfl rfl (vin (by decide)) (by decide) ?_
        refine GW.ldcw (pc' := 13) (v := (-1000000000)) dX8_error_10 rfl ck_X8_310 ?_
        refine GW.iload_n (pc' := 14) dX8_error_13 rfl rfl ?_
        refine GW.isub (pc' := 15) dX8_error_14 rfl ?_
        refine GW.iret dX8_error_15 rfl ⟨_, rfl, ?_⟩
        refine GW.iret dX8_voice_21 rfl ⟨_, rfl, ?_⟩
        exact h
      · replace h := ite_f h c3
        refine GW.iload_n (pc' := 5) dX8_isWithin_4 rfl rfl ?_
        refine GW.iload_n (pc' := 6) dX8_isWithin_5 rfl rfl ?_
        refine GW.if_icmpge (pc' := 9) (tgt := 13) dX8_isWithin_6 rfl (by decide) (ite_i (fun c4 => ?_) (fun c4 => ?_))
        · replace h := ite_t h c4
          refine GW.iconst (pc' := 10) (v := 1) dX8_isWithin_9 rfl (by decide) ?_
          refine GW.goto (tgt := 14) dX8_isWithin_10 (by decide) ?_
          refine GW.zret dX8_isWithin_14 rfl (by decide) ⟨_, rfl, ?_⟩
          refine GW.ifne (pc' := 16) (tgt := 22) dX8_voice_13 rfl (by decide) (ite_n (by decide) ?_)
          refine GW.aload_n (pc' := 23) dX8_voice_22 rfl rfl ?_
          refine GW.getR (pc' := 26) (t := 4) dX8_voice_23 rfl fk_X8_29 rfl (by decide) rfl rfl ?_
          refine GW.iload_n (pc' := 27) dX8_voice_26 rfl rfl ?_
          refine GW.aload_n (pc' := 28) dX8_voice_27 rfl rfl ?_
          refine GW.getR (pc' := 31) (t := 1) dX8_voice_28 rfl fk_X8_12 rfl (by decide) rfl rfl ?_
          refine GW.getR (pc' := 34) (t := 20) dX8_voice_31 rfl fk_X8_99 rfl (by decide) rfl rfl ?_
          refine GW.iload_n (pc' := 35) dX8_voice_34 rfl rfl ?_
          refine GW.iload_n (pc' := 36) dX8_voice_35 rfl rfl ?_
          refine GW.callV (pc' := 39) (k := 4) (av := [.int v1, .ref 20, .int v2, .int v3]) (rest := []) dX8_voice_36 rfl mk_X0_sing lk_X8_247 vk_X0_sing ko_4 rfl rfl (Nat.le_of_ble_eq_true rfl) (bk_i (MI.mono h (fun r5 M6 h => ?_)))
          refine GW.istore (pc' := 41) (lv' := [(0, .ref 0), (1, .int v1), (2, .int v2), (3, .int v3), (4, .int r5)]) dX8_voice_39 rfl rfl (by decide) rfl ?_
          refine GW.aload_n (pc' := 42) dX8_voice_41 rfl rfl ?_
          refine GW.getR (pc' := 45) (t := 4) dX8_voice_42 rfl fk_X8_29 rfl (by decide) rfl rfl ?_
          refine GW.getI (pc' := 48) dX8_voice_45 rfl fk_X8_251 rfl (by decide) rfl rfl ?_
          refine GW.ifeq (pc' := 51) (tgt := 60) dX8_voice_48 rfl (by decide) (ite_i (fun c7 => ?_) (fun c7 => ?_))
          · replace h := ite_t h c7
            refine GW.iload (pc' := 62) dX8_voice_60 rfl rfl ?_
            refine GW.iret dX8_voice_62 rfl ⟨_, rfl, ?_⟩
            exact h
          · replace h := ite_f h c7
            refine GW.aload_n (pc' := 52) dX8_voice_51 rfl rfl ?_
            refine GW.bipush (pc' := 54) (v := 6) dX8_voice_52 rfl (by decide) ?_
            refine GW.callV (pc' := 57) (k := 0) (av := [.int 6]) (rest := []) dX8_voice_54 rfl mk_X8_error lk_X8_48 vk_X8_error ko_0 rfl rfl (Nat.le_of_ble_eq_true rfl) (bk_i (MI.intro (lv := [(0, .ref 0), (1, .int 6)]) mk_X8_error.2.2.2.2 (Nat.le_of_ble_eq_true rfl) rfl ?_))
            refine GW.aload_n (pc' := 1) dX8_error_0 rfl rfl ?_
            refine GW.getR (pc' := 4) (t := 6) dX8_error_1 rfl fk_X8_39 rfl (by decide) rfl rfl ?_
            refine GW.iload_n (pc' := 5) dX8_error_4 rfl rfl ?_
            refine GW.dup2 (pc' := 6) dX8_error_5 rfl rfl rfl ?_
            refine GW.iaload (pc' := 7) (j := 6) dX8_error_6 rfl rfl (vin (by decide)) (by decide) ?_
            refine GW.iconst (pc' := 8) (v := 1) dX8_error_7 rfl (by decide) ?_
            refine GW.iadd (pc' := 9) dX8_error_8 rfl ?_
            refine GW.iastore (pc' := 10) (j := 6) dX8_error_9 rfl rfl (vin (by decide)) (by decide) ?_
            refine GW.ldcw (pc' := 13) (v := (-1000000000)) dX8_error_10 rfl ck_X8_310 ?_
            refine GW.iload_n (pc' := 14) dX8_error_13 rfl rfl ?_
            refine GW.isub (pc' := 15) dX8_error_14 rfl ?_
            refine GW.iret dX8_error_15 rfl ⟨_, rfl, ?_⟩
            refine GW.goto (tgt := 62) dX8_voice_57 (by decide) ?_
            refine GW.iret dX8_voice_62 rfl ⟨_, rfl, ?_⟩
            exact h
        · replace h := ite_f h c4
          refine GW.iconst (pc' := 14) (v := 0) dX8_isWithin_13 rfl (by decide) ?_
          refine GW.zret dX8_isWithin_14 rfl (by decide) ⟨_, rfl, ?_⟩
          refine GW.ifne (pc' := 16) (tgt := 22) dX8_voice_13 rfl (by decide) (ite_p (by decide) ?_)
          refine GW.aload_n (pc' := 17) dX8_voice_16 rfl rfl ?_
          refine GW.iconst (pc' := 18) (v := 1) dX8_voice_17 rfl (by decide) ?_
          refine GW.callV (pc' := 21) (k := 0) (av := [.int 1]) (rest := []) dX8_voice_18 rfl mk_X8_error lk_X8_48 vk_X8_error ko_0 rfl rfl (Nat.le_of_ble_eq_true rfl) (bk_i (MI.intro (lv := [(0, .ref 0), (1, .int 1)]) mk_X8_error.2.2.2.2 (Nat.le_of_ble_eq_true rfl) rfl ?_))
          refine GW.aload_n (pc' := 1) dX8_error_0 rfl rfl ?_
          refine GW.getR (pc' := 4) (t := 6) dX8_error_1 rfl fk_X8_39 rfl (by decide) rfl rfl ?_
          refine GW.iload_n (pc' := 5) dX8_error_4 rfl rfl ?_
          refine GW.dup2 (pc' := 6) dX8_error_5 rfl rfl rfl ?_
          refine GW.iaload (pc' := 7) (j := 1) dX8_error_6 rfl rfl (vin (by decide)) (by decide) ?_
          refine GW.iconst (pc' := 8) (v := 1) dX8_error_7 rfl (by decide) ?_
          refine GW.iadd (pc' := 9) dX8_error_8 rfl ?_
          refine GW.iastore (pc' := 10) (j := 1) dX8_error_9 rfl rfl (vin (by decide)) (by decide) ?_
          refine GW.ldcw (pc' := 13) (v := (-1000000000)) dX8_error_10 rfl ck_X8_310 ?_
          refine GW.iload_n (pc' := 14) dX8_error_13 rfl rfl ?_
          refine GW.isub (pc' := 15) dX8_error_14 rfl ?_
          refine GW.iret dX8_error_15 rfl ⟨_, rfl, ?_⟩
          refine GW.iret dX8_voice_21 rfl ⟨_, rfl, ?_⟩
          exact h
    · replace h := ite_f h c2
      refine GW.iconst (pc' := 14) (v := 0) dX8_isWithin_13 rfl (by decide) ?_
      refine GW.zret dX8_isWithin_14 rfl (by decide) ⟨_, rfl, ?_⟩
      refine GW.zret dX8_isThing_14 rfl (by decide) ⟨_, rfl, ?_⟩
      refine GW.ifeq (pc' := 8) (tgt := 16) dX8_voice_5 rfl (by decide) (ite_p (by decide) ?_)
      refine GW.aload_n (pc' := 17) dX8_voice_16 rfl rfl ?_
      refine GW.iconst (pc' := 18) (v := 1) dX8_voice_17 rfl (by decide) ?_
      refine GW.callV (pc' := 21) (k := 0) (av := [.int 1]) (rest := []) dX8_voice_18 rfl mk_X8_error lk_X8_48 vk_X8_error ko_0 rfl rfl (Nat.le_of_ble_eq_true rfl) (bk_i (MI.intro (lv := [(0, .ref 0), (1, .int 1)]) mk_X8_error.2.2.2.2 (Nat.le_of_ble_eq_true rfl) rfl ?_))
      refine GW.aload_n (pc' := 1) dX8_error_0 rfl rfl ?_
      refine GW.getR (pc' := 4) (t := 6) dX8_error_1 rfl fk_X8_39 rfl (by decide) rfl rfl ?_
      refine GW.iload_n (pc' := 5) dX8_error_4 rfl rfl ?_
      refine GW.dup2 (pc' := 6) dX8_error_5 rfl rfl rfl ?_
      refine GW.iaload (pc' := 7) (j := 1) dX8_error_6 rfl rfl (vin (by decide)) (by decide) ?_
      refine GW.iconst (pc' := 8) (v := 1) dX8_error_7 rfl (by decide) ?_
      refine GW.iadd (pc' := 9) dX8_error_8 rfl ?_
      refine GW.iastore (pc' := 10) (j := 1) dX8_error_9 rfl rfl (vin (by decide)) (by decide) ?_
      refine GW.ldcw (pc' := 13) (v := (-1000000000)) dX8_error_10 rfl ck_X8_310 ?_
      refine GW.iload_n (pc' := 14) dX8_error_13 rfl rfl ?_
      refine GW.isub (pc' := 15) dX8_error_14 rfl ?_
      refine GW.iret dX8_error_15 rfl ⟨_, rfl, ?_⟩
      refine GW.iret dX8_voice_21 rfl ⟨_, rfl, ?_⟩
      exact h

set_option maxRecDepth 100000 in
set_option maxHeartbeats 4000000 in
theorem wp_X9_feed_64 (xs : gX) (d : Nat) (v1 : Int64) (v3 : Int32) (M : Mem) (Q : Int32 → Mem → Prop) (h : (if v3 < 1 then Q ((-1000000000) - 1) (mw M 67 1 ((M.1 67 1) + 1)) else (if 8 < v3 then Q ((-1000000000) - 1) (mw M 67 1 ((M.1 67 1) + 1)) else (if 60 < ((M.1 65 6) + v3) then Q ((-1000000000) - 4) (mw M 67 4 ((M.1 67 4) + 1)) else GW xs (d + 1) mX9_feed 39 [(0, .ref 64), (1, .long v1), (3, .int v3), (4, .int 0)] [] M (QI Q))))) : MI xs (d + 1) mX9_feed [.ref 64, .long v1, .int v3] M Q := by
  refine MI.intro (lv := [(0, .ref 64), (1, .long v1), (3, .int v3)]) mk_X9_feed.2.2.2.2 (Nat.le_of_ble_eq_true rfl) rfl ?_
  refine GW.iload_n (pc' := 1) dX9_feed_0 rfl rfl ?_
  refine GW.iconst (pc' := 2) (v := 1) dX9_feed_1 rfl (by decide) ?_
  refine GW.bipush (pc' := 4) (v := 8) dX9_feed_2 rfl (by decide) ?_
  refine GW.callS (pc' := 7) (av := [.int v3, .int 1, .int 8]) (rest := []) dX9_feed_4 rfl mk_X9_in lk_X9_63 sk_X9_in rfl rfl (Nat.le_of_ble_eq_true rfl) (bk_i (MI.intro (lv := [(0, .int v3), (1, .int 1), (2, .int 8)]) mk_X9_in.2.2.2.2 (Nat.le_of_ble_eq_true rfl) rfl ?_))
  refine GW.iload_n (pc' := 1) dX9_in_0 rfl rfl ?_
  refine GW.iload_n (pc' := 2) dX9_in_1 rfl rfl ?_
  refine GW.if_icmplt (pc' := 5) (tgt := 14) dX9_in_2 rfl (by decide) (ite_i (fun c1 => ?_) (fun c1 => ?_))
  · replace h := ite_t h c1
    refine GW.iconst (pc' := 15) (v := 0) dX9_in_14 rfl (by decide) ?_
    refine GW.zret dX9_in_15 rfl (by decide) ⟨_, rfl, ?_⟩
    refine GW.ifne (pc' := 10) (tgt := 16) dX9_feed_7 rfl (by decide) (ite_p (by decide) ?_)
    refine GW.aload_n (pc' := 11) dX9_feed_10 rfl rfl ?_
    refine GW.iconst (pc' := 12) (v := 1) dX9_feed_11 rfl (by decide) ?_
    refine GW.callV (pc' := 15) (k := 64) (av := [.int 1]) (rest := []) dX9_feed_12 rfl mk_X9_error lk_X9_83 vk_X9_error ko_64 rfl rfl (Nat.le_of_ble_eq_true rfl) (bk_i (MI.intro (lv := [(0, .ref 64), (1, .int 1)]) mk_X9_error.2.2.2.2 (Nat.le_of_ble_eq_true rfl) rfl ?_))
    refine GW.aload_n (pc' := 1) dX9_error_0 rfl rfl ?_
    refine GW.getR (pc' := 4) (t := 67) dX9_error_1 rfl fk_X9_16 rfl (by decide) rfl rfl ?_
    refine GW.iload_n (pc' := 5) dX9_error_4 rfl rfl ?_
    refine GW.dup2 (pc' := 6) dX9_error_5 rfl rfl rfl ?_
    refine GW.iaload (pc' := 7) (j := 1) dX9_error_6 rfl rfl (vin (by decide)) (by decide) ?_
    refine GW.iconst (pc' := 8) (v := 1) dX9_error_7 rfl (by decide) ?_
    refine GW.iadd (pc' := 9) dX9_error_8 rfl ?_
    refine GW.iastore (pc' := 10) (j := 1) dX9_error_9 rfl rfl (vin (by decide)) (by decide) ?_
    refine GW.ldc (pc' := 12) (v := (-1000000000)) dX9_error_10 rfl ck_X9_62 ?_
    refine GW.iload_n (pc' := 13) dX9_error_12 rfl rfl ?_
    refine GW.isub (pc' := 14) dX9_error_13 rfl ?_
    refine GW.iret dX9_error_14 rfl ⟨_, rfl, ?_⟩
    refine GW.iret dX9_feed_15 rfl ⟨_, rfl, ?_⟩
    exact h
  · replace h := ite_f h c1
    refine GW.iload_n (pc' := 6) dX9_in_5 rfl rfl ?_
    refine GW.iload_n (pc' := 7) dX9_in_6 rfl rfl ?_
    refine GW.if_icmpgt (pc' := 10) (tgt := 14) dX9_in_7 rfl (by decide) (ite_i (fun c2 => ?_) (fun c2 => ?_))
    · replace h := ite_t h c2
      refine GW.iconst (pc' := 15) (v := 0) dX9_in_14 rfl (by decide) ?_
      refine GW.zret dX9_in_15 rfl (by decide) ⟨_, rfl, ?_⟩
      refine GW.ifne (pc' := 10) (tgt := 16) dX9_feed_7 rfl (by decide) (ite_p (by decide) ?_)
      refine GW.aload_n (pc' := 11) dX9_feed_10 rfl rfl ?_
      refine GW.iconst (pc' := 12) (v := 1) dX9_feed_11 rfl (by decide) ?_
      refine GW.callV (pc' := 15) (k := 64) (av := [.int 1]) (rest := []) dX9_feed_12 rfl mk_X9_error lk_X9_83 vk_X9_error ko_64 rfl rfl (Nat.le_of_ble_eq_true rfl) (bk_i (MI.intro (lv := [(0, .ref 64), (1, .int 1)]) mk_X9_error.2.2.2.2 (Nat.le_of_ble_eq_true rfl) rfl ?_))
      refine GW.aload_n (pc' := 1) dX9_error_0 rfl rfl ?_
      refine GW.getR (pc' := 4) (t := 67) dX9_error_1 rfl fk_X9_16 rfl (by decide) rfl rfl ?_
      refine GW.iload_n (pc' := 5) dX9_error_4 rfl rfl ?_
      refine GW.dup2 (pc' := 6) dX9_error_5 rfl rfl rfl ?_
      refine GW.iaload (pc' := 7) (j := 1) dX9_error_6 rfl rfl (vin (by decide)) (by decide) ?_
      refine GW.iconst (pc' := 8) (v := 1) dX9_error_7 rfl (by decide) ?_
      refine GW.iadd (pc' := 9) dX9_error_8 rfl ?_
      refine GW.iastore (pc' := 10) (j := 1) dX9_error_9 rfl rfl (vin (by decide)) (by decide) ?_
      refine GW.ldc (pc' := 12) (v := (-1000000000)) dX9_error_10 rfl ck_X9_62 ?_
      refine GW.iload_n (pc' := 13) dX9_error_12 rfl rfl ?_
      refine GW.isub (pc' := 14) dX9_error_13 rfl ?_
      refine GW.iret dX9_error_14 rfl ⟨_, rfl, ?_⟩
      refine GW.iret dX9_feed_15 rfl ⟨_, rfl, ?_⟩
      exact h
    · replace h := ite_f h c2
      refine GW.iconst (pc' := 11) (v := 1) dX9_in_10 rfl (by decide) ?_
      refine GW.goto (tgt := 15) dX9_in_11 (by decide) ?_
      refine GW.zret dX9_in_15 rfl (by decide) ⟨_, rfl, ?_⟩
      refine GW.ifne (pc' := 10) (tgt := 16) dX9_feed_7 rfl (by decide) (ite_n (by decide) ?_)
      refine GW.aload_n (pc' := 17) dX9_feed_16 rfl rfl ?_
      refine GW.getR (pc' := 20) (t := 65) dX9_feed_17 rfl fk_X9_7 rfl (by decide) rfl rfl ?_
      refine GW.bipush (pc' := 22) (v := 6) dX9_feed_20 rfl (by decide) ?_
      refine GW.iaload (pc' := 23) (j := 6) dX9_feed_22 rfl rfl (vin (by decide)) (by decide) ?_
      refine GW.iload_n (pc' := 24) dX9_feed_23 rfl rfl ?_
      refine GW.iadd (pc' := 25) dX9_feed_24 rfl ?_
      refine GW.bipush (pc' := 27) (v := 60) dX9_feed_25 rfl (by decide) ?_
      refine GW.if_icmple (pc' := 30) (tgt := 36) dX9_feed_27 rfl (by decide) (ite_i (fun c3 => ?_) (fun c3 => ?_))
      · replace h := ite_t h c3
        refine GW.aload_n (pc' := 31) dX9_feed_30 rfl rfl ?_
        refine GW.iconst (pc' := 32) (v := 4) dX9_feed_31 rfl (by decide) ?_
        refine GW.callV (pc' := 35) (k := 64) (av := [.int 4]) (rest := []) dX9_feed_32 rfl mk_X9_error lk_X9_83 vk_X9_error ko_64 rfl rfl (Nat.le_of_ble_eq_true rfl) (bk_i (MI.intro (lv := [(0, .ref 64), (1, .int 4)]) mk_X9_error.2.2.2.2 (Nat.le_of_ble_eq_true rfl) rfl ?_))
        refine GW.aload_n (pc' := 1) dX9_error_0 rfl rfl ?_
        refine GW.getR (pc' := 4) (t := 67) dX9_error_1 rfl fk_X9_16 rfl (by decide) rfl rfl ?_
        refine GW.iload_n (pc' := 5) dX9_error_4 rfl rfl ?_
        refine GW.dup2 (pc' := 6) dX9_error_5 rfl rfl rfl ?_
        refine GW.iaload (pc' := 7) (j := 4) dX9_error_6 rfl rfl (vin (by decide)) (by decide) ?_
        refine GW.iconst (pc' := 8) (v := 1) dX9_error_7 rfl (by decide) ?_
        refine GW.iadd (pc' := 9) dX9_error_8 rfl ?_
        refine GW.iastore (pc' := 10) (j := 4) dX9_error_9 rfl rfl (vin (by decide)) (by decide) ?_
        refine GW.ldc (pc' := 12) (v := (-1000000000)) dX9_error_10 rfl ck_X9_62 ?_
        refine GW.iload_n (pc' := 13) dX9_error_12 rfl rfl ?_
        refine GW.isub (pc' := 14) dX9_error_13 rfl ?_
        refine GW.iret dX9_error_14 rfl ⟨_, rfl, ?_⟩
        refine GW.iret dX9_feed_35 rfl ⟨_, rfl, ?_⟩
        exact h
      · replace h := ite_f h c3
        refine GW.iconst (pc' := 37) (v := 0) dX9_feed_36 rfl (by decide) ?_
        refine GW.istore (pc' := 39) (lv' := [(0, .ref 64), (1, .long v1), (3, .int v3), (4, .int 0)]) dX9_feed_37 rfl rfl (by decide) rfl ?_
        exact h
set_option maxRecDepth 100000 in
set_option maxHeartbeats 4000000 in
theorem wp_X9_feed_64_L39 (xs : gX) (d : Nat) (v1 : Int64) (v3 : Int32) (v4 : Int32) (M : Mem) (Q : Int32 → Mem → Prop) (h : (if v4 < v3 then (vp_in (334 + (M.1 65 6)) 418 ∧ GW xs (d + 1) mX9_feed 39 [(0, .ref 64), (1, .long v1), (3, .int v3), (4, .int (v4 + 1))] [] (mw (mw M 65 ((334 + (M.1 65 6))).toNatClampNeg (((v1 >>> (((8 * v4) : Int32).toInt64 &&& 63)) &&& 255).toInt32)) 65 6 (((mw M 65 ((334 + (M.1 65 6))).toNatClampNeg (((v1 >>> (((8 * v4) : Int32).toInt64 &&& 63)) &&& 255).toInt32)).1 65 6) + 1)) (QI Q)) else Q (M.1 65 6) M)) : GW xs (d + 1) mX9_feed 39 [(0, .ref 64), (1, .long v1), (3, .int v3), (4, .int v4)] [] M (QI Q) := by
  refine GW.iload (pc' := 41) dX9_feed_39 rfl rfl ?_
  refine GW.iload_n (pc' := 42) dX9_feed_41 rfl rfl ?_
  refine GW.if_icmpge (pc' := 45) (tgt := 90) dX9_feed_42 rfl (by decide) (ite_i (fun c1 => ?_) (fun c1 => ?_))
  · replace h := ite_t h c1
    refine GW.aload_n (pc' := 46) dX9_feed_45 rfl rfl ?_
    refine GW.getR (pc' := 49) (t := 65) dX9_feed_46 rfl fk_X9_7 rfl (by decide) rfl rfl ?_
    refine GW.sipush (pc' := 52) (v := 334) dX9_feed_49 rfl (by decide) ?_
    refine GW.aload_n (pc' := 53) dX9_feed_52 rfl rfl ?_
    refine GW.getR (pc' := 56) (t := 65) dX9_feed_53 rfl fk_X9_7 rfl (by decide) rfl rfl ?_
    refine GW.bipush (pc' := 58) (v := 6) dX9_feed_56 rfl (by decide) ?_
    refine GW.iaload (pc' := 59) (j := 6) dX9_feed_58 rfl rfl (vin (by decide)) (by decide) ?_
    refine GW.iadd (pc' := 60) dX9_feed_59 rfl ?_
    refine GW.lload_n (pc' := 61) dX9_feed_60 rfl rfl ?_
    refine GW.bipush (pc' := 63) (v := 8) dX9_feed_61 rfl (by decide) ?_
    refine GW.iload (pc' := 65) dX9_feed_63 rfl rfl ?_
    refine GW.imul (pc' := 66) dX9_feed_65 rfl ?_
    refine GW.lshr (pc' := 67) dX9_feed_66 rfl ?_
    refine GW.ldc2 (pc' := 70) (v := 255) dX9_feed_67 rfl ck_X9_104 ?_
    refine GW.land (pc' := 71) dX9_feed_70 rfl ?_
    refine GW.l2i (pc' := 72) dX9_feed_71 rfl ?_
    obtain ⟨b2, h⟩ := h
    refine GW.iastore (pc' := 73) (j := ((334 + (M.1 65 6))).toNatClampNeg) dX9_feed_72 rfl rfl b2 rfl ?_
    refine GW.aload_n (pc' := 74) dX9_feed_73 rfl rfl ?_
    refine GW.getR (pc' := 77) (t := 65) dX9_feed_74 rfl fk_X9_7 rfl (by decide) rfl rfl ?_
    refine GW.bipush (pc' := 79) (v := 6) dX9_feed_77 rfl (by decide) ?_
    refine GW.dup2 (pc' := 80) dX9_feed_79 rfl rfl rfl ?_
    refine GW.iaload (pc' := 81) (j := 6) dX9_feed_80 rfl rfl (vin (by decide)) (by decide) ?_
    refine GW.iconst (pc' := 82) (v := 1) dX9_feed_81 rfl (by decide) ?_
    refine GW.iadd (pc' := 83) dX9_feed_82 rfl ?_
    refine GW.iastore (pc' := 84) (j := 6) dX9_feed_83 rfl rfl (vin (by decide)) (by decide) ?_
    refine GW.iinc (pc' := 87) (lv' := [(0, .ref 64), (1, .long v1), (3, .int v3), (4, .int (v4 + 1))]) (v := (v4 + 1)) dX9_feed_84 rfl rfl (by decide) rfl rfl rfl ?_
    refine GW.goto (tgt := 39) dX9_feed_87 (by decide) ?_
    exact h
  · replace h := ite_f h c1
    refine GW.aload_n (pc' := 91) dX9_feed_90 rfl rfl ?_
    refine GW.getR (pc' := 94) (t := 65) dX9_feed_91 rfl fk_X9_7 rfl (by decide) rfl rfl ?_
    refine GW.bipush (pc' := 96) (v := 6) dX9_feed_94 rfl (by decide) ?_
    refine GW.iaload (pc' := 97) (j := 6) dX9_feed_96 rfl rfl (vin (by decide)) (by decide) ?_
    refine GW.iret dX9_feed_97 rfl ⟨_, rfl, ?_⟩
    exact h

set_option maxRecDepth 100000 in
set_option maxHeartbeats 4000000 in
theorem wp_X9_has_64 (xs : gX) (d : Nat) (v1 : Int32) (v2 : Int32) (v3 : Int32) (M : Mem) (Q : Int32 → Mem → Prop) (h : GW xs (d + 1) mX9_has 6 [(0, .ref 64), (1, .int v1), (2, .int v2), (3, .int v3), (4, .int 0), (5, .int 0)] [] M (QI Q)) : MI xs (d + 1) mX9_has [.ref 64, .int v1, .int v2, .int v3] M Q := by
  refine MI.intro (lv := [(0, .ref 64), (1, .int v1), (2, .int v2), (3, .int v3)]) mk_X9_has.2.2.2.2 (Nat.le_of_ble_eq_true rfl) rfl ?_
  refine GW.iconst (pc' := 1) (v := 0) dX9_has_0 rfl (by decide) ?_
  refine GW.istore (pc' := 3) (lv' := [(0, .ref 64), (1, .int v1), (2, .int v2), (3, .int v3), (4, .int 0)]) dX9_has_1 rfl rfl (by decide) rfl ?_
  refine GW.iconst (pc' := 4) (v := 0) dX9_has_3 rfl (by decide) ?_
  refine GW.istore (pc' := 6) (lv' := [(0, .ref 64), (1, .int v1), (2, .int v2), (3, .int v3), (4, .int 0), (5, .int 0)]) dX9_has_4 rfl rfl (by decide) rfl ?_
  exact h
set_option maxRecDepth 100000 in
set_option maxHeartbeats 4000000 in
theorem wp_X9_has_64_L6 (xs : gX) (d : Nat) (v1 : Int32) (v2 : Int32) (v3 : Int32) (v4 : Int32) (v5 : Int32) (M : Mem) (Q : Int32 → Mem → Prop) (h : (if v5 < (M.1 65 0) then (if v4 = 0 then (vp_in ((10 + (3 * v5)) + 0) 418 ∧ (if (M.1 65 (((10 + (3 * v5)) + 0)).toNatClampNeg) = v2 then (vp_in ((10 + (3 * v5)) + v3) 418 ∧ (if (M.1 65 (((10 + (3 * v5)) + v3)).toNatClampNeg) = v1 then GW xs (d + 1) mX9_has 6 [(0, .ref 64), (1, .int v1), (2, .int v2), (3, .int v3), (4, .int 1), (5, .int (v5 + 1))] [] M (QI Q) else GW xs (d + 1) mX9_has 6 [(0, .ref 64), (1, .int v1), (2, .int v2), (3, .int v3), (4, .int 0), (5, .int (v5 + 1))] [] M (QI Q))) else GW xs (d + 1) mX9_has 6 [(0, .ref 64), (1, .int v1), (2, .int v2), (3, .int v3), (4, .int 0), (5, .int (v5 + 1))] [] M (QI Q))) else GW xs (d + 1) mX9_has 6 [(0, .ref 64), (1, .int v1), (2, .int v2), (3, .int v3), (4, .int 1), (5, .int (v5 + 1))] [] M (QI Q)) else ((v4 = 0 ∨ v4 = 1) ∧ Q v4 M))) : GW xs (d + 1) mX9_has 6 [(0, .ref 64), (1, .int v1), (2, .int v2), (3, .int v3), (4, .int v4), (5, .int v5)] [] M (QI Q) := by
  refine GW.iload (pc' := 8) dX9_has_6 rfl rfl ?_
  refine GW.aload_n (pc' := 9) dX9_has_8 rfl rfl ?_
  refine GW.getR (pc' := 12) (t := 65) dX9_has_9 rfl fk_X9_7 rfl (by decide) rfl rfl ?_
  refine GW.iconst (pc' := 13) (v := 0) dX9_has_12 rfl (by decide) ?_
  refine GW.iaload (pc' := 14) (j := 0) dX9_has_13 rfl rfl (vin (by decide)) (by decide) ?_
  refine GW.if_icmpge (pc' := 17) (tgt := 57) dX9_has_14 rfl (by decide) (ite_i (fun c1 => ?_) (fun c1 => ?_))
  · replace h := ite_t h c1
    refine GW.iload (pc' := 19) dX9_has_17 rfl rfl ?_
    refine GW.ifne (pc' := 22) (tgt := 44) dX9_has_19 rfl (by decide) (ite_i (fun c2 => ?_) (fun c2 => ?_))
    · replace h := ite_t h c2
      refine GW.aload_n (pc' := 23) dX9_has_22 rfl rfl ?_
      refine GW.iload (pc' := 25) dX9_has_23 rfl rfl ?_
      refine GW.iconst (pc' := 26) (v := 0) dX9_has_25 rfl (by decide) ?_
      refine GW.callV (pc' := 29) (k := 64) (av := [.int v5, .int 0]) (rest := []) dX9_has_26 rfl mk_X9_of lk_X9_68 vk_X9_of ko_64 rfl rfl (Nat.le_of_ble_eq_true rfl) (bk_i (MI.intro (lv := [(0, .ref 64), (1, .int v5), (2, .int 0)]) mk_X9_of.2.2.2.2 (Nat.le_of_ble_eq_true rfl) rfl ?_))
      refine GW.aload_n (pc' := 1) dX9_of_0 rfl rfl ?_
      refine GW.getR (pc' := 4) (t := 65) dX9_of_1 rfl fk_X9_7 rfl (by decide) rfl rfl ?_
      refine GW.bipush (pc' := 6) (v := 10) dX9_of_4 rfl (by decide) ?_
      refine GW.iconst (pc' := 7) (v := 3) dX9_of_6 rfl (by decide) ?_
      refine GW.iload_n (pc' := 8) dX9_of_7 rfl rfl ?_
      refine GW.imul (pc' := 9) dX9_of_8 rfl ?_
      refine GW.iadd (pc' := 10) dX9_of_9 rfl ?_
      refine GW.iload_n (pc' := 11) dX9_of_10 rfl rfl ?_
      refine GW.iadd (pc' := 12) dX9_of_11 rfl ?_
      obtain ⟨b3, h⟩ := h
      refine GW.iaload (pc' := 13) (j := (((10 + (3 * v5)) + 0)).toNatClampNeg) dX9_of_12 rfl rfl b3 rfl ?_
      refine GW.iret dX9_of_13 rfl ⟨_, rfl, ?_⟩
      refine GW.iload_n (pc' := 30) dX9_has_29 rfl rfl ?_
      refine GW.if_icmpne (pc' := 33) (tgt := 48) dX9_has_30 rfl (by decide) (ite_i (fun c4 => ?_) (fun c4 => ?_))
      · replace h := ite_t h c4
        refine GW.aload_n (pc' := 34) dX9_has_33 rfl rfl ?_
        refine GW.iload (pc' := 36) dX9_has_34 rfl rfl ?_
        refine GW.iload_n (pc' := 37) dX9_has_36 rfl rfl ?_
        refine GW.callV (pc' := 40) (k := 64) (av := [.int v5, .int v3]) (rest := []) dX9_has_37 rfl mk_X9_of lk_X9_68 vk_X9_of ko_64 rfl rfl (Nat.le_of_ble_eq_true rfl) (bk_i (MI.intro (lv := [(0, .ref 64), (1, .int v5), (2, .int v3)]) mk_X9_of.2.2.2.2 (Nat.le_of_ble_eq_true rfl) rfl ?_))
        refine GW.aload_n (pc' := 1) dX9_of_0 rfl rfl ?_
        refine GW.getR (pc' := 4) (t := 65) dX9_of_1 rfl fk_X9_7 rfl (by decide) rfl rfl ?_
        refine GW.bipush (pc' := 6) (v := 10) dX9_of_4 rfl (by decide) ?_
        refine GW.iconst (pc' := 7) (v := 3) dX9_of_6 rfl (by decide) ?_
        refine GW.iload_n (pc' := 8) dX9_of_7 rfl rfl ?_
        refine GW.imul (pc' := 9) dX9_of_8 rfl ?_
        refine GW.iadd (pc' := 10) dX9_of_9 rfl ?_
        refine GW.iload_n (pc' := 11) dX9_of_10 rfl rfl ?_
        refine GW.iadd (pc' := 12) dX9_of_11 rfl ?_
        obtain ⟨b5, h⟩ := h
        refine GW.iaload (pc' := 13) (j := (((10 + (3 * v5)) + v3)).toNatClampNeg) dX9_of_12 rfl rfl b5 rfl ?_
        refine GW.iret dX9_of_13 rfl ⟨_, rfl, ?_⟩
        refine GW.iload_n (pc' := 41) dX9_has_40 rfl rfl ?_
        refine GW.if_icmpne (pc' := 44) (tgt := 48) dX9_has_41 rfl (by decide) (ite_i (fun c6 => ?_) (fun c6 => ?_))
        · replace h := ite_t h c6
          refine GW.iconst (pc' := 45) (v := 1) dX9_has_44 rfl (by decide) ?_
          refine GW.goto (tgt := 49) dX9_has_45 (by decide) ?_
          refine GW.istore (pc' := 51) (lv' := [(0, .ref 64), (1, .int v1), (2, .int v2), (3, .int v3), (4, .int 1), (5, .int v5)]) dX9_has_49 rfl rfl (by decide) rfl ?_
          refine GW.iinc (pc' := 54) (lv' := [(0, .ref 64), (1, .int v1), (2, .int v2), (3, .int v3), (4, .int 1), (5, .int (v5 + 1))]) (v := (v5 + 1)) dX9_has_51 rfl rfl (by decide) rfl rfl rfl ?_
          refine GW.goto (tgt := 6) dX9_has_54 (by decide) ?_
          exact h
        · replace h := ite_f h c6
          refine GW.iconst (pc' := 49) (v := 0) dX9_has_48 rfl (by decide) ?_
          refine GW.istore (pc' := 51) (lv' := [(0, .ref 64), (1, .int v1), (2, .int v2), (3, .int v3), (4, .int 0), (5, .int v5)]) dX9_has_49 rfl rfl (by decide) rfl ?_
          refine GW.iinc (pc' := 54) (lv' := [(0, .ref 64), (1, .int v1), (2, .int v2), (3, .int v3), (4, .int 0), (5, .int (v5 + 1))]) (v := (v5 + 1)) dX9_has_51 rfl rfl (by decide) rfl rfl rfl ?_
          refine GW.goto (tgt := 6) dX9_has_54 (by decide) ?_
          exact h
      · replace h := ite_f h c4
        refine GW.iconst (pc' := 49) (v := 0) dX9_has_48 rfl (by decide) ?_
        refine GW.istore (pc' := 51) (lv' := [(0, .ref 64), (1, .int v1), (2, .int v2), (3, .int v3), (4, .int 0), (5, .int v5)]) dX9_has_49 rfl rfl (by decide) rfl ?_
        refine GW.iinc (pc' := 54) (lv' := [(0, .ref 64), (1, .int v1), (2, .int v2), (3, .int v3), (4, .int 0), (5, .int (v5 + 1))]) (v := (v5 + 1)) dX9_has_51 rfl rfl (by decide) rfl rfl rfl ?_
        refine GW.goto (tgt := 6) dX9_has_54 (by decide) ?_
        exact h
    · replace h := ite_f h c2
      refine GW.iconst (pc' := 45) (v := 1) dX9_has_44 rfl (by decide) ?_
      refine GW.goto (tgt := 49) dX9_has_45 (by decide) ?_
      refine GW.istore (pc' := 51) (lv' := [(0, .ref 64), (1, .int v1), (2, .int v2), (3, .int v3), (4, .int 1), (5, .int v5)]) dX9_has_49 rfl rfl (by decide) rfl ?_
      refine GW.iinc (pc' := 54) (lv' := [(0, .ref 64), (1, .int v1), (2, .int v2), (3, .int v3), (4, .int 1), (5, .int (v5 + 1))]) (v := (v5 + 1)) dX9_has_51 rfl rfl (by decide) rfl rfl rfl ?_
      refine GW.goto (tgt := 6) dX9_has_54 (by decide) ?_
      exact h
  · replace h := ite_f h c1
    refine GW.iload (pc' := 59) dX9_has_57 rfl rfl ?_
    obtain ⟨b7, h⟩ := h
    refine GW.zret dX9_has_59 rfl b7 ⟨_, rfl, ?_⟩
    exact h

set_option maxRecDepth 100000 in
set_option maxHeartbeats 4000000 in
theorem wp_X9_joined (xs : gX) (d : Nat) (v0 : Int32) (v1 : Int32) (v2 : Int32) (M : Mem) (Q : Int32 → Mem → Prop) (h : (if v0 = 37 then (if v2 = 0 then Q 0 M else (if v2 = (-1) then Q 0 M else (¬ v2 = 0 ∧ Q (v1 - v1 / v2 * v2) M))) else (if v0 = 38 then (if v1 = 0 then Q 0 M else (if v2 = 0 then Q 0 M else Q 1 M)) else (if v0 = 39 then (if v1 = 0 then (if v2 = 0 then Q 0 M else Q 1 M) else Q 1 M) else (if v0 = 40 then (if v1 = 0 then (if v2 = 0 then Q 0 M else Q 1 M) else Q 1 M) else (if v0 = 41 then (if v1 = 0 then (if v2 = 0 then Q 0 M else Q 1 M) else Q 1 M) else (if v0 = 42 then Q (v1 * v2) M else (if v0 = 43 then Q (v1 + v2) M else (if v0 = 44 then (if v1 = 0 then (if v2 = 0 then Q 0 M else Q 1 M) else Q 1 M) else (if v0 = 45 then Q (v1 - v2) M else (if v0 = 46 then (if v1 = 0 then (if v2 = 0 then Q 0 M else Q 1 M) else Q 1 M) else (if v0 = 47 then (if v2 = 0 then Q 0 M else (if v2 = (-1) then Q (-v1) M else (¬ v2 = 0 ∧ Q (v1 / v2) M))) else (if v0 = 48 then (if v1 = 0 then (if v2 = 0 then Q 0 M else Q 1 M) else Q 1 M) else (if v0 = 49 then (if v1 = 0 then (if v2 = 0 then Q 0 M else Q 1 M) else Q 1 M) else (if v0 = 50 then (if v1 = 0 then (if v2 = 0 then Q 0 M else Q 1 M) else Q 1 M) else (if v0 = 51 then (if v1 = 0 then (if v2 = 0 then Q 0 M else Q 1 M) else Q 1 M) else (if v0 = 52 then (if v1 = 0 then (if v2 = 0 then Q 0 M else Q 1 M) else Q 1 M) else (if v0 = 53 then (if v1 = 0 then (if v2 = 0 then Q 0 M else Q 1 M) else Q 1 M) else (if v0 = 54 then (if v1 = 0 then (if v2 = 0 then Q 0 M else Q 1 M) else Q 1 M) else (if v0 = 55 then (if v1 = 0 then (if v2 = 0 then Q 0 M else Q 1 M) else Q 1 M) else (if v0 = 56 then (if v1 = 0 then (if v2 = 0 then Q 0 M else Q 1 M) else Q 1 M) else (if v0 = 57 then (if v1 = 0 then (if v2 = 0 then Q 0 M else Q 1 M) else Q 1 M) else (if v0 = 58 then (if v1 = 0 then (if v2 = 0 then Q 0 M else Q 1 M) else Q 1 M) else (if v0 = 59 then (if v1 = 0 then (if v2 = 0 then Q 0 M else Q 1 M) else Q 1 M) else (if v0 = 60 then (if v1 < v2 then Q 1 M else Q 0 M) else (if v0 = 61 then (if v1 = v2 then Q 1 M else Q 0 M) else (if v0 = 62 then (if v2 < v1 then Q 1 M else Q 0 M) else (if v1 = 0 then (if v2 = 0 then Q 0 M else Q 1 M) else Q 1 M)))))))))))))))))))))))))))) : MI xs d mX9_joined [.int v0, .int v1, .int v2] M Q := by
  refine MI.intro (lv := [(0, .int v0), (1, .int v1), (2, .int v2)]) mk_X9_joined.2.2.2.2 (Nat.le_of_ble_eq_true rfl) rfl ?_
  refine GW.iload_n (pc' := 1) dX9_joined_0 rfl rfl ?_
  by_cases c1 : v0 = 37
  · replace h := ite_t h c1
    refine GW.tswIn (v := 37) (tgt := 154) dX9_joined_1 (by rw [c1]; rfl) (by decide) (by decide) rfl (by decide) ?_
    refine GW.iload_n (pc' := 155) dX9_joined_154 rfl rfl ?_
    refine GW.ifeq (pc' := 158) (tgt := 163) dX9_joined_155 rfl (by decide) (ite_i (fun c2 => ?_) (fun c2 => ?_))
    · replace h := ite_t h c2
      refine GW.iconst (pc' := 164) (v := 0) dX9_joined_163 rfl (by decide) ?_
      refine GW.goto (tgt := 170) dX9_joined_164 (by decide) ?_
      refine GW.iret dX9_joined_170 rfl ⟨_, rfl, ?_⟩
      exact h
    · replace h := ite_f h c2
      refine GW.iload_n (pc' := 159) dX9_joined_158 rfl rfl ?_
      refine GW.iconst (pc' := 160) (v := (-1)) dX9_joined_159 rfl (by decide) ?_
      refine GW.if_icmpne (pc' := 163) (tgt := 167) dX9_joined_160 rfl (by decide) (ite_i (fun c3 => ?_) (fun c3 => ?_))
      · replace h := ite_t h c3
        refine GW.iconst (pc' := 164) (v := 0) dX9_joined_163 rfl (by decide) ?_
        refine GW.goto (tgt := 170) dX9_joined_164 (by decide) ?_
        refine GW.iret dX9_joined_170 rfl ⟨_, rfl, ?_⟩
        exact h
      · replace h := ite_f h c3
        refine GW.iload_n (pc' := 168) dX9_joined_167 rfl rfl ?_
        refine GW.iload_n (pc' := 169) dX9_joined_168 rfl rfl ?_
        obtain ⟨b4, h⟩ := h
        refine GW.irem (pc' := 170) dX9_joined_169 rfl b4 ?_
        refine GW.iret dX9_joined_170 rfl ⟨_, rfl, ?_⟩
        exact h
  · replace h := ite_f h c1
    by_cases c5 : v0 = 38
    · replace h := ite_t h c5
      refine GW.tswIn (v := 38) (tgt := 204) dX9_joined_1 (by rw [c5]; rfl) (by decide) (by decide) rfl (by decide) ?_
      refine GW.iload_n (pc' := 205) dX9_joined_204 rfl rfl ?_
      refine GW.ifeq (pc' := 208) (tgt := 216) dX9_joined_205 rfl (by decide) (ite_i (fun c6 => ?_) (fun c6 => ?_))
      · replace h := ite_t h c6
        refine GW.iconst (pc' := 217) (v := 0) dX9_joined_216 rfl (by decide) ?_
        refine GW.iret dX9_joined_217 rfl ⟨_, rfl, ?_⟩
        exact h
      · replace h := ite_f h c6
        refine GW.iload_n (pc' := 209) dX9_joined_208 rfl rfl ?_
        refine GW.ifeq (pc' := 212) (tgt := 216) dX9_joined_209 rfl (by decide) (ite_i (fun c7 => ?_) (fun c7 => ?_))
        · replace h := ite_t h c7
          refine GW.iconst (pc' := 217) (v := 0) dX9_joined_216 rfl (by decide) ?_
          refine GW.iret dX9_joined_217 rfl ⟨_, rfl, ?_⟩
          exact h
        · replace h := ite_f h c7
          refine GW.iconst (pc' := 213) (v := 1) dX9_joined_212 rfl (by decide) ?_
          refine GW.goto (tgt := 217) dX9_joined_213 (by decide) ?_
          refine GW.iret dX9_joined_217 rfl ⟨_, rfl, ?_⟩
          exact h
    · replace h := ite_f h c5
      by_cases c8 : v0 = 39
      · replace h := ite_t h c8
        refine GW.tswIn (v := 39) (tgt := 218) dX9_joined_1 (by rw [c8]; rfl) (by decide) (by decide) rfl (by decide) ?_
        refine GW.iload_n (pc' := 219) dX9_joined_218 rfl rfl ?_
        refine GW.ifne (pc' := 222) (tgt := 226) dX9_joined_219 rfl (by decide) (ite_i (fun c9 => ?_) (fun c9 => ?_))
        · replace h := ite_t h c9
          refine GW.iload_n (pc' := 223) dX9_joined_222 rfl rfl ?_
          refine GW.ifeq (pc' := 226) (tgt := 230) dX9_joined_223 rfl (by decide) (ite_i (fun c10 => ?_) (fun c10 => ?_))
          · replace h := ite_t h c10
            refine GW.iconst (pc' := 231) (v := 0) dX9_joined_230 rfl (by decide) ?_
            refine GW.iret dX9_joined_231 rfl ⟨_, rfl, ?_⟩
            exact h
          · replace h := ite_f h c10
            refine GW.iconst (pc' := 227) (v := 1) dX9_joined_226 rfl (by decide) ?_
            refine GW.goto (tgt := 231) dX9_joined_227 (by decide) ?_
            refine GW.iret dX9_joined_231 rfl ⟨_, rfl, ?_⟩
            exact h
        · replace h := ite_f h c9
          refine GW.iconst (pc' := 227) (v := 1) dX9_joined_226 rfl (by decide) ?_
          refine GW.goto (tgt := 231) dX9_joined_227 (by decide) ?_
          refine GW.iret dX9_joined_231 rfl ⟨_, rfl, ?_⟩
          exact h
      · replace h := ite_f h c8
        by_cases c11 : v0 = 40
        · replace h := ite_t h c11
          refine GW.tswIn (v := 40) (tgt := 218) dX9_joined_1 (by rw [c11]; rfl) (by decide) (by decide) rfl (by decide) ?_
          refine GW.iload_n (pc' := 219) dX9_joined_218 rfl rfl ?_
          refine GW.ifne (pc' := 222) (tgt := 226) dX9_joined_219 rfl (by decide) (ite_i (fun c12 => ?_) (fun c12 => ?_))
          · replace h := ite_t h c12
            refine GW.iload_n (pc' := 223) dX9_joined_222 rfl rfl ?_
            refine GW.ifeq (pc' := 226) (tgt := 230) dX9_joined_223 rfl (by decide) (ite_i (fun c13 => ?_) (fun c13 => ?_))
            · replace h := ite_t h c13
              refine GW.iconst (pc' := 231) (v := 0) dX9_joined_230 rfl (by decide) ?_
              refine GW.iret dX9_joined_231 rfl ⟨_, rfl, ?_⟩
              exact h
            · replace h := ite_f h c13
              refine GW.iconst (pc' := 227) (v := 1) dX9_joined_226 rfl (by decide) ?_
              refine GW.goto (tgt := 231) dX9_joined_227 (by decide) ?_
              refine GW.iret dX9_joined_231 rfl ⟨_, rfl, ?_⟩
              exact h
          · replace h := ite_f h c12
            refine GW.iconst (pc' := 227) (v := 1) dX9_joined_226 rfl (by decide) ?_
            refine GW.goto (tgt := 231) dX9_joined_227 (by decide) ?_
            refine GW.iret dX9_joined_231 rfl ⟨_, rfl, ?_⟩
            exact h
        · replace h := ite_f h c11
          by_cases c14 : v0 = 41
          · replace h := ite_t h c14
            refine GW.tswIn (v := 41) (tgt := 218) dX9_joined_1 (by rw [c14]; rfl) (by decide) (by decide) rfl (by decide) ?_
            refine GW.iload_n (pc' := 219) dX9_joined_218 rfl rfl ?_
            refine GW.ifne (pc' := 222) (tgt := 226) dX9_joined_219 rfl (by decide) (ite_i (fun c15 => ?_) (fun c15 => ?_))
            · replace h := ite_t h c15
              refine GW.iload_n (pc' := 223) dX9_joined_222 rfl rfl ?_
              refine GW.ifeq (pc' := 226) (tgt := 230) dX9_joined_223 rfl (by decide) (ite_i (fun c16 => ?_) (fun c16 => ?_))
              · replace h := ite_t h c16
                refine GW.iconst (pc' := 231) (v := 0) dX9_joined_230 rfl (by decide) ?_
                refine GW.iret dX9_joined_231 rfl ⟨_, rfl, ?_⟩
                exact h
              · replace h := ite_f h c16
                refine GW.iconst (pc' := 227) (v := 1) dX9_joined_226 rfl (by decide) ?_
                refine GW.goto (tgt := 231) dX9_joined_227 (by decide) ?_
                refine GW.iret dX9_joined_231 rfl ⟨_, rfl, ?_⟩
                exact h
            · replace h := ite_f h c15
              refine GW.iconst (pc' := 227) (v := 1) dX9_joined_226 rfl (by decide) ?_
              refine GW.goto (tgt := 231) dX9_joined_227 (by decide) ?_
              refine GW.iret dX9_joined_231 rfl ⟨_, rfl, ?_⟩
              exact h
          · replace h := ite_f h c14
            by_cases c17 : v0 = 42
            · replace h := ite_t h c17
              refine GW.tswIn (v := 42) (tgt := 128) dX9_joined_1 (by rw [c17]; rfl) (by decide) (by decide) rfl (by decide) ?_
              refine GW.iload_n (pc' := 129) dX9_joined_128 rfl rfl ?_
              refine GW.iload_n (pc' := 130) dX9_joined_129 rfl rfl ?_
              refine GW.imul (pc' := 131) dX9_joined_130 rfl ?_
              refine GW.iret dX9_joined_131 rfl ⟨_, rfl, ?_⟩
              exact h
            · replace h := ite_f h c17
              by_cases c18 : v0 = 43
              · replace h := ite_t h c18
                refine GW.tswIn (v := 43) (tgt := 120) dX9_joined_1 (by rw [c18]; rfl) (by decide) (by decide) rfl (by decide) ?_
                refine GW.iload_n (pc' := 121) dX9_joined_120 rfl rfl ?_
                refine GW.iload_n (pc' := 122) dX9_joined_121 rfl rfl ?_
                refine GW.iadd (pc' := 123) dX9_joined_122 rfl ?_
                refine GW.iret dX9_joined_123 rfl ⟨_, rfl, ?_⟩
                exact h
              · replace h := ite_f h c18
                by_cases c19 : v0 = 44
                · replace h := ite_t h c19
                  refine GW.tswIn (v := 44) (tgt := 218) dX9_joined_1 (by rw [c19]; rfl) (by decide) (by decide) rfl (by decide) ?_
                  refine GW.iload_n (pc' := 219) dX9_joined_218 rfl rfl ?_
                  refine GW.ifne (pc' := 222) (tgt := 226) dX9_joined_219 rfl (by decide) (ite_i (fun c20 => ?_) (fun c20 => ?_))
                  · replace h := ite_t h c20
                    refine GW.iload_n (pc' := 223) dX9_joined_222 rfl rfl ?_
                    refine GW.ifeq (pc' := 226) (tgt := 230) dX9_joined_223 rfl (by decide) (ite_i (fun c21 => ?_) (fun c21 => ?_))
                    · replace h := ite_t h c21
                      refine GW.iconst (pc' := 231) (v := 0) dX9_joined_230 rfl (by decide) ?_
                      refine GW.iret dX9_joined_231 rfl ⟨_, rfl, ?_⟩
                      exact h
                    · replace h := ite_f h c21
                      refine GW.iconst (pc' := 227) (v := 1) dX9_joined_226 rfl (by decide) ?_
                      refine GW.goto (tgt := 231) dX9_joined_227 (by decide) ?_
                      refine GW.iret dX9_joined_231 rfl ⟨_, rfl, ?_⟩
                      exact h
                  · replace h := ite_f h c20
                    refine GW.iconst (pc' := 227) (v := 1) dX9_joined_226 rfl (by decide) ?_
                    refine GW.goto (tgt := 231) dX9_joined_227 (by decide) ?_
                    refine GW.iret dX9_joined_231 rfl ⟨_, rfl, ?_⟩
                    exact h
                · replace h := ite_f h c19
                  by_cases c22 : v0 = 45
                  · replace h := ite_t h c22
                    refine GW.tswIn (v := 45) (tgt := 124) dX9_joined_1 (by rw [c22]; rfl) (by decide) (by decide) rfl (by decide) ?_
                    refine GW.iload_n (pc' := 125) dX9_joined_124 rfl rfl ?_
                    refine GW.iload_n (pc' := 126) dX9_joined_125 rfl rfl ?_
                    refine GW.isub (pc' := 127) dX9_joined_126 rfl ?_
                    refine GW.iret dX9_joined_127 rfl ⟨_, rfl, ?_⟩
                    exact h
                  · replace h := ite_f h c22
                    by_cases c23 : v0 = 46
                    · replace h := ite_t h c23
                      refine GW.tswIn (v := 46) (tgt := 218) dX9_joined_1 (by rw [c23]; rfl) (by decide) (by decide) rfl (by decide) ?_
                      refine GW.iload_n (pc' := 219) dX9_joined_218 rfl rfl ?_
                      refine GW.ifne (pc' := 222) (tgt := 226) dX9_joined_219 rfl (by decide) (ite_i (fun c24 => ?_) (fun c24 => ?_))
                      · replace h := ite_t h c24
                        refine GW.iload_n (pc' := 223) dX9_joined_222 rfl rfl ?_
                        refine GW.ifeq (pc' := 226) (tgt := 230) dX9_joined_223 rfl (by decide) (ite_i (fun c25 => ?_) (fun c25 => ?_))
                        · replace h := ite_t h c25
                          refine GW.iconst (pc' := 231) (v := 0) dX9_joined_230 rfl (by decide) ?_
                          refine GW.iret dX9_joined_231 rfl ⟨_, rfl, ?_⟩
                          exact h
                        · replace h := ite_f h c25
                          refine GW.iconst (pc' := 227) (v := 1) dX9_joined_226 rfl (by decide) ?_
                          refine GW.goto (tgt := 231) dX9_joined_227 (by decide) ?_
                          refine GW.iret dX9_joined_231 rfl ⟨_, rfl, ?_⟩
                          exact h
                      · replace h := ite_f h c24
                        refine GW.iconst (pc' := 227) (v := 1) dX9_joined_226 rfl (by decide) ?_
                        refine GW.goto (tgt := 231) dX9_joined_227 (by decide) ?_
                        refine GW.iret dX9_joined_231 rfl ⟨_, rfl, ?_⟩
                        exact h
                    · replace h := ite_f h c23
                      by_cases c26 : v0 = 47
                      · replace h := ite_t h c26
                        refine GW.tswIn (v := 47) (tgt := 132) dX9_joined_1 (by rw [c26]; rfl) (by decide) (by decide) rfl (by decide) ?_
                        refine GW.iload_n (pc' := 133) dX9_joined_132 rfl rfl ?_
                        refine GW.ifne (pc' := 136) (tgt := 140) dX9_joined_133 rfl (by decide) (ite_i (fun c27 => ?_) (fun c27 => ?_))
                        · replace h := ite_t h c27
                          refine GW.iconst (pc' := 137) (v := 0) dX9_joined_136 rfl (by decide) ?_
                          refine GW.goto (tgt := 153) dX9_joined_137 (by decide) ?_
                          refine GW.iret dX9_joined_153 rfl ⟨_, rfl, ?_⟩
                          exact h
                        · replace h := ite_f h c27
                          refine GW.iload_n (pc' := 141) dX9_joined_140 rfl rfl ?_
                          refine GW.iconst (pc' := 142) (v := (-1)) dX9_joined_141 rfl (by decide) ?_
                          refine GW.if_icmpne (pc' := 145) (tgt := 150) dX9_joined_142 rfl (by decide) (ite_i (fun c28 => ?_) (fun c28 => ?_))
                          · replace h := ite_t h c28
                            refine GW.iload_n (pc' := 146) dX9_joined_145 rfl rfl ?_
                            refine GW.ineg (pc' := 147) dX9_joined_146 rfl ?_
                            refine GW.goto (tgt := 153) dX9_joined_147 (by decide) ?_
                            refine GW.iret dX9_joined_153 rfl ⟨_, rfl, ?_⟩
                            exact h
                          · replace h := ite_f h c28
                            refine GW.iload_n (pc' := 151) dX9_joined_150 rfl rfl ?_
                            refine GW.iload_n (pc' := 152) dX9_joined_151 rfl rfl ?_
                            obtain ⟨b29, h⟩ := h
                            refine GW.idiv (pc' := 153) dX9_joined_152 rfl b29 ?_
                            refine GW.iret dX9_joined_153 rfl ⟨_, rfl, ?_⟩
                            exact h
                      · replace h := ite_f h c26
                        by_cases c30 : v0 = 48
                        · replace h := ite_t h c30
                          refine GW.tswIn (v := 48) (tgt := 218) dX9_joined_1 (by rw [c30]; rfl) (by decide) (by decide) rfl (by decide) ?_
                          refine GW.iload_n (pc' := 219) dX9_joined_218 rfl rfl ?_
                          refine GW.ifne (pc' := 222) (tgt := 226) dX9_joined_219 rfl (by decide) (ite_i (fun c31 => ?_) (fun c31 => ?_))
                          · replace h := ite_t h c31
                            refine GW.iload_n (pc' := 223) dX9_joined_222 rfl rfl ?_
                            refine GW.ifeq (pc' := 226) (tgt := 230) dX9_joined_223 rfl (by decide) (ite_i (fun c32 => ?_) (fun c32 => ?_))
                            · replace h := ite_t h c32
                              refine GW.iconst (pc' := 231) (v := 0) dX9_joined_230 rfl (by decide) ?_
                              refine GW.iret dX9_joined_231 rfl ⟨_, rfl, ?_⟩
                              exact h
                            · replace h := ite_f h c32
                              refine GW.iconst (pc' := 227) (v := 1) dX9_joined_226 rfl (by decide) ?_
                              refine GW.goto (tgt := 231) dX9_joined_227 (by decide) ?_
                              refine GW.iret dX9_joined_231 rfl ⟨_, rfl, ?_⟩
                              exact h
                          · replace h := ite_f h c31
                            refine GW.iconst (pc' := 227) (v := 1) dX9_joined_226 rfl (by decide) ?_
                            refine GW.goto (tgt := 231) dX9_joined_227 (by decide) ?_
                            refine GW.iret dX9_joined_231 rfl ⟨_, rfl, ?_⟩
                            exact h
                        · replace h := ite_f h c30
                          by_cases c33 : v0 = 49
                          · replace h := ite_t h c33
                            refine GW.tswIn (v := 49) (tgt := 218) dX9_joined_1 (by rw [c33]; rfl) (by decide) (by decide) rfl (by decide) ?_
                            refine GW.iload_n (pc' := 219) dX9_joined_218 rfl rfl ?_
                            refine GW.ifne (pc' := 222) (tgt := 226) dX9_joined_219 rfl (by decide) (ite_i (fun c34 => ?_) (fun c34 => ?_))
                            · replace h := ite_t h c34
                              refine GW.iload_n (pc' := 223) dX9_joined_222 rfl rfl ?_
                              refine GW.ifeq (pc' := 226) (tgt := 230) dX9_joined_223 rfl (by decide) (ite_i (fun c35 => ?_) (fun c35 => ?_))
                              · replace h := ite_t h c35
                                refine GW.iconst (pc' := 231) (v := 0) dX9_joined_230 rfl (by decide) ?_
                                refine GW.iret dX9_joined_231 rfl ⟨_, rfl, ?_⟩
                                exact h
                              · replace h := ite_f h c35
                                refine GW.iconst (pc' := 227) (v := 1) dX9_joined_226 rfl (by decide) ?_
                                refine GW.goto (tgt := 231) dX9_joined_227 (by decide) ?_
                                refine GW.iret dX9_joined_231 rfl ⟨_, rfl, ?_⟩
                                exact h
                            · replace h := ite_f h c34
                              refine GW.iconst (pc' := 227) (v := 1) dX9_joined_226 rfl (by decide) ?_
                              refine GW.goto (tgt := 231) dX9_joined_227 (by decide) ?_
                              refine GW.iret dX9_joined_231 rfl ⟨_, rfl, ?_⟩
                              exact h
                          · replace h := ite_f h c33
                            by_cases c36 : v0 = 50
                            · replace h := ite_t h c36
                              refine GW.tswIn (v := 50) (tgt := 218) dX9_joined_1 (by rw [c36]; rfl) (by decide) (by decide) rfl (by decide) ?_
                              refine GW.iload_n (pc' := 219) dX9_joined_218 rfl rfl ?_
                              refine GW.ifne (pc' := 222) (tgt := 226) dX9_joined_219 rfl (by decide) (ite_i (fun c37 => ?_) (fun c37 => ?_))
                              · replace h := ite_t h c37
                                refine GW.iload_n (pc' := 223) dX9_joined_222 rfl rfl ?_
                                refine GW.ifeq (pc' := 226) (tgt := 230) dX9_joined_223 rfl (by decide) (ite_i (fun c38 => ?_) (fun c38 => ?_))
                                · replace h := ite_t h c38
                                  refine GW.iconst (pc' := 231) (v := 0) dX9_joined_230 rfl (by decide) ?_
                                  refine GW.iret dX9_joined_231 rfl ⟨_, rfl, ?_⟩
                                  exact h
                                · replace h := ite_f h c38
                                  refine GW.iconst (pc' := 227) (v := 1) dX9_joined_226 rfl (by decide) ?_
                                  refine GW.goto (tgt := 231) dX9_joined_227 (by decide) ?_
                                  refine GW.iret dX9_joined_231 rfl ⟨_, rfl, ?_⟩
                                  exact h
                              · replace h := ite_f h c37
                                refine GW.iconst (pc' := 227) (v := 1) dX9_joined_226 rfl (by decide) ?_
                                refine GW.goto (tgt := 231) dX9_joined_227 (by decide) ?_
                                refine GW.iret dX9_joined_231 rfl ⟨_, rfl, ?_⟩
                                exact h
                            · replace h := ite_f h c36
                              by_cases c39 : v0 = 51
                              · replace h := ite_t h c39
                                refine GW.tswIn (v := 51) (tgt := 218) dX9_joined_1 (by rw [c39]; rfl) (by decide) (by decide) rfl (by decide) ?_
                                refine GW.iload_n (pc' := 219) dX9_joined_218 rfl rfl ?_
                                refine GW.ifne (pc' := 222) (tgt := 226) dX9_joined_219 rfl (by decide) (ite_i (fun c40 => ?_) (fun c40 => ?_))
                                · replace h := ite_t h c40
                                  refine GW.iload_n (pc' := 223) dX9_joined_222 rfl rfl ?_
                                  refine GW.ifeq (pc' := 226) (tgt := 230) dX9_joined_223 rfl (by decide) (ite_i (fun c41 => ?_) (fun c41 => ?_))
                                  · replace h := ite_t h c41
                                    refine GW.iconst (pc' := 231) (v := 0) dX9_joined_230 rfl (by decide) ?_
                                    refine GW.iret dX9_joined_231 rfl ⟨_, rfl, ?_⟩
                                    exact h
                                  · replace h := ite_f h c41
                                    refine GW.iconst (pc' := 227) (v := 1) dX9_joined_226 rfl (by decide) ?_
                                    refine GW.goto (tgt := 231) dX9_joined_227 (by decide) ?_
                                    refine GW.iret dX9_joined_231 rfl ⟨_, rfl, ?_⟩
                                    exact h
                                · replace h := ite_f h c40
                                  refine GW.iconst (pc' := 227) (v := 1) dX9_joined_226 rfl (by decide) ?_
                                  refine GW.goto (tgt := 231) dX9_joined_227 (by decide) ?_
                                  refine GW.iret dX9_joined_231 rfl ⟨_, rfl, ?_⟩
                                  exact h
                              · replace h := ite_f h c39
                                by_cases c42 : v0 = 52
                                · replace h := ite_t h c42
                                  refine GW.tswIn (v := 52) (tgt := 218) dX9_joined_1 (by rw [c42]; rfl) (by decide) (by decide) rfl (by decide) ?_
                                  refine GW.iload_n (pc' := 219) dX9_joined_218 rfl rfl ?_
                                  refine GW.ifne (pc' := 222) (tgt := 226) dX9_joined_219 rfl (by decide) (ite_i (fun c43 => ?_) (fun c43 => ?_))
                                  · replace h := ite_t h c43
                                    refine GW.iload_n (pc' := 223) dX9_joined_222 rfl rfl ?_
                                    refine GW.ifeq (pc' := 226) (tgt := 230) dX9_joined_223 rfl (by decide) (ite_i (fun c44 => ?_) (fun c44 => ?_))
                                    · replace h := ite_t h c44
                                      refine GW.iconst (pc' := 231) (v := 0) dX9_joined_230 rfl (by decide) ?_
                                      refine GW.iret dX9_joined_231 rfl ⟨_, rfl, ?_⟩
                                      exact h
                                    · replace h := ite_f h c44
                                      refine GW.iconst (pc' := 227) (v := 1) dX9_joined_226 rfl (by decide) ?_
                                      refine GW.goto (tgt := 231) dX9_joined_227 (by decide) ?_
                                      refine GW.iret dX9_joined_231 rfl ⟨_, rfl, ?_⟩
                                      exact h
                                  · replace h := ite_f h c43
                                    refine GW.iconst (pc' := 227) (v := 1) dX9_joined_226 rfl (by decide) ?_
                                    refine GW.goto (tgt := 231) dX9_joined_227 (by decide) ?_
                                    refine GW.iret dX9_joined_231 rfl ⟨_, rfl, ?_⟩
                                    exact h
                                · replace h := ite_f h c42
                                  by_cases c45 : v0 = 53
                                  · replace h := ite_t h c45
                                    refine GW.tswIn (v := 53) (tgt := 218) dX9_joined_1 (by rw [c45]; rfl) (by decide) (by decide) rfl (by decide) ?_
                                    refine GW.iload_n (pc' := 219) dX9_joined_218 rfl rfl ?_
                                    refine GW.ifne (pc' := 222) (tgt := 226) dX9_joined_219 rfl (by decide) (ite_i (fun c46 => ?_) (fun c46 => ?_))
                                    · replace h := ite_t h c46
                                      refine GW.iload_n (pc' := 223) dX9_joined_222 rfl rfl ?_
                                      refine GW.ifeq (pc' := 226) (tgt := 230) dX9_joined_223 rfl (by decide) (ite_i (fun c47 => ?_) (fun c47 => ?_))
                                      · replace h := ite_t h c47
                                        refine GW.iconst (pc' := 231) (v := 0) dX9_joined_230 rfl (by decide) ?_
                                        refine GW.iret dX9_joined_231 rfl ⟨_, rfl, ?_⟩
                                        exact h
                                      · replace h := ite_f h c47
                                        refine GW.iconst (pc' := 227) (v := 1) dX9_joined_226 rfl (by decide) ?_
                                        refine GW.goto (tgt := 231) dX9_joined_227 (by decide) ?_
                                        refine GW.iret dX9_joined_231 rfl ⟨_, rfl, ?_⟩
                                        exact h
                                    · replace h := ite_f h c46
                                      refine GW.iconst (pc' := 227) (v := 1) dX9_joined_226 rfl (by decide) ?_
                                      refine GW.goto (tgt := 231) dX9_joined_227 (by decide) ?_
                                      refine GW.iret dX9_joined_231 rfl ⟨_, rfl, ?_⟩
                                      exact h
                                  · replace h := ite_f h c45
                                    by_cases c48 : v0 = 54
                                    · replace h := ite_t h c48
                                      refine GW.tswIn (v := 54) (tgt := 218) dX9_joined_1 (by rw [c48]; rfl) (by decide) (by decide) rfl (by decide) ?_
                                      refine GW.iload_n (pc' := 219) dX9_joined_218 rfl rfl ?_
                                      refine GW.ifne (pc' := 222) (tgt := 226) dX9_joined_219 rfl (by decide) (ite_i (fun c49 => ?_) (fun c49 => ?_))
                                      · replace h := ite_t h c49
                                        refine GW.iload_n (pc' := 223) dX9_joined_222 rfl rfl ?_
                                        refine GW.ifeq (pc' := 226) (tgt := 230) dX9_joined_223 rfl (by decide) (ite_i (fun c50 => ?_) (fun c50 => ?_))
                                        · replace h := ite_t h c50
                                          refine GW.iconst (pc' := 231) (v := 0) dX9_joined_230 rfl (by decide) ?_
                                          refine GW.iret dX9_joined_231 rfl ⟨_, rfl, ?_⟩
                                          exact h
                                        · replace h := ite_f h c50
                                          refine GW.iconst (pc' := 227) (v := 1) dX9_joined_226 rfl (by decide) ?_
                                          refine GW.goto (tgt := 231) dX9_joined_227 (by decide) ?_
                                          refine GW.iret dX9_joined_231 rfl ⟨_, rfl, ?_⟩
                                          exact h
                                      · replace h := ite_f h c49
                                        refine GW.iconst (pc' := 227) (v := 1) dX9_joined_226 rfl (by decide) ?_
                                        refine GW.goto (tgt := 231) dX9_joined_227 (by decide) ?_
                                        refine GW.iret dX9_joined_231 rfl ⟨_, rfl, ?_⟩
                                        exact h
                                    · replace h := ite_f h c48
                                      by_cases c51 : v0 = 55
                                      · replace h := ite_t h c51
                                        refine GW.tswIn (v := 55) (tgt := 218) dX9_joined_1 (by rw [c51]; rfl) (by decide) (by decide) rfl (by decide) ?_
                                        refine GW.iload_n (pc' := 219) dX9_joined_218 rfl rfl ?_
                                        refine GW.ifne (pc' := 222) (tgt := 226) dX9_joined_219 rfl (by decide) (ite_i (fun c52 => ?_) (fun c52 => ?_))
                                        · replace h := ite_t h c52
                                          refine GW.iload_n (pc' := 223) dX9_joined_222 rfl rfl ?_
                                          refine GW.ifeq (pc' := 226) (tgt := 230) dX9_joined_223 rfl (by decide) (ite_i (fun c53 => ?_) (fun c53 => ?_))
                                          · replace h := ite_t h c53
                                            refine GW.iconst (pc' := 231) (v := 0) dX9_joined_230 rfl (by decide) ?_
                                            refine GW.iret dX9_joined_231 rfl ⟨_, rfl, ?_⟩
                                            exact h
                                          · replace h := ite_f h c53
                                            refine GW.iconst (pc' := 227) (v := 1) dX9_joined_226 rfl (by decide) ?_
                                            refine GW.goto (tgt := 231) dX9_joined_227 (by decide) ?_
                                            refine GW.iret dX9_joined_231 rfl ⟨_, rfl, ?_⟩
                                            exact h
                                        · replace h := ite_f h c52
                                          refine GW.iconst (pc' := 227) (v := 1) dX9_joined_226 rfl (by decide) ?_
                                          refine GW.goto (tgt := 231) dX9_joined_227 (by decide) ?_
                                          refine GW.iret dX9_joined_231 rfl ⟨_, rfl, ?_⟩
                                          exact h
                                      · replace h := ite_f h c51
                                        by_cases c54 : v0 = 56
                                        · replace h := ite_t h c54
                                          refine GW.tswIn (v := 56) (tgt := 218) dX9_joined_1 (by rw [c54]; rfl) (by decide) (by decide) rfl (by decide) ?_
                                          refine GW.iload_n (pc' := 219) dX9_joined_218 rfl rfl ?_
                                          refine GW.ifne (pc' := 222) (tgt := 226) dX9_joined_219 rfl (by decide) (ite_i (fun c55 => ?_) (fun c55 => ?_))
                                          · replace h := ite_t h c55
                                            refine GW.iload_n (pc' := 223) dX9_joined_222 rfl rfl ?_
                                            refine GW.ifeq (pc' := 226) (tgt := 230) dX9_joined_223 rfl (by decide) (ite_i (fun c56 => ?_) (fun c56 => ?_))
                                            · replace h := ite_t h c56
                                              refine GW.iconst (pc' := 231) (v := 0) dX9_joined_230 rfl (by decide) ?_
                                              refine GW.iret dX9_joined_231 rfl ⟨_, rfl, ?_⟩
                                              exact h
                                            · replace h := ite_f h c56
                                              refine GW.iconst (pc' := 227) (v := 1) dX9_joined_226 rfl (by decide) ?_
                                              refine GW.goto (tgt := 231) dX9_joined_227 (by decide) ?_
                                              refine GW.iret dX9_joined_231 rfl ⟨_, rfl, ?_⟩
                                              exact h
                                          · replace h := ite_f h c55
                                            refine GW.iconst (pc' := 227) (v := 1) dX9_joined_226 rfl (by decide) ?_
                                            refine GW.goto (tgt := 231) dX9_joined_227 (by decide) ?_
                                            refine GW.iret dX9_joined_231 rfl ⟨_, rfl, ?_⟩
                                            exact h
                                        · replace h := ite_f h c54
                                          by_cases c57 : v0 = 57
                                          · replace h := ite_t h c57
                                            refine GW.tswIn (v := 57) (tgt := 218) dX9_joined_1 (by rw [c57]; rfl) (by decide) (by decide) rfl (by decide) ?_
                                            refine GW.iload_n (pc' := 219) dX9_joined_218 rfl rfl ?_
                                            refine GW.ifne (pc' := 222) (tgt := 226) dX9_joined_219 rfl (by decide) (ite_i (fun c58 => ?_) (fun c58 => ?_))
                                            · replace h := ite_t h c58
                                              refine GW.iload_n (pc' := 223) dX9_joined_222 rfl rfl ?_
                                              refine GW.ifeq (pc' := 226) (tgt := 230) dX9_joined_223 rfl (by decide) (ite_i (fun c59 => ?_) (fun c59 => ?_))
                                              · replace h := ite_t h c59
                                                refine GW.iconst (pc' := 231) (v := 0) dX9_joined_230 rfl (by decide) ?_
                                                refine GW.iret dX9_joined_231 rfl ⟨_, rfl, ?_⟩
                                                exact h
                                              · replace h := ite_f h c59
                                                refine GW.iconst (pc' := 227) (v := 1) dX9_joined_226 rfl (by decide) ?_
                                                refine GW.goto (tgt := 231) dX9_joined_227 (by decide) ?_
                                                refine GW.iret dX9_joined_231 rfl ⟨_, rfl, ?_⟩
                                                exact h
                                            · replace h := ite_f h c58
                                              refine GW.iconst (pc' := 227) (v := 1) dX9_joined_226 rfl (by decide) ?_
                                              refine GW.goto (tgt := 231) dX9_joined_227 (by decide) ?_
                                              refine GW.iret dX9_joined_231 rfl ⟨_, rfl, ?_⟩
                                              exact h
                                          · replace h := ite_f h c57
                                            by_cases c60 : v0 = 58
                                            · replace h := ite_t h c60
                                              refine GW.tswIn (v := 58) (tgt := 218) dX9_joined_1 (by rw [c60]; rfl) (by decide) (by decide) rfl (by decide) ?_
                                              refine GW.iload_n (pc' := 219) dX9_joined_218 rfl rfl ?_
                                              refine GW.ifne (pc' := 222) (tgt := 226) dX9_joined_219 rfl (by decide) (ite_i (fun c61 => ?_) (fun c61 => ?_))
                                              · replace h := ite_t h c61
                                                refine GW.iload_n (pc' := 223) dX9_joined_222 rfl rfl ?_
                                                refine GW.ifeq (pc' := 226) (tgt := 230) dX9_joined_223 rfl (by decide) (ite_i (fun c62 => ?_) (fun c62 => ?_))
                                                · replace h := ite_t h c62
                                                  refine GW.iconst (pc' := 231) (v := 0) dX9_joined_230 rfl (by decide) ?_
                                                  refine GW.iret dX9_joined_231 rfl ⟨_, rfl, ?_⟩
                                                  exact h
                                                · replace h := ite_f h c62
                                                  refine GW.iconst (pc' := 227) (v := 1) dX9_joined_226 rfl (by decide) ?_
                                                  refine GW.goto (tgt := 231) dX9_joined_227 (by decide) ?_
                                                  refine GW.iret dX9_joined_231 rfl ⟨_, rfl, ?_⟩
                                                  exact h
                                              · replace h := ite_f h c61
                                                refine GW.iconst (pc' := 227) (v := 1) dX9_joined_226 rfl (by decide) ?_
                                                refine GW.goto (tgt := 231) dX9_joined_227 (by decide) ?_
                                                refine GW.iret dX9_joined_231 rfl ⟨_, rfl, ?_⟩
                                                exact h
                                            · replace h := ite_f h c60
                                              by_cases c63 : v0 = 59
                                              · replace h := ite_t h c63
                                                refine GW.tswIn (v := 59) (tgt := 218) dX9_joined_1 (by rw [c63]; rfl) (by decide) (by decide) rfl (by decide) ?_
                                                refine GW.iload_n (pc' := 219) dX9_joined_218 rfl rfl ?_
                                                refine GW.ifne (pc' := 222) (tgt := 226) dX9_joined_219 rfl (by decide) (ite_i (fun c64 => ?_) (fun c64 => ?_))
                                                · replace h := ite_t h c64
                                                  refine GW.iload_n (pc' := 223) dX9_joined_222 rfl rfl ?_
                                                  refine GW.ifeq (pc' := 226) (tgt := 230) dX9_joined_223 rfl (by decide) (ite_i (fun c65 => ?_) (fun c65 => ?_))
                                                  · replace h := ite_t h c65
                                                    refine GW.iconst (pc' := 231) (v := 0) dX9_joined_230 rfl (by decide) ?_
                                                    refine GW.iret dX9_joined_231 rfl ⟨_, rfl, ?_⟩
                                                    exact h
                                                  · replace h := ite_f h c65
                                                    refine GW.iconst (pc' := 227) (v := 1) dX9_joined_226 rfl (by decide) ?_
                                                    refine GW.goto (tgt := 231) dX9_joined_227 (by decide) ?_
                                                    refine GW.iret dX9_joined_231 rfl ⟨_, rfl, ?_⟩
                                                    exact h
                                                · replace h := ite_f h c64
                                                  refine GW.iconst (pc' := 227) (v := 1) dX9_joined_226 rfl (by decide) ?_
                                                  refine GW.goto (tgt := 231) dX9_joined_227 (by decide) ?_
                                                  refine GW.iret dX9_joined_231 rfl ⟨_, rfl, ?_⟩
                                                  exact h
                                              · replace h := ite_f h c63
                                                by_cases c66 : v0 = 60
                                                · replace h := ite_t h c66
                                                  refine GW.tswIn (v := 60) (tgt := 171) dX9_joined_1 (by rw [c66]; rfl) (by decide) (by decide) rfl (by decide) ?_
                                                  refine GW.iload_n (pc' := 172) dX9_joined_171 rfl rfl ?_
                                                  refine GW.iload_n (pc' := 173) dX9_joined_172 rfl rfl ?_
                                                  refine GW.if_icmpge (pc' := 176) (tgt := 180) dX9_joined_173 rfl (by decide) (ite_i (fun c67 => ?_) (fun c67 => ?_))
                                                  · replace h := ite_t h c67
                                                    refine GW.iconst (pc' := 177) (v := 1) dX9_joined_176 rfl (by decide) ?_
                                                    refine GW.goto (tgt := 181) dX9_joined_177 (by decide) ?_
                                                    refine GW.iret dX9_joined_181 rfl ⟨_, rfl, ?_⟩
                                                    exact h
                                                  · replace h := ite_f h c67
                                                    refine GW.iconst (pc' := 181) (v := 0) dX9_joined_180 rfl (by decide) ?_
                                                    refine GW.iret dX9_joined_181 rfl ⟨_, rfl, ?_⟩
                                                    exact h
                                                · replace h := ite_f h c66
                                                  by_cases c68 : v0 = 61
                                                  · replace h := ite_t h c68
                                                    refine GW.tswIn (v := 61) (tgt := 193) dX9_joined_1 (by rw [c68]; rfl) (by decide) (by decide) rfl (by decide) ?_
                                                    refine GW.iload_n (pc' := 194) dX9_joined_193 rfl rfl ?_
                                                    refine GW.iload_n (pc' := 195) dX9_joined_194 rfl rfl ?_
                                                    refine GW.if_icmpne (pc' := 198) (tgt := 202) dX9_joined_195 rfl (by decide) (ite_i (fun c69 => ?_) (fun c69 => ?_))
                                                    · replace h := ite_t h c69
                                                      refine GW.iconst (pc' := 199) (v := 1) dX9_joined_198 rfl (by decide) ?_
                                                      refine GW.goto (tgt := 203) dX9_joined_199 (by decide) ?_
                                                      refine GW.iret dX9_joined_203 rfl ⟨_, rfl, ?_⟩
                                                      exact h
                                                    · replace h := ite_f h c69
                                                      refine GW.iconst (pc' := 203) (v := 0) dX9_joined_202 rfl (by decide) ?_
                                                      refine GW.iret dX9_joined_203 rfl ⟨_, rfl, ?_⟩
                                                      exact h
                                                  · replace h := ite_f h c68
                                                    by_cases c70 : v0 = 62
                                                    · replace h := ite_t h c70
                                                      refine GW.tswIn (v := 62) (tgt := 182) dX9_joined_1 (by rw [c70]; rfl) (by decide) (by decide) rfl (by decide) ?_
                                                      refine GW.iload_n (pc' := 183) dX9_joined_182 rfl rfl ?_
                                                      refine GW.iload_n (pc' := 184) dX9_joined_183 rfl rfl ?_
                                                      refine GW.if_icmple (pc' := 187) (tgt := 191) dX9_joined_184 rfl (by decide) (ite_i (fun c71 => ?_) (fun c71 => ?_))
                                                      · replace h := ite_t h c71
                                                        refine GW.iconst (pc' := 188) (v := 1) dX9_joined_187 rfl (by decide) ?_
                                                        refine GW.goto (tgt := 192) dX9_joined_188 (by decide) ?_
                                                        refine GW.iret dX9_joined_192 rfl ⟨_, rfl, ?_⟩
                                                        exact h
                                                      · replace h := ite_f h c71
                                                        refine GW.iconst (pc' := 192) (v := 0) dX9_joined_191 rfl (by decide) ?_
                                                        refine GW.iret dX9_joined_192 rfl ⟨_, rfl, ?_⟩
                                                        exact h
                                                    · replace h := ite_f h c70
                                                      refine GW.tswOut (tgt := 218) dX9_joined_1 (sw_out (by have qc1 := lv_neT c1 (rfl : _ = (37 : Int)); have qc5 := lv_neT c5 (rfl : _ = (38 : Int)); have qc8 := lv_neT c8 (rfl : _ = (39 : Int)); have qc11 := lv_neT c11 (rfl : _ = (40 : Int)); have qc14 := lv_neT c14 (rfl : _ = (41 : Int)); have qc17 := lv_neT c17 (rfl : _ = (42 : Int)); have qc18 := lv_neT c18 (rfl : _ = (43 : Int)); have qc19 := lv_neT c19 (rfl : _ = (44 : Int)); have qc22 := lv_neT c22 (rfl : _ = (45 : Int)); have qc23 := lv_neT c23 (rfl : _ = (46 : Int)); have qc26 := lv_neT c26 (rfl : _ = (47 : Int)); have qc30 := lv_neT c30 (rfl : _ = (48 : Int)); have qc33 := lv_neT c33 (rfl : _ = (49 : Int)); have qc36 := lv_neT c36 (rfl : _ = (50 : Int)); have qc39 := lv_neT c39 (rfl : _ = (51 : Int)); have qc42 := lv_neT c42 (rfl : _ = (52 : Int)); have qc45 := lv_neT c45 (rfl : _ = (53 : Int)); have qc48 := lv_neT c48 (rfl : _ = (54 : Int)); have qc51 := lv_neT c51 (rfl : _ = (55 : Int)); have qc54 := lv_neT c54 (rfl : _ = (56 : Int)); have qc57 := lv_neT c57 (rfl : _ = (57 : Int)); have qc60 := lv_neT c60 (rfl : _ = (58 : Int)); have qc63 := lv_neT c63 (rfl : _ = (59 : Int)); have qc66 := lv_neT c66 (rfl : _ = (60 : Int)); have qc68 := lv_neT c68 (rfl : _ = (61 : Int)); have qc70 := lv_neT c70 (rfl : _ = (62 : Int)); omega)) (by decide) ?_
                                                      refine GW.iload_n (pc' := 219) dX9_joined_218 rfl rfl ?_
                                                      refine GW.ifne (pc' := 222) (tgt := 226) dX9_joined_219 rfl (by decide) (ite_i (fun c72 => ?_) (fun c72 => ?_))
                                                      · replace h := ite_t h c72
                                                        refine GW.iload_n (pc' := 223) dX9_joined_222 rfl rfl ?_
                                                        refine GW.ifeq (pc' := 226) (tgt := 230) dX9_joined_223 rfl (by decide) (ite_i (fun c73 => ?_) (fun c73 => ?_))
                                                        · replace h := ite_t h c73
                                                          refine GW.iconst (pc' := 231) (v := 0) dX9_joined_230 rfl (by decide) ?_
                                                          refine GW.iret dX9_joined_231 rfl ⟨_, rfl, ?_⟩
                                                          exact h
                                                        · replace h := ite_f h c73
                                                          refine GW.iconst (pc' := 227) (v := 1) dX9_joined_226 rfl (by decide) ?_
                                                          refine GW.goto (tgt := 231) dX9_joined_227 (by decide) ?_
                                                          refine GW.iret dX9_joined_231 rfl ⟨_, rfl, ?_⟩
                                                          exact h
                                                      · replace h := ite_f h c72
                                                        refine GW.iconst (pc' := 227) (v := 1) dX9_joined_226 rfl (by decide) ?_
                                                        refine GW.goto (tgt := 231) dX9_joined_227 (by decide) ?_
                                                        refine GW.iret dX9_joined_231 rfl ⟨_, rfl, ?_⟩
                                                        exact h

set_option maxRecDepth 100000 in
set_option maxHeartbeats 4000000 in
theorem wp_X9_pass_64 (xs : gX) (d : Nat) (v1 : Int32) (M : Mem) (Q : Int32 → Mem → Prop) (h : (if v1 < 1 then Q ((-1000000000) - 1) (mw M 67 1 ((M.1 67 1) + 1)) else (if 9999 < v1 then Q ((-1000000000) - 1) (mw M 67 1 ((M.1 67 1) + 1)) else (if 72999 < ((M.1 65 3) + v1) then Q ((-1000000000) - 3) (mw M 67 3 ((M.1 67 3) + 1)) else Q ((mw M 65 3 ((M.1 65 3) + v1)).1 65 3) (mw M 65 3 ((M.1 65 3) + v1)))))) : MI xs (d + 1) mX9_pass [.ref 64, .int v1] M Q := by
  refine MI.intro (lv := [(0, .ref 64), (1, .int v1)]) mk_X9_pass.2.2.2.2 (Nat.le_of_ble_eq_true rfl) rfl ?_
  refine GW.iload_n (pc' := 1) dX9_pass_0 rfl rfl ?_
  refine GW.iconst (pc' := 2) (v := 1) dX9_pass_1 rfl (by decide) ?_
  refine GW.sipush (pc' := 5) (v := 9999) dX9_pass_2 rfl (by decide) ?_
  refine GW.callS (pc' := 8) (av := [.int v1, .int 1, .int 9999]) (rest := []) dX9_pass_5 rfl mk_X9_in lk_X9_63 sk_X9_in rfl rfl (Nat.le_of_ble_eq_true rfl) (bk_i (MI.intro (lv := [(0, .int v1), (1, .int 1), (2, .int 9999)]) mk_X9_in.2.2.2.2 (Nat.le_of_ble_eq_true rfl) rfl ?_))
  refine GW.iload_n (pc' := 1) dX9_in_0 rfl rfl ?_
  refine GW.iload_n (pc' := 2) dX9_in_1 rfl rfl ?_
  refine GW.if_icmplt (pc' := 5) (tgt := 14) dX9_in_2 rfl (by decide) (ite_i (fun c1 => ?_) (fun c1 => ?_))
  · replace h := ite_t h c1
    refine GW.iconst (pc' := 15) (v := 0) dX9_in_14 rfl (by decide) ?_
    refine GW.zret dX9_in_15 rfl (by decide) ⟨_, rfl, ?_⟩
    refine GW.ifne (pc' := 11) (tgt := 17) dX9_pass_8 rfl (by decide) (ite_p (by decide) ?_)
    refine GW.aload_n (pc' := 12) dX9_pass_11 rfl rfl ?_
    refine GW.iconst (pc' := 13) (v := 1) dX9_pass_12 rfl (by decide) ?_
    refine GW.callV (pc' := 16) (k := 64) (av := [.int 1]) (rest := []) dX9_pass_13 rfl mk_X9_error lk_X9_83 vk_X9_error ko_64 rfl rfl (Nat.le_of_ble_eq_true rfl) (bk_i (MI.intro (lv := [(0, .ref 64), (1, .int 1)]) mk_X9_error.2.2.2.2 (Nat.le_of_ble_eq_true rfl) rfl ?_))
    refine GW.aload_n (pc' := 1) dX9_error_0 rfl rfl ?_
    refine GW.getR (pc' := 4) (t := 67) dX9_error_1 rfl fk_X9_16 rfl (by decide) rfl rfl ?_
    refine GW.iload_n (pc' := 5) dX9_error_4 rfl rfl ?_
    refine GW.dup2 (pc' := 6) dX9_error_5 rfl rfl rfl ?_
    refine GW.iaload (pc' := 7) (j := 1) dX9_error_6 rfl rfl (vin (by decide)) (by decide) ?_
    refine GW.iconst (pc' := 8) (v := 1) dX9_error_7 rfl (by decide) ?_
    refine GW.iadd (pc' := 9) dX9_error_8 rfl ?_
    refine GW.iastore (pc' := 10) (j := 1) dX9_error_9 rfl rfl (vin (by decide)) (by decide) ?_
    refine GW.ldc (pc' := 12) (v := (-1000000000)) dX9_error_10 rfl ck_X9_62 ?_
    refine GW.iload_n (pc' := 13) dX9_error_12 rfl rfl ?_
    refine GW.isub (pc' := 14) dX9_error_13 rfl ?_
    refine GW.iret dX9_error_14 rfl ⟨_, rfl, ?_⟩
    refine GW.iret dX9_pass_16 rfl ⟨_, rfl, ?_⟩
    exact h
  · replace h := ite_f h c1
    refine GW.iload_n (pc' := 6) dX9_in_5 rfl rfl ?_
    refine GW.iload_n (pc' := 7) dX9_in_6 rfl rfl ?_
    refine GW.if_icmpgt (pc' := 10) (tgt := 14) dX9_in_7 rfl (by decide) (ite_i (fun c2 => ?_) (fun c2 => ?_))
    · replace h := ite_t h c2
      refine GW.iconst (pc' := 15) (v := 0) dX9_in_14 rfl (by decide) ?_
      refine GW.zret dX9_in_15 rfl (by decide) ⟨_, rfl, ?_⟩
      refine GW.ifne (pc' := 11) (tgt := 17) dX9_pass_8 rfl (by decide) (ite_p (by decide) ?_)
      refine GW.aload_n (pc' := 12) dX9_pass_11 rfl rfl ?_
      refine GW.iconst (pc' := 13) (v := 1) dX9_pass_12 rfl (by decide) ?_
      refine GW.callV (pc' := 16) (k := 64) (av := [.int 1]) (rest := []) dX9_pass_13 rfl mk_X9_error lk_X9_83 vk_X9_error ko_64 rfl rfl (Nat.le_of_ble_eq_true rfl) (bk_i (MI.intro (lv := [(0, .ref 64), (1, .int 1)]) mk_X9_error.2.2.2.2 (Nat.le_of_ble_eq_true rfl) rfl ?_))
      refine GW.aload_n (pc' := 1) dX9_error_0 rfl rfl ?_
      refine GW.getR (pc' := 4) (t := 67) dX9_error_1 rfl fk_X9_16 rfl (by decide) rfl rfl ?_
      refine GW.iload_n (pc' := 5) dX9_error_4 rfl rfl ?_
      refine GW.dup2 (pc' := 6) dX9_error_5 rfl rfl rfl ?_
      refine GW.iaload (pc' := 7) (j := 1) dX9_error_6 rfl rfl (vin (by decide)) (by decide) ?_
      refine GW.iconst (pc' := 8) (v := 1) dX9_error_7 rfl (by decide) ?_
      refine GW.iadd (pc' := 9) dX9_error_8 rfl ?_
      refine GW.iastore (pc' := 10) (j := 1) dX9_error_9 rfl rfl (vin (by decide)) (by decide) ?_
      refine GW.ldc (pc' := 12) (v := (-1000000000)) dX9_error_10 rfl ck_X9_62 ?_
      refine GW.iload_n (pc' := 13) dX9_error_12 rfl rfl ?_
      refine GW.isub (pc' := 14) dX9_error_13 rfl ?_
      refine GW.iret dX9_error_14 rfl ⟨_, rfl, ?_⟩
      refine GW.iret dX9_pass_16 rfl ⟨_, rfl, ?_⟩
      exact h
    · replace h := ite_f h c2
      refine GW.iconst (pc' := 11) (v := 1) dX9_in_10 rfl (by decide) ?_
      refine GW.goto (tgt := 15) dX9_in_11 (by decide) ?_
      refine GW.zret dX9_in_15 rfl (by decide) ⟨_, rfl, ?_⟩
      refine GW.ifne (pc' := 11) (tgt := 17) dX9_pass_8 rfl (by decide) (ite_n (by decide) ?_)
      refine GW.aload_n (pc' := 18) dX9_pass_17 rfl rfl ?_
      refine GW.getR (pc' := 21) (t := 65) dX9_pass_18 rfl fk_X9_7 rfl (by decide) rfl rfl ?_
      refine GW.iconst (pc' := 22) (v := 3) dX9_pass_21 rfl (by decide) ?_
      refine GW.iaload (pc' := 23) (j := 3) dX9_pass_22 rfl rfl (vin (by decide)) (by decide) ?_
      refine GW.iload_n (pc' := 24) dX9_pass_23 rfl rfl ?_
      refine GW.iadd (pc' := 25) dX9_pass_24 rfl ?_
      refine GW.ldc (pc' := 27) (v := 72999) dX9_pass_25 rfl ck_X9_67 ?_
      refine GW.if_icmple (pc' := 30) (tgt := 36) dX9_pass_27 rfl (by decide) (ite_i (fun c3 => ?_) (fun c3 => ?_))
      · replace h := ite_t h c3
        refine GW.aload_n (pc' := 31) dX9_pass_30 rfl rfl ?_
        refine GW.iconst (pc' := 32) (v := 3) dX9_pass_31 rfl (by decide) ?_
        refine GW.callV (pc' := 35) (k := 64) (av := [.int 3]) (rest := []) dX9_pass_32 rfl mk_X9_error lk_X9_83 vk_X9_error ko_64 rfl rfl (Nat.le_of_ble_eq_true rfl) (bk_i (MI.intro (lv := [(0, .ref 64), (1, .int 3)]) mk_X9_error.2.2.2.2 (Nat.le_of_ble_eq_true rfl) rfl ?_))
        refine GW.aload_n (pc' := 1) dX9_error_0 rfl rfl ?_
        refine GW.getR (pc' := 4) (t := 67) dX9_error_1 rfl fk_X9_16 rfl (by decide) rfl rfl ?_
        refine GW.iload_n (pc' := 5) dX9_error_4 rfl rfl ?_
        refine GW.dup2 (pc' := 6) dX9_error_5 rfl rfl rfl ?_
        refine GW.iaload (pc' := 7) (j := 3) dX9_error_6 rfl rfl (vin (by decide)) (by decide) ?_
        refine GW.iconst (pc' := 8) (v := 1) dX9_error_7 rfl (by decide) ?_
        refine GW.iadd (pc' := 9) dX9_error_8 rfl ?_
        refine GW.iastore (pc' := 10) (j := 3) dX9_error_9 rfl rfl (vin (by decide)) (by decide) ?_
        refine GW.ldc (pc' := 12) (v := (-1000000000)) dX9_error_10 rfl ck_X9_62 ?_
        refine GW.iload_n (pc' := 13) dX9_error_12 rfl rfl ?_
        refine GW.isub (pc' := 14) dX9_error_13 rfl ?_
        refine GW.iret dX9_error_14 rfl ⟨_, rfl, ?_⟩
        refine GW.iret dX9_pass_35 rfl ⟨_, rfl, ?_⟩
        exact h
      · replace h := ite_f h c3
        refine GW.aload_n (pc' := 37) dX9_pass_36 rfl rfl ?_
        refine GW.getR (pc' := 40) (t := 65) dX9_pass_37 rfl fk_X9_7 rfl (by decide) rfl rfl ?_
        refine GW.iconst (pc' := 41) (v := 3) dX9_pass_40 rfl (by decide) ?_
        refine GW.dup2 (pc' := 42) dX9_pass_41 rfl rfl rfl ?_
        refine GW.iaload (pc' := 43) (j := 3) dX9_pass_42 rfl rfl (vin (by decide)) (by decide) ?_
        refine GW.iload_n (pc' := 44) dX9_pass_43 rfl rfl ?_
        refine GW.iadd (pc' := 45) dX9_pass_44 rfl ?_
        refine GW.iastore (pc' := 46) (j := 3) dX9_pass_45 rfl rfl (vin (by decide)) (by decide) ?_
        refine GW.aload_n (pc' := 47) dX9_pass_46 rfl rfl ?_
        refine GW.getR (pc' := 50) (t := 65) dX9_pass_47 rfl fk_X9_7 rfl (by decide) rfl rfl ?_
        refine GW.iconst (pc' := 51) (v := 3) dX9_pass_50 rfl (by decide) ?_
        refine GW.iaload (pc' := 52) (j := 3) dX9_pass_51 rfl rfl (vin (by decide)) (by decide) ?_
        refine GW.iret dX9_pass_52 rfl ⟨_, rfl, ?_⟩
        exact h
