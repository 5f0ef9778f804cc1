set_option maxRecDepth 100000 in
set_option maxHeartbeats 4000000 in
theorem wp_X7_ageByBook_1 (xs : gX) (d : Nat) (v1 : Int32) (v2 : Int32) (v3 : Int32) (M : Mem) (Q : Int32 → Mem → Prop) (h : MI xs (d + 1) mX3_fact [.ref 20, .int v1, .int 3] M (fun r1 M2 => MI xs (d + 1) mX6_nameOf [.ref 15, .int v2, .int (v3 / 365)] M2 (fun r3 M4 => MI xs (d + 1) mX3_fact [.ref 20, .int v1, .int 2] M4 (fun r5 M6 => MI xs (d + 1) mX6_nameOf [.ref 15, .int r5, .int (r1 / 365)] M6 (fun r7 M8 => (if (v3 - v3 / 365 * 365) < (r1 - r1 / 365 * 365) then Q (gmax 0 ((r3 - r7) + (-1))) M8 else Q (gmax 0 (r3 - r7)) M8)))))) : MI xs (d + 2) mX7_ageByBook [.ref 1, .int v1, .int v2, .int v3] M Q := by
  refine MI.intro (lv := [(0, .ref 1), (1, .int v1), (2, .int v2), (3, .int v3)]) mk_X7_ageByBook.2.2.2.2 (Nat.le_of_ble_eq_true rfl) rfl ?_
  refine GW.aload_n (pc' := 1) dX7_ageByBook_0 rfl rfl ?_
  refine GW.getR (pc' := 4) (t := 20) dX7_ageByBook_1 rfl fk_X7_21 rfl (by decide) rfl rfl ?_
  refine GW.iload_n (pc' := 5) dX7_ageByBook_4 rfl rfl ?_
  refine GW.iconst (pc' := 6) (v := 3) dX7_ageByBook_5 rfl (by decide) ?_
  refine GW.callV (pc' := 9) (k := 20) (av := [.int v1, .int 3]) (rest := []) dX7_ageByBook_6 rfl mk_X3_fact lk_X7_57 vk_X3_fact ko_20 rfl rfl (Nat.le_of_ble_eq_true rfl) (bk_i (MI.mono h (fun r1 M2 h => ?_)))
  refine GW.istore (pc' := 11) (lv' := [(0, .ref 1), (1, .int v1), (2, .int v2), (3, .int v3), (4, .int r1)]) dX7_ageByBook_9 rfl rfl (by decide) rfl ?_
  refine GW.aload_n (pc' := 12) dX7_ageByBook_11 rfl rfl ?_
  refine GW.getR (pc' := 15) (t := 15) dX7_ageByBook_12 rfl fk_X7_12 rfl (by decide) rfl rfl ?_
  refine GW.iload_n (pc' := 16) dX7_ageByBook_15 rfl rfl ?_
  refine GW.iload_n (pc' := 17) dX7_ageByBook_16 rfl rfl ?_
  refine GW.sipush (pc' := 20) (v := 365) dX7_ageByBook_17 rfl (by decide) ?_
  refine GW.idiv (pc' := 21) dX7_ageByBook_20 rfl (by decide) ?_
  refine GW.callV (pc' := 24) (k := 15) (av := [.int v2, .int (v3 / 365)]) (rest := []) dX7_ageByBook_21 rfl mk_X6_nameOf lk_X7_86 vk_X6_nameOf ko_15 rfl rfl (Nat.le_of_ble_eq_true rfl) (bk_i (MI.mono h (fun r3 M4 h => ?_)))
  refine GW.aload_n (pc' := 25) dX7_ageByBook_24 rfl rfl ?_
  refine GW.getR (pc' := 28) (t := 15) dX7_ageByBook_25 rfl fk_X7_12 rfl (by decide) rfl rfl ?_
  refine GW.aload_n (pc' := 29) dX7_ageByBook_28 rfl rfl ?_
  refine GW.getR (pc' := 32) (t := 20) dX7_ageByBook_29 rfl fk_X7_21 rfl (by decide) rfl rfl ?_
  refine GW.iload_n (pc' := 33) dX7_ageByBook_32 rfl rfl ?_
  refine GW.iconst (pc' := 34) (v := 2) dX7_ageByBook_33 rfl (by decide) ?_
  refine GW.callV (pc' := 37) (k := 20) (av := [.int v1, .int 2]) (rest := [.ref 15, .int r3]) dX7_ageByBook_34 rfl mk_X3_fact lk_X7_57 vk_X3_fact ko_20 rfl rfl (Nat.le_of_ble_eq_true rfl) (bk_i (MI.mono h (fun r5 M6 h => ?_)))
  refine GW.iload (pc' := 39) dX7_ageByBook_37 rfl rfl ?_
  refine GW.sipush (pc' := 42) (v := 365) dX7_ageByBook_39 rfl (by decide) ?_
  refine GW.idiv (pc' := 43) dX7_ageByBook_42 rfl (by decide) ?_
  refine GW.callV (pc' := 46) (k := 15) (av := [.int r5, .int (r1 / 365)]) (rest := [.int r3]) dX7_ageByBook_43 rfl mk_X6_nameOf lk_X7_86 vk_X6_nameOf ko_15 rfl rfl (Nat.le_of_ble_eq_true rfl) (bk_i (MI.mono h (fun r7 M8 h => ?_)))
  refine GW.isub (pc' := 47) dX7_ageByBook_46 rfl ?_
  refine GW.istore (pc' := 49) (lv' := [(0, .ref 1), (1, .int v1), (2, .int v2), (3, .int v3), (4, .int r1), (5, .int (r3 - r7))]) dX7_ageByBook_47 rfl rfl (by decide) rfl ?_
  refine GW.iload_n (pc' := 50) dX7_ageByBook_49 rfl rfl ?_
  refine GW.sipush (pc' := 53) (v := 365) dX7_ageByBook_50 rfl (by decide) ?_
  refine GW.irem (pc' := 54) dX7_ageByBook_53 rfl (by decide) ?_
  refine GW.iload (pc' := 56) dX7_ageByBook_54 rfl rfl ?_
  refine GW.sipush (pc' := 59) (v := 365) dX7_ageByBook_56 rfl (by decide) ?_
  refine GW.irem (pc' := 60) dX7_ageByBook_59 rfl (by decide) ?_
  refine GW.if_icmpge (pc' := 63) (tgt := 66) dX7_ageByBook_60 rfl (by decide) (ite_i (fun c9 => ?_) (fun c9 => ?_))
  · replace h := ite_t h c9
    refine GW.iinc (pc' := 66) (lv' := [(0, .ref 1), (1, .int v1), (2, .int v2), (3, .int v3), (4, .int r1), (5, .int ((r3 - r7) + (-1)))]) (v := ((r3 - r7) + (-1))) dX7_ageByBook_63 rfl rfl (by decide) rfl rfl rfl ?_
    refine GW.iconst (pc' := 67) (v := 0) dX7_ageByBook_66 rfl (by decide) ?_
    refine GW.iload (pc' := 69) dX7_ageByBook_67 rfl rfl ?_
    refine GW.mmax (pc' := 72) dX7_ageByBook_69 rfl zk_X7_74 (Nat.le_of_ble_eq_true rfl) ?_
    refine GW.iret dX7_ageByBook_72 rfl ⟨_, rfl, ?_⟩
    exact h
  · replace h := ite_f h c9
    refine GW.iconst (pc' := 67) (v := 0) dX7_ageByBook_66 rfl (by decide) ?_
    refine GW.iload (pc' := 69) dX7_ageByBook_67 rfl rfl ?_
    refine GW.mmax (pc' := 72) dX7_ageByBook_69 rfl zk_X7_74 (Nat.le_of_ble_eq_true rfl) ?_
    refine GW.iret dX7_ageByBook_72 rfl ⟨_, rfl, ?_⟩
    exact h

set_option maxRecDepth 100000 in
set_option maxHeartbeats 4000000 in
theorem wp_X7_ageByLaw_1 (xs : gX) (d : Nat) (v1 : Int32) (v2 : Int32) (v3 : Int32) (M : Mem) (Q : Int32 → Mem → Prop) (h : (if (M.1 29 3) = 0 then Q (gmax v1 v2) M else MI xs (d + 1) mX1_value [.ref 29, .int v1, .int v2, .int v3] M (fun r2 M3 => MI xs (d + 1) mX8_hold [.int r2, .int 0, .int 999] M3 (fun r4 M5 => Q r4 M5)))) : MI xs (d + 2) mX7_ageByLaw [.ref 1, .int v1, .int v2, .int v3] M Q := by
  refine MI.intro (lv := [(0, .ref 1), (1, .int v1), (2, .int v2), (3, .int v3)]) mk_X7_ageByLaw.2.2.2.2 (Nat.le_of_ble_eq_true rfl) rfl ?_
  refine GW.aload_n (pc' := 1) dX7_ageByLaw_0 rfl rfl ?_
  refine GW.getR (pc' := 4) (t := 29) dX7_ageByLaw_1 rfl fk_X7_35 rfl (by decide) rfl rfl ?_
  refine GW.getI (pc' := 7) dX7_ageByLaw_4 rfl fk_X7_89 rfl (by decide) rfl rfl ?_
  refine GW.ifeq (pc' := 10) (tgt := 30) dX7_ageByLaw_7 rfl (by decide) (ite_i (fun c1 => ?_) (fun c1 => ?_))
  · replace h := ite_t h c1
    refine GW.iload_n (pc' := 31) dX7_ageByLaw_30 rfl rfl ?_
    refine GW.iload_n (pc' := 32) dX7_ageByLaw_31 rfl rfl ?_
    refine GW.mmax (pc' := 35) dX7_ageByLaw_32 rfl zk_X7_74 (Nat.le_of_ble_eq_true rfl) ?_
    refine GW.iret dX7_ageByLaw_35 rfl ⟨_, rfl, ?_⟩
    exact h
  · replace h := ite_f h c1
    refine GW.aload_n (pc' := 11) dX7_ageByLaw_10 rfl rfl ?_
    refine GW.getR (pc' := 14) (t := 29) dX7_ageByLaw_11 rfl fk_X7_35 rfl (by decide) rfl rfl ?_
    refine GW.iload_n (pc' := 15) dX7_ageByLaw_14 rfl rfl ?_
    refine GW.iload_n (pc' := 16) dX7_ageByLaw_15 rfl rfl ?_
    refine GW.iload_n (pc' := 17) dX7_ageByLaw_16 rfl rfl ?_
    refine GW.callV (pc' := 20) (k := 29) (av := [.int v1, .int v2, .int v3]) (rest := []) dX7_ageByLaw_17 rfl mk_X1_value lk_X7_93 vk_X1_value ko_29 rfl rfl (Nat.le_of_ble_eq_true rfl) (bk_i (MI.mono h (fun r2 M3 h => ?_)))
    refine GW.iconst (pc' := 21) (v := 0) dX7_ageByLaw_20 rfl (by decide) ?_
    refine GW.sipush (pc' := 24) (v := 999) dX7_ageByLaw_21 rfl (by decide) ?_
    refine GW.callS (pc' := 27) (av := [.int r2, .int 0, .int 999]) (rest := []) dX7_ageByLaw_24 rfl mk_X8_hold lk_X7_96 sk_X8_hold rfl rfl (Nat.le_of_ble_eq_true rfl) (bk_i (MI.mono h (fun r4 M5 h => ?_)))
    refine GW.goto (tgt := 35) dX7_ageByLaw_27 (by decide) ?_
    refine GW.iret dX7_ageByLaw_35 rfl ⟨_, rfl, ?_⟩
    exact h

set_option maxRecDepth 100000 in
set_option maxHeartbeats 4000000 in
theorem wp_X7_ageOf_1 (xs : gX) (d : Nat) (v1 : Int32) (v2 : Int32) (v3 : Int32) (M : Mem) (Q : Int32 → Mem → Prop) (h : MI xs (d + 2) mX3_fact [.ref 20, .int v1, .int 3] M (fun r1 M2 => (if v3 < r1 then Q 0 M2 else MI xs (d + 2) mX3_fact [.ref 20, .int v1, .int 1] M2 (fun r4 M5 => MI xs (d + 2) mX3_fact [.ref 20, .int v1, .int 0] M5 (fun r6 M7 => (if r6 = 0 then Q ((v3 - r1) / 365) M7 else (if r6 = 1 then MI xs (d + 2) mX7_ageByBook [.ref 1, .int v1, .int v2, .int v3] M7 (fun r10 M11 => Q r10 M11) else (if r6 = 2 then MI xs (d + 2) mX6_turnsOfName [.ref 15, .int v2, .int (r1 / 365), .int (v3 / 365)] M7 (fun r13 M14 => Q r13 M14) else (if r6 = 3 then Q (((v3 - r1) / 365) + r4) M7 else (if r6 = 4 then MI xs (d + 2) mX7_ageByBook [.ref 1, .int v1, .int v2, .int v3] M7 (fun r17 M18 => Q (gmax 0 (r17 - r4)) M18) else (if r6 = 5 then MI xs (d + 2) mX7_ageByBook [.ref 1, .int v1, .int v2, .int v3] M7 (fun r20 M21 => MI xs (d + 2) mX6_partsOf [.ref 15, .int v2] M21 (fun r22 M23 => Q (r20 + r22) M23)) else MI xs (d + 2) mX7_ageByBook [.ref 1, .int v1, .int v2, .int v3] M7 (fun r24 M25 => MI xs (d + 2) mX7_ageByLaw [.ref 1, .int r24, .int ((v3 - r1) / 365), .int r4] M25 (fun r26 M27 => Q r26 M27))))))))))))) : MI xs (d + 3) mX7_ageOf [.ref 1, .int v1, .int v2, .int v3] M Q := by
  refine MI.intro (lv := [(0, .ref 1), (1, .int v1), (2, .int v2), (3, .int v3)]) mk_X7_ageOf.2.2.2.2 (Nat.le_of_ble_eq_true rfl) rfl ?_
  refine GW.aload_n (pc' := 1) dX7_ageOf_0 rfl rfl ?_
  refine GW.getR (pc' := 4) (t := 20) dX7_ageOf_1 rfl fk_X7_21 rfl (by decide) rfl rfl ?_
  refine GW.iload_n (pc' := 5) dX7_ageOf_4 rfl rfl ?_
  refine GW.iconst (pc' := 6) (v := 3) dX7_ageOf_5 rfl (by decide) ?_
  refine GW.callV (pc' := 9) (k := 20) (av := [.int v1, .int 3]) (rest := []) dX7_ageOf_6 rfl mk_X3_fact lk_X7_57 vk_X3_fact ko_20 rfl rfl (Nat.le_of_ble_eq_true rfl) (bk_i (MI.mono h (fun r1 M2 h => ?_)))
  refine GW.istore (pc' := 11) (lv' := [(0, .ref 1), (1, .int v1), (2, .int v2), (3, .int v3), (4, .int r1)]) dX7_ageOf_9 rfl rfl (by decide) rfl ?_
  refine GW.iload_n (pc' := 12) dX7_ageOf_11 rfl rfl ?_
  refine GW.iload (pc' := 14) dX7_ageOf_12 rfl rfl ?_
  refine GW.if_icmpge (pc' := 17) (tgt := 19) dX7_ageOf_14 rfl (by decide) (ite_i (fun c3 => ?_) (fun c3 => ?_))
  · replace h := ite_t h c3
    refine GW.iconst (pc' := 18) (v := 0) dX7_ageOf_17 rfl (by decide) ?_
    refine GW.iret dX7_ageOf_18 rfl ⟨_, rfl, ?_⟩
    exact h
  · replace h := ite_f h c3
    refine GW.iload_n (pc' := 20) dX7_ageOf_19 rfl rfl ?_
    refine GW.iload (pc' := 22) dX7_ageOf_20 rfl rfl ?_
    refine GW.isub (pc' := 23) dX7_ageOf_22 rfl ?_
    refine GW.sipush (pc' := 26) (v := 365) dX7_ageOf_23 rfl (by decide) ?_
    refine GW.idiv (pc' := 27) dX7_ageOf_26 rfl (by decide) ?_
    refine GW.istore (pc' := 29) (lv' := [(0, .ref 1), (1, .int v1), (2, .int v2), (3, .int v3), (4, .int r1), (5, .int ((v3 - r1) / 365))]) dX7_ageOf_27 rfl rfl (by decide) rfl ?_
    refine GW.aload_n (pc' := 30) dX7_ageOf_29 rfl rfl ?_
    refine GW.getR (pc' := 33) (t := 20) dX7_ageOf_30 rfl fk_X7_21 rfl (by decide) rfl rfl ?_
    refine GW.iload_n (pc' := 34) dX7_ageOf_33 rfl rfl ?_
    refine GW.iconst (pc' := 35) (v := 1) dX7_ageOf_34 rfl (by decide) ?_
    refine GW.callV (pc' := 38) (k := 20) (av := [.int v1, .int 1]) (rest := []) dX7_ageOf_35 rfl mk_X3_fact lk_X7_57 vk_X3_fact ko_20 rfl rfl (Nat.le_of_ble_eq_true rfl) (bk_i (MI.mono h (fun r4 M5 h => ?_)))
    refine GW.istore (pc' := 40) (lv' := [(0, .ref 1), (1, .int v1), (2, .int v2), (3, .int v3), (4, .int r1), (5, .int ((v3 - r1) / 365)), (6, .int r4)]) dX7_ageOf_38 rfl rfl (by decide) rfl ?_
    refine GW.aload_n (pc' := 41) dX7_ageOf_40 rfl rfl ?_
    refine GW.getR (pc' := 44) (t := 20) dX7_ageOf_41 rfl fk_X7_21 rfl (by decide) rfl rfl ?_
    refine GW.iload_n (pc' := 45) dX7_ageOf_44 rfl rfl ?_
    refine GW.iconst (pc' := 46) (v := 0) dX7_ageOf_45 rfl (by decide) ?_
    refine GW.callV (pc' := 49) (k := 20) (av := [.int v1, .int 0]) (rest := []) dX7_ageOf_46 rfl mk_X3_fact lk_X7_57 vk_X3_fact ko_20 rfl rfl (Nat.le_of_ble_eq_true rfl) (bk_i (MI.mono h (fun r6 M7 h => ?_)))
    by_cases c8 : r6 = 0
    · replace h := ite_t h c8
      refine GW.tswIn (v := 0) (tgt := 88) dX7_ageOf_49 (by rw [c8]; rfl) (by decide) (by decide) rfl (by decide) ?_
      refine GW.iload (pc' := 90) dX7_ageOf_88 rfl rfl ?_
      refine GW.iret dX7_ageOf_90 rfl ⟨_, rfl, ?_⟩
      exact h
    · replace h := ite_f h c8
      by_cases c9 : r6 = 1
      · replace h := ite_t h c9
        refine GW.tswIn (v := 1) (tgt := 91) dX7_ageOf_49 (by rw [c9]; rfl) (by decide) (by decide) rfl (by decide) ?_
        refine GW.aload_n (pc' := 92) dX7_ageOf_91 rfl rfl ?_
        refine GW.iload_n (pc' := 93) dX7_ageOf_92 rfl rfl ?_
        refine GW.iload_n (pc' := 94) dX7_ageOf_93 rfl rfl ?_
        refine GW.iload_n (pc' := 95) dX7_ageOf_94 rfl rfl ?_
        refine GW.callV (pc' := 98) (k := 1) (av := [.int v1, .int v2, .int v3]) (rest := []) dX7_ageOf_95 rfl mk_X7_ageByBook lk_X7_68 vk_X7_ageByBook ko_1 rfl rfl (Nat.le_of_ble_eq_true rfl) (bk_i (MI.mono h (fun r10 M11 h => ?_)))
        refine GW.iret dX7_ageOf_98 rfl ⟨_, rfl, ?_⟩
        exact h
      · replace h := ite_f h c9
        by_cases c12 : r6 = 2
        · replace h := ite_t h c12
          refine GW.tswIn (v := 2) (tgt := 99) dX7_ageOf_49 (by rw [c12]; rfl) (by decide) (by decide) rfl (by decide) ?_
          refine GW.aload_n (pc' := 100) dX7_ageOf_99 rfl rfl ?_
          refine GW.getR (pc' := 103) (t := 15) dX7_ageOf_100 rfl fk_X7_12 rfl (by decide) rfl rfl ?_
          refine GW.iload_n (pc' := 104) dX7_ageOf_103 rfl rfl ?_
          refine GW.iload (pc' := 106) dX7_ageOf_104 rfl rfl ?_
          refine GW.sipush (pc' := 109) (v := 365) dX7_ageOf_106 rfl (by decide) ?_
          refine GW.idiv (pc' := 110) dX7_ageOf_109 rfl (by decide) ?_
          refine GW.iload_n (pc' := 111) dX7_ageOf_110 rfl rfl ?_
          refine GW.sipush (pc' := 114) (v := 365) dX7_ageOf_111 rfl (by decide) ?_
          refine GW.idiv (pc' := 115) dX7_ageOf_114 rfl (by decide) ?_
          refine GW.callV (pc' := 118) (k := 15) (av := [.int v2, .int (r1 / 365), .int (v3 / 365)]) (rest := []) dX7_ageOf_115 rfl mk_X6_turnsOfName lk_X7_71 vk_X6_turnsOfName ko_15 rfl rfl (Nat.le_of_ble_eq_true rfl) (bk_i (MI.mono h (fun r13 M14 h => ?_)))
          refine GW.iret dX7_ageOf_118 rfl ⟨_, rfl, ?_⟩
          exact h
        · replace h := ite_f h c12
          by_cases c15 : r6 = 3
          · replace h := ite_t h c15
            refine GW.tswIn (v := 3) (tgt := 119) dX7_ageOf_49 (by rw [c15]; rfl) (by decide) (by decide) rfl (by decide) ?_
            refine GW.iload (pc' := 121) dX7_ageOf_119 rfl rfl ?_
            refine GW.iload (pc' := 123) dX7_ageOf_121 rfl rfl ?_
            refine GW.iadd (pc' := 124) dX7_ageOf_123 rfl ?_
            refine GW.iret dX7_ageOf_124 rfl ⟨_, rfl, ?_⟩
            exact h
          · replace h := ite_f h c15
            by_cases c16 : r6 = 4
            · replace h := ite_t h c16
              refine GW.tswIn (v := 4) (tgt := 125) dX7_ageOf_49 (by rw [c16]; rfl) (by decide) (by decide) rfl (by decide) ?_
              refine GW.iconst (pc' := 126) (v := 0) dX7_ageOf_125 rfl (by decide) ?_
              refine GW.aload_n (pc' := 127) dX7_ageOf_126 rfl rfl ?_
              refine GW.iload_n (pc' := 128) dX7_ageOf_127 rfl rfl ?_
              refine GW.iload_n (pc' := 129) dX7_ageOf_128 rfl rfl ?_
              refine GW.iload_n (pc' := 130) dX7_ageOf_129 rfl rfl ?_
              refine GW.callV (pc' := 133) (k := 1) (av := [.int v1, .int v2, .int v3]) (rest := [.int 0]) dX7_ageOf_130 rfl mk_X7_ageByBook lk_X7_68 vk_X7_ageByBook ko_1 rfl rfl (Nat.le_of_ble_eq_true rfl) (bk_i (MI.mono h (fun r17 M18 h => ?_)))
              refine GW.iload (pc' := 135) dX7_ageOf_133 rfl rfl ?_
              refine GW.isub (pc' := 136) dX7_ageOf_135 rfl ?_
              refine GW.mmax (pc' := 139) dX7_ageOf_136 rfl zk_X7_74 (Nat.le_of_ble_eq_true rfl) ?_
              refine GW.iret dX7_ageOf_139 rfl ⟨_, rfl, ?_⟩
              exact h
            · replace h := ite_f h c16
              by_cases c19 : r6 = 5
              · replace h := ite_t h c19
                refine GW.tswIn (v := 5) (tgt := 140) dX7_ageOf_49 (by rw [c19]; rfl) (by decide) (by decide) rfl (by decide) ?_
                refine GW.aload_n (pc' := 141) dX7_ageOf_140 rfl rfl ?_
                refine GW.iload_n (pc' := 142) dX7_ageOf_141 rfl rfl ?_
                refine GW.iload_n (pc' := 143) dX7_ageOf_142 rfl rfl ?_
                refine GW.iload_n (pc' := 144) dX7_ageOf_143 rfl rfl ?_
                refine GW.callV (pc' := 147) (k := 1) (av := [.int v1, .int v2, .int v3]) (rest := []) dX7_ageOf_144 rfl mk_X7_ageByBook lk_X7_68 vk_X7_ageByBook ko_1 rfl rfl (Nat.le_of_ble_eq_true rfl) (bk_i (MI.mono h (fun r20 M21 h => ?_)))
                refine GW.aload_n (pc' := 148) dX7_ageOf_147 rfl rfl ?_
                refine GW.getR (pc' := 151) (t := 15) dX7_ageOf_148 rfl fk_X7_12 rfl (by decide) rfl rfl ?_
                refine GW.iload_n (pc' := 152) dX7_ageOf_151 rfl rfl ?_
                refine GW.callV (pc' := 155) (k := 15) (av := [.int v2]) (rest := [.int r20]) dX7_ageOf_152 rfl mk_X6_partsOf lk_X7_79 vk_X6_partsOf ko_15 rfl rfl (Nat.le_of_ble_eq_true rfl) (bk_i (MI.mono h (fun r22 M23 h => ?_)))
                refine GW.iadd (pc' := 156) dX7_ageOf_155 rfl ?_
                refine GW.iret dX7_ageOf_156 rfl ⟨_, rfl, ?_⟩
                exact h
              · replace h := ite_f h c19
                refine GW.tswOut (tgt := 157) dX7_ageOf_49 (by have qc8 := lv_neT c8 (rfl : _ = (0 : Int)); have qc9 := lv_neT c9 (rfl : _ = (1 : Int)); have qc12 := lv_neT c12 (rfl : _ = (2 : Int)); have qc15 := lv_neT c15 (rfl : _ = (3 : Int)); have qc16 := lv_neT c16 (rfl : _ = (4 : Int)); have qc19 := lv_neT c19 (rfl : _ = (5 : Int)); omega) (by decide) ?_
                refine GW.aload_n (pc' := 158) dX7_ageOf_157 rfl rfl ?_
                refine GW.aload_n (pc' := 159) dX7_ageOf_158 rfl rfl ?_
                refine GW.iload_n (pc' := 160) dX7_ageOf_159 rfl rfl ?_
                refine GW.iload_n (pc' := 161) dX7_ageOf_160 rfl rfl ?_
                refine GW.iload_n (pc' := 162) dX7_ageOf_161 rfl rfl ?_
                refine GW.callV (pc' := 165) (k := 1) (av := [.int v1, .int v2, .int v3]) (rest := [.ref 1]) dX7_ageOf_162 rfl mk_X7_ageByBook lk_X7_68 vk_X7_ageByBook ko_1 rfl rfl (Nat.le_of_ble_eq_true rfl) (bk_i (MI.mono h (fun r24 M25 h => ?_)))
                refine GW.iload (pc' := 167) dX7_ageOf_165 rfl rfl ?_
                refine GW.iload (pc' := 169) dX7_ageOf_167 rfl rfl ?_
                refine GW.callV (pc' := 172) (k := 1) (av := [.int r24, .int ((v3 - r1) / 365), .int r4]) (rest := []) dX7_ageOf_169 rfl mk_X7_ageByLaw lk_X7_83 vk_X7_ageByLaw ko_1 rfl rfl (Nat.le_of_ble_eq_true rfl) (bk_i (MI.mono h (fun r26 M27 h => ?_)))
                refine GW.iret dX7_ageOf_172 rfl ⟨_, rfl, ?_⟩
                exact h

set_option maxRecDepth 100000 in
set_option maxHeartbeats 4000000 in
theorem wp_X7_areTwins_1 (xs : gX) (d : Nat) (v1 : Int32) (v2 : Int32) (M : Mem) (Q : Int32 → Mem → Prop) (h : MI xs (d + 2) mX3_fact [.ref 20, .int v1, .int 2] M (fun r1 M2 => MI xs (d + 2) mX3_fact [.ref 20, .int v1, .int 3] M2 (fun r3 M4 => MI xs (d + 2) mX3_fact [.ref 20, .int v2, .int 3] M4 (fun r5 M6 => MI xs (d + 2) mX3_isOf [.ref 20, .int v1, .int 1] M6 (fun r7 M8 => (if r7 = 0 then Q 0 M8 else MI xs (d + 2) mX3_isOf [.ref 20, .int v2, .int 1] M8 (fun r10 M11 => (if r10 = 0 then Q 0 M11 else MI xs (d + 2) mX3_fact [.ref 20, .int v2, .int 2] M11 (fun r13 M14 => (if r13 = r1 then (if r5 = r3 then Q 0 M14 else MI xs (d + 2) mX6_dateOf [.ref 15, .int r1, .int r3] M14 (fun r17 M18 => MI xs (d + 2) mX6_dateOf [.ref 15, .int r1, .int r5] M18 (fun r19 M20 => (if r17 = r19 then Q 1 M20 else Q 0 M20)))) else Q 0 M14)))))))))) : MI xs (d + 3) mX7_areTwins [.ref 1, .int v1, .int v2] M Q := by
  refine MI.intro (lv := [(0, .ref 1), (1, .int v1), (2, .int v2)]) mk_X7_areTwins.2.2.2.2 (Nat.le_of_ble_eq_true rfl) rfl ?_
  refine GW.aload_n (pc' := 1) dX7_areTwins_0 rfl rfl ?_
  refine GW.getR (pc' := 4) (t := 20) dX7_areTwins_1 rfl fk_X7_21 rfl (by decide) rfl rfl ?_
  refine GW.iload_n (pc' := 5) dX7_areTwins_4 rfl rfl ?_
  refine GW.iconst (pc' := 6) (v := 2) dX7_areTwins_5 rfl (by decide) ?_
  refine GW.callV (pc' := 9) (k := 20) (av := [.int v1, .int 2]) (rest := []) dX7_areTwins_6 rfl mk_X3_fact lk_X7_57 vk_X3_fact ko_20 rfl rfl (Nat.le_of_ble_eq_true rfl) (bk_i (MI.mono h (fun r1 M2 h => ?_)))
  refine GW.istore_n (pc' := 10) (lv' := [(0, .ref 1), (1, .int v1), (2, .int v2), (3, .int r1)]) dX7_areTwins_9 rfl rfl (by decide) rfl ?_
  refine GW.aload_n (pc' := 11) dX7_areTwins_10 rfl rfl ?_
  refine GW.getR (pc' := 14) (t := 20) dX7_areTwins_11 rfl fk_X7_21 rfl (by decide) rfl rfl ?_
  refine GW.iload_n (pc' := 15) dX7_areTwins_14 rfl rfl ?_
  refine GW.iconst (pc' := 16) (v := 3) dX7_areTwins_15 rfl (by decide) ?_
  refine GW.callV (pc' := 19) (k := 20) (av := [.int v1, .int 3]) (rest := []) dX7_areTwins_16 rfl mk_X3_fact lk_X7_57 vk_X3_fact ko_20 rfl rfl (Nat.le_of_ble_eq_true rfl) (bk_i (MI.mono h (fun r3 M4 h => ?_)))
  refine GW.istore (pc' := 21) (lv' := [(0, .ref 1), (1, .int v1), (2, .int v2), (3, .int r1), (4, .int r3)]) dX7_areTwins_19 rfl rfl (by decide) rfl ?_
  refine GW.aload_n (pc' := 22) dX7_areTwins_21 rfl rfl ?_
  refine GW.getR (pc' := 25) (t := 20) dX7_areTwins_22 rfl fk_X7_21 rfl (by decide) rfl rfl ?_
  refine GW.iload_n (pc' := 26) dX7_areTwins_25 rfl rfl ?_
  refine GW.iconst (pc' := 27) (v := 3) dX7_areTwins_26 rfl (by decide) ?_
  refine GW.callV (pc' := 30) (k := 20) (av := [.int v2, .int 3]) (rest := []) dX7_areTwins_27 rfl mk_X3_fact lk_X7_57 vk_X3_fact ko_20 rfl rfl (Nat.le_of_ble_eq_true rfl) (bk_i (MI.mono h (fun r5 M6 h => ?_)))
  refine GW.istore (pc' := 32) (lv' := [(0, .ref 1), (1, .int v1), (2, .int v2), (3, .int r1), (4, .int r3), (5, .int r5)]) dX7_areTwins_30 rfl rfl (by decide) rfl ?_
  refine GW.aload_n (pc' := 33) dX7_areTwins_32 rfl rfl ?_
  refine GW.getR (pc' := 36) (t := 20) dX7_areTwins_33 rfl fk_X7_21 rfl (by decide) rfl rfl ?_
  refine GW.iload_n (pc' := 37) dX7_areTwins_36 rfl rfl ?_
  refine GW.iconst (pc' := 38) (v := 1) dX7_areTwins_37 rfl (by decide) ?_
  refine GW.callV (pc' := 41) (k := 20) (av := [.int v1, .int 1]) (rest := []) dX7_areTwins_38 rfl mk_X3_isOf lk_X7_108 vk_X3_isOf ko_20 rfl rfl (Nat.le_of_ble_eq_true rfl) (bk_i (MI.mono h (fun r7 M8 h => ?_)))
  refine GW.ifeq (pc' := 44) (tgt := 103) dX7_areTwins_41 rfl (by decide) (ite_i (fun c9 => ?_) (fun c9 => ?_))
  · replace h := ite_t h c9
    refine GW.iconst (pc' := 104) (v := 0) dX7_areTwins_103 rfl (by decide) ?_
    refine GW.zret dX7_areTwins_104 rfl (by decide) ⟨_, rfl, ?_⟩
    exact h
  · replace h := ite_f h c9
    refine GW.aload_n (pc' := 45) dX7_areTwins_44 rfl rfl ?_
    refine GW.getR (pc' := 48) (t := 20) dX7_areTwins_45 rfl fk_X7_21 rfl (by decide) rfl rfl ?_
    refine GW.iload_n (pc' := 49) dX7_areTwins_48 rfl rfl ?_
    refine GW.iconst (pc' := 50) (v := 1) dX7_areTwins_49 rfl (by decide) ?_
    refine GW.callV (pc' := 53) (k := 20) (av := [.int v2, .int 1]) (rest := []) dX7_areTwins_50 rfl mk_X3_isOf lk_X7_108 vk_X3_isOf ko_20 rfl rfl (Nat.le_of_ble_eq_true rfl) (bk_i (MI.mono h (fun r10 M11 h => ?_)))
    refine GW.ifeq (pc' := 56) (tgt := 103) dX7_areTwins_53 rfl (by decide) (ite_i (fun c12 => ?_) (fun c12 => ?_))
    · replace h := ite_t h c12
      refine GW.iconst (pc' := 104) (v := 0) dX7_areTwins_103 rfl (by decide) ?_
      refine GW.zret dX7_areTwins_104 rfl (by decide) ⟨_, rfl, ?_⟩
      exact h
    · replace h := ite_f h c12
      refine GW.aload_n (pc' := 57) dX7_areTwins_56 rfl rfl ?_
      refine GW.getR (pc' := 60) (t := 20) dX7_areTwins_57 rfl fk_X7_21 rfl (by decide) rfl rfl ?_
      refine GW.iload_n (pc' := 61) dX7_areTwins_60 rfl rfl ?_
      refine GW.iconst (pc' := 62) (v := 2) dX7_areTwins_61 rfl (by decide) ?_
      refine GW.callV (pc' := 65) (k := 20) (av := [.int v2, .int 2]) (rest := []) dX7_areTwins_62 rfl mk_X3_fact lk_X7_57 vk_X3_fact ko_20 rfl rfl (Nat.le_of_ble_eq_true rfl) (bk_i (MI.mono h (fun r13 M14 h => ?_)))
      refine GW.iload_n (pc' := 66) dX7_areTwins_65 rfl rfl ?_
      refine GW.if_icmpne (pc' := 69) (tgt := 103) dX7_areTwins_66 rfl (by decide) (ite_i (fun c15 => ?_) (fun c15 => ?_))
      · replace h := ite_t h c15
        refine GW.iload (pc' := 71) dX7_areTwins_69 rfl rfl ?_
        refine GW.iload (pc' := 73) dX7_areTwins_71 rfl rfl ?_
        refine GW.if_icmpeq (pc' := 76) (tgt := 103) dX7_areTwins_73 rfl (by decide) (ite_i (fun c16 => ?_) (fun c16 => ?_))
        · replace h := ite_t h c16
          refine GW.iconst (pc' := 104) (v := 0) dX7_areTwins_103 rfl (by decide) ?_
          refine GW.zret dX7_areTwins_104 rfl (by decide) ⟨_, rfl, ?_⟩
          exact h
        · replace h := ite_f h c16
          refine GW.aload_n (pc' := 77) dX7_areTwins_76 rfl rfl ?_
          refine GW.getR (pc' := 80) (t := 15) dX7_areTwins_77 rfl fk_X7_12 rfl (by decide) rfl rfl ?_
          refine GW.iload_n (pc' := 81) dX7_areTwins_80 rfl rfl ?_
          refine GW.iload (pc' := 83) dX7_areTwins_81 rfl rfl ?_
          refine GW.callV (pc' := 86) (k := 15) (av := [.int r1, .int r3]) (rest := []) dX7_areTwins_83 rfl mk_X6_dateOf lk_X7_112 vk_X6_dateOf ko_15 rfl rfl (Nat.le_of_ble_eq_true rfl) (bk_i (MI.mono h (fun r17 M18 h => ?_)))
          refine GW.aload_n (pc' := 87) dX7_areTwins_86 rfl rfl ?_
          refine GW.getR (pc' := 90) (t := 15) dX7_areTwins_87 rfl fk_X7_12 rfl (by decide) rfl rfl ?_
          refine GW.iload_n (pc' := 91) dX7_areTwins_90 rfl rfl ?_
          refine GW.iload (pc' := 93) dX7_areTwins_91 rfl rfl ?_
          refine GW.callV (pc' := 96) (k := 15) (av := [.int r1, .int r5]) (rest := [.int r17]) dX7_areTwins_93 rfl mk_X6_dateOf lk_X7_112 vk_X6_dateOf ko_15 rfl rfl (Nat.le_of_ble_eq_true rfl) (bk_i (MI.mono h (fun r19 M20 h => ?_)))
          refine GW.if_icmpne (pc' := 99) (tgt := 103) dX7_areTwins_96 rfl (by decide) (ite_i (fun c21 => ?_) (fun c21 => ?_))
          · replace h := ite_t h c21
            refine GW.iconst (pc' := 100) (v := 1) dX7_areTwins_99 rfl (by decide) ?_
            refine GW.goto (tgt := 104) dX7_areTwins_100 (by decide) ?_
            refine GW.zret dX7_areTwins_104 rfl (by decide) ⟨_, rfl, ?_⟩
            exact h
          · replace h := ite_f h c21
            refine GW.iconst (pc' := 104) (v := 0) dX7_areTwins_103 rfl (by decide) ?_
            refine GW.zret dX7_areTwins_104 rfl (by decide) ⟨_, rfl, ?_⟩
            exact h
      · replace h := ite_f h c15
        refine GW.iconst (pc' := 104) (v := 0) dX7_areTwins_103 rfl (by decide) ?_
        refine GW.zret dX7_areTwins_104 rfl (by decide) ⟨_, rfl, ?_⟩
        exact h

set_option maxRecDepth 100000 in
set_option maxHeartbeats 4000000 in
theorem wp_X7_become_1_2 (xs : gX) (d : Nat)  (M : Mem) (Q : Mem → Prop) (h : MV xs (d + 2) mX6_become [.ref 15, .ref 38] M (fun M1 => MV xs (d + 2) mX3_become [.ref 20, .ref 43] M1 (fun M2 => MV xs (d + 2) mX2_become [.ref 22, .ref 45] M2 (fun M3 => MV xs (d + 1) mX1_take [.ref 29, .ref 53, .int (M3.1 52 2)] M3 (fun M4 => (((M4.1 52 3) = 0 ∨ (M4.1 52 3) = 1) ∧ MV xs (d + 1) mX1_take [.ref 32, .ref 56, .int (M4.1 55 2)] (mw M4 29 3 (M4.1 52 3)) (fun M6 => (((M6.1 55 3) = 0 ∨ (M6.1 55 3) = 1) ∧ Q (mw (mw (mw (mw (mw (mwA (mw (mwA (mw M6 32 3 (M6.1 55 3)) 35 (va_cpy (M6.1 58) (M6.1 35) 0 0 60)) 1 6 (M6.1 2 6)) 36 (va_cpy (M6.1 59) (M6.1 36) 0 0 24)) 1 8 (M6.1 2 8)) 1 9 (M6.1 2 9)) 1 10 (M6.1 2 10)) 1 11 (M6.1 2 11)) 1 12 (M6.1 2 12)))))))))) : MV xs (d + 3) mX7_become [.ref 1, .ref 2] M Q := by
  refine MV.intro (lv := [(0, .ref 1), (1, .ref 2)]) mk_X7_become.2.2.2.2 (Nat.le_of_ble_eq_true rfl) rfl ?_
  refine GW.aload_n (pc' := 1) dX7_become_0 rfl rfl ?_
  refine GW.getR (pc' := 4) (t := 15) dX7_become_1 rfl fk_X7_12 rfl (by decide) rfl rfl ?_
  refine GW.aload_n (pc' := 5) dX7_become_4 rfl rfl ?_
  refine GW.getR (pc' := 8) (t := 38) dX7_become_5 rfl fk_X7_12 rfl (by decide) rfl rfl ?_
  refine GW.callV (pc' := 11) (k := 15) (av := [.ref 38]) (rest := []) dX7_become_8 rfl mk_X6_become lk_X7_129 vk_X6_become ko_15 rfl rfl (Nat.le_of_ble_eq_true rfl) (bk_v (MV.mono h (fun M1 h => ?_)))
  refine GW.aload_n (pc' := 12) dX7_become_11 rfl rfl ?_
  refine GW.getR (pc' := 15) (t := 20) dX7_become_12 rfl fk_X7_21 rfl (by decide) rfl rfl ?_
  refine GW.aload_n (pc' := 16) dX7_become_15 rfl rfl ?_
  refine GW.getR (pc' := 19) (t := 43) dX7_become_16 rfl fk_X7_21 rfl (by decide) rfl rfl ?_
  refine GW.callV (pc' := 22) (k := 20) (av := [.ref 43]) (rest := []) dX7_become_19 rfl mk_X3_become lk_X7_133 vk_X3_become ko_20 rfl rfl (Nat.le_of_ble_eq_true rfl) (bk_v (MV.mono h (fun M2 h => ?_)))
  refine GW.aload_n (pc' := 23) dX7_become_22 rfl rfl ?_
  refine GW.getR (pc' := 26) (t := 22) dX7_become_23 rfl fk_X7_28 rfl (by decide) rfl rfl ?_
  refine GW.aload_n (pc' := 27) dX7_become_26 rfl rfl ?_
  refine GW.getR (pc' := 30) (t := 45) dX7_become_27 rfl fk_X7_28 rfl (by decide) rfl rfl ?_
  refine GW.callV (pc' := 33) (k := 22) (av := [.ref 45]) (rest := []) dX7_become_30 rfl mk_X2_become lk_X7_136 vk_X2_become ko_22 rfl rfl (Nat.le_of_ble_eq_true rfl) (bk_v (MV.mono h (fun M3 h => ?_)))
  refine GW.aload_n (pc' := 34) dX7_become_33 rfl rfl ?_
  refine GW.getR (pc' := 37) (t := 29) dX7_become_34 rfl fk_X7_35 rfl (by decide) rfl rfl ?_
  refine GW.aload_n (pc' := 38) dX7_become_37 rfl rfl ?_
  refine GW.getR (pc' := 41) (t := 52) dX7_become_38 rfl fk_X7_35 rfl (by decide) rfl rfl ?_
  refine GW.callV (pc' := 44) (k := 29) (av := [.ref 52]) (rest := []) dX7_become_41 rfl mk_X1_become lk_X7_139 vk_X1_become ko_29 rfl rfl (Nat.le_of_ble_eq_true rfl) (bk_v (MV.intro (lv := [(0, .ref 29), (1, .ref 52)]) mk_X1_become.2.2.2.2 (Nat.le_of_ble_eq_true rfl) rfl ?_))
  refine GW.aload_n (pc' := 1) dX1_become_0 rfl rfl ?_
  refine GW.aload_n (pc' := 2) dX1_become_1 rfl rfl ?_
  refine GW.getR (pc' := 5) (t := 53) dX1_become_2 rfl fk_X1_9 rfl (by decide) rfl rfl ?_
  refine GW.aload_n (pc' := 6) dX1_become_5 rfl rfl ?_
  refine GW.getI (pc' := 9) dX1_become_6 rfl fk_X1_24 rfl (by decide) rfl rfl ?_
  refine GW.callV (pc' := 12) (k := 29) (av := [.ref 53, .int (M3.1 52 2)]) (rest := []) dX1_become_9 rfl mk_X1_take lk_X1_42 vk_X1_take ko_29 rfl rfl (Nat.le_of_ble_eq_true rfl) (bk_v (MV.mono h (fun M4 h => ?_)))
  refine GW.aload_n (pc' := 13) dX1_become_12 rfl rfl ?_
  refine GW.aload_n (pc' := 14) dX1_become_13 rfl rfl ?_
  refine GW.getI (pc' := 17) dX1_become_14 rfl fk_X1_34 rfl (by decide) rfl rfl ?_
  obtain ⟨b5, h⟩ := h
  refine GW.putI (pc' := 20) dX1_become_17 rfl fp_X1_34 rfl (by decide) rfl rfl (z01 b5) ?_
  refine GW.vret dX1_become_20 rfl ⟨rfl, ?_⟩
  refine GW.aload_n (pc' := 45) dX7_become_44 rfl rfl ?_
  refine GW.getR (pc' := 48) (t := 32) dX7_become_45 rfl fk_X7_39 rfl (by decide) rfl rfl ?_
  refine GW.aload_n (pc' := 49) dX7_become_48 rfl rfl ?_
  refine GW.getR (pc' := 52) (t := 55) dX7_become_49 rfl fk_X7_39 rfl (by decide) rfl rfl ?_
  refine GW.callV (pc' := 55) (k := 32) (av := [.ref 55]) (rest := []) dX7_become_52 rfl mk_X1_become lk_X7_139 vk_X1_become ko_32 rfl rfl (Nat.le_of_ble_eq_true rfl) (bk_v (MV.intro (lv := [(0, .ref 32), (1, .ref 55)]) mk_X1_become.2.2.2.2 (Nat.le_of_ble_eq_true rfl) rfl ?_))
  refine GW.aload_n (pc' := 1) dX1_become_0 rfl rfl ?_
  refine GW.aload_n (pc' := 2) dX1_become_1 rfl rfl ?_
  refine GW.getR (pc' := 5) (t := 56) dX1_become_2 rfl fk_X1_9 rfl (by decide) rfl rfl ?_
  refine GW.aload_n (pc' := 6) dX1_become_5 rfl rfl ?_
  refine GW.getI (pc' := 9) dX1_become_6 rfl fk_X1_24 rfl (by decide) rfl rfl ?_
  refine GW.callV (pc' := 12) (k := 32) (av := [.ref 56, .int (M4.1 55 2)]) (rest := []) dX1_become_9 rfl mk_X1_take lk_X1_42 vk_X1_take ko_32 rfl rfl (Nat.le_of_ble_eq_true rfl) (bk_v (MV.mono h (fun M6 h => ?_)))
  refine GW.aload_n (pc' := 13) dX1_become_12 rfl rfl ?_
  refine GW.aload_n (pc' := 14) dX1_become_13 rfl rfl ?_
  refine GW.getI (pc' := 17) dX1_become_14 rfl fk_X1_34 rfl (by decide) rfl rfl ?_
  obtain ⟨b7, h⟩ := h
  refine GW.putI (pc' := 20) dX1_become_17 rfl fp_X1_34 rfl (by decide) rfl rfl (z01 b7) ?_
  refine GW.vret dX1_become_20 rfl ⟨rfl, ?_⟩
  refine GW.aload_n (pc' := 56) dX7_become_55 rfl rfl ?_
  refine GW.getR (pc' := 59) (t := 58) dX7_become_56 rfl fk_X7_42 rfl (by decide) rfl rfl ?_
  refine GW.iconst (pc' := 60) (v := 0) dX7_become_59 rfl (by decide) ?_
  refine GW.aload_n (pc' := 61) dX7_become_60 rfl rfl ?_
  refine GW.getR (pc' := 64) (t := 35) dX7_become_61 rfl fk_X7_42 rfl (by decide) rfl rfl ?_
  refine GW.iconst (pc' := 65) (v := 0) dX7_become_64 rfl (by decide) ?_
  refine GW.bipush (pc' := 67) (v := 60) dX7_become_65 rfl (by decide) ?_
  refine GW.copyi (pc' := 70) (sp' := 0) (dp' := 0) (n' := 60) dX7_become_67 rfl ak_X7_142 rfl rfl (by unfold CPK; decide) (by decide) (by decide) (by decide) (Nat.le_of_ble_eq_true rfl) ?_
  refine GW.aload_n (pc' := 71) dX7_become_70 rfl rfl ?_
  refine GW.aload_n (pc' := 72) dX7_become_71 rfl rfl ?_
  refine GW.getI (pc' := 75) dX7_become_72 rfl fk_X7_148 rfl (by decide) rfl rfl ?_
  refine GW.putI (pc' := 78) dX7_become_75 rfl fp_X7_148 rfl (by decide) rfl rfl ⟨rfl, rfl⟩ ?_
  refine GW.aload_n (pc' := 79) dX7_become_78 rfl rfl ?_
  refine GW.getR (pc' := 82) (t := 59) dX7_become_79 rfl fk_X7_46 rfl (by decide) rfl rfl ?_
  refine GW.iconst (pc' := 83) (v := 0) dX7_become_82 rfl (by decide) ?_
  refine GW.aload_n (pc' := 84) dX7_become_83 rfl rfl ?_
  refine GW.getR (pc' := 87) (t := 36) dX7_become_84 rfl fk_X7_46 rfl (by decide) rfl rfl ?_
  refine GW.iconst (pc' := 88) (v := 0) dX7_become_87 rfl (by decide) ?_
  refine GW.bipush (pc' := 90) (v := 24) dX7_become_88 rfl (by decide) ?_
  refine GW.copyi (pc' := 93) (sp' := 0) (dp' := 0) (n' := 24) dX7_become_90 rfl ak_X7_142 rfl rfl (by unfold CPK; decide) (by decide) (by decide) (by decide) (Nat.le_of_ble_eq_true rfl) ?_
  refine GW.aload_n (pc' := 94) dX7_become_93 rfl rfl ?_
  refine GW.aload_n (pc' := 95) dX7_become_94 rfl rfl ?_
  refine GW.getI (pc' := 98) dX7_become_95 rfl fk_X7_151 rfl (by decide) rfl rfl ?_
  refine GW.putI (pc' := 101) dX7_become_98 rfl fp_X7_151 rfl (by decide) rfl rfl ⟨rfl, rfl⟩ ?_
  refine GW.aload_n (pc' := 102) dX7_become_101 rfl rfl ?_
  refine GW.aload_n (pc' := 103) dX7_become_102 rfl rfl ?_
  refine GW.getI (pc' := 106) dX7_become_103 rfl fk_X7_61 rfl (by decide) rfl rfl ?_
  refine GW.putI (pc' := 109) dX7_become_106 rfl fp_X7_61 rfl (by decide) rfl rfl ⟨rfl, rfl⟩ ?_
  refine GW.aload_n (pc' := 110) dX7_become_109 rfl rfl ?_
  refine GW.aload_n (pc' := 111) dX7_become_110 rfl rfl ?_
  refine GW.getI (pc' := 114) dX7_become_111 rfl fk_X7_49 rfl (by decide) rfl rfl ?_
  refine GW.putI (pc' := 117) dX7_become_114 rfl fp_X7_49 rfl (by decide) rfl rfl ⟨rfl, rfl⟩ ?_
  refine GW.aload_n (pc' := 118) dX7_become_117 rfl rfl ?_
  refine GW.aload_n (pc' := 119) dX7_become_118 rfl rfl ?_
  refine GW.getI (pc' := 122) dX7_become_119 rfl fk_X7_118 rfl (by decide) rfl rfl ?_
  refine GW.putI (pc' := 125) dX7_become_122 rfl fp_X7_118 rfl (by decide) rfl rfl ⟨rfl, rfl⟩ ?_
  refine GW.aload_n (pc' := 126) dX7_become_125 rfl rfl ?_
  refine GW.aload_n (pc' := 127) dX7_become_126 rfl rfl ?_
  refine GW.getI (pc' := 130) dX7_become_127 rfl fk_X7_115 rfl (by decide) rfl rfl ?_
  refine GW.putI (pc' := 133) dX7_become_130 rfl fp_X7_115 rfl (by decide) rfl rfl ⟨rfl, rfl⟩ ?_
  refine GW.vret dX7_become_133 rfl ⟨rfl, ?_⟩
  exact h

set_option maxRecDepth 100000 in
set_option maxHeartbeats 4000000 in
theorem wp_X7_become_2_1 (xs : gX) (d : Nat)  (M : Mem) (Q : Mem → Prop) (h : MV xs (d + 2) mX6_become [.ref 38, .ref 15] M (fun M1 => MV xs (d + 2) mX3_become [.ref 43, .ref 20] M1 (fun M2 => MV xs (d + 2) mX2_become [.ref 45, .ref 22] M2 (fun M3 => MV xs (d + 1) mX1_take [.ref 52, .ref 30, .int (M3.1 29 2)] M3 (fun M4 => (((M4.1 29 3) = 0 ∨ (M4.1 29 3) = 1) ∧ MV xs (d + 1) mX1_take [.ref 55, .ref 33, .int (M4.1 32 2)] (mw M4 52 3 (M4.1 29 3)) (fun M6 => (((M6.1 32 3) = 0 ∨ (M6.1 32 3) = 1) ∧ Q (mw (mw (mw (mw (mw (mwA (mw (mwA (mw M6 55 3 (M6.1 32 3)) 58 (va_cpy (M6.1 35) (M6.1 58) 0 0 60)) 2 6 (M6.1 1 6)) 59 (va_cpy (M6.1 36) (M6.1 59) 0 0 24)) 2 8 (M6.1 1 8)) 2 9 (M6.1 1 9)) 2 10 (M6.1 1 10)) 2 11 (M6.1 1 11)) 2 12 (M6.1 1 12)))))))))) : MV xs (d + 3) mX7_become [.ref 2, .ref 1] M Q := by
  refine MV.intro (lv := [(0, .ref 2), (1, .ref 1)]) mk_X7_become.2.2.2.2 (Nat.le_of_ble_eq_true rfl) rfl ?_
  refine GW.aload_n (pc' := 1) dX7_become_0 rfl rfl ?_
  refine GW.getR (pc' := 4) (t := 38) dX7_become_1 rfl fk_X7_12 rfl (by decide) rfl rfl ?_
  refine GW.aload_n (pc' := 5) dX7_become_4 rfl rfl ?_
  refine GW.getR (pc' := 8) (t := 15) dX7_become_5 rfl fk_X7_12 rfl (by decide) rfl rfl ?_
  refine GW.callV (pc' := 11) (k := 38) (av := [.ref 15]) (rest := []) dX7_become_8 rfl mk_X6_become lk_X7_129 vk_X6_become ko_38 rfl rfl (Nat.le_of_ble_eq_true rfl) (bk_v (MV.mono h (fun M1 h => ?_)))
  refine GW.aload_n (pc' := 12) dX7_become_11 rfl rfl ?_
  refine GW.getR (pc' := 15) (t := 43) dX7_become_12 rfl fk_X7_21 rfl (by decide) rfl rfl ?_
  refine GW.aload_n (pc' := 16) dX7_become_15 rfl rfl ?_
  refine GW.getR (pc' := 19) (t := 20) dX7_become_16 rfl fk_X7_21 rfl (by decide) rfl rfl ?_
  refine GW.callV (pc' := 22) (k := 43) (av := [.ref 20]) (rest := []) dX7_become_19 rfl mk_X3_become lk_X7_133 vk_X3_become ko_43 rfl rfl (Nat.le_of_ble_eq_true rfl) (bk_v (MV.mono h (fun M2 h => ?_)))
  refine GW.aload_n (pc' := 23) dX7_become_22 rfl rfl ?_
  refine GW.getR (pc' := 26) (t := 45) dX7_become_23 rfl fk_X7_28 rfl (by decide) rfl rfl ?_
  refine GW.aload_n (pc' := 27) dX7_become_26 rfl rfl ?_
  refine GW.getR (pc' := 30) (t := 22) dX7_become_27 rfl fk_X7_28 rfl (by decide) rfl rfl ?_
  refine GW.callV (pc' := 33) (k := 45) (av := [.ref 22]) (rest := []) dX7_become_30 rfl mk_X2_become lk_X7_136 vk_X2_become ko_45 rfl rfl (Nat.le_of_ble_eq_true rfl) (bk_v (MV.mono h (fun M3 h => ?_)))
  refine GW.aload_n (pc' := 34) dX7_become_33 rfl rfl ?_
  refine GW.getR (pc' := 37) (t := 52) dX7_become_34 rfl fk_X7_35 rfl (by decide) rfl rfl ?_
  refine GW.aload_n (pc' := 38) dX7_become_37 rfl rfl ?_
  refine GW.getR (pc' := 41) (t := 29) dX7_become_38 rfl fk_X7_35 rfl (by decide) rfl rfl ?_
  refine GW.callV (pc' := 44) (k := 52) (av := [.ref 29]) (rest := []) dX7_become_41 rfl mk_X1_become lk_X7_139 vk_X1_become ko_52 rfl rfl (Nat.le_of_ble_eq_true rfl) (bk_v (MV.intro (lv := [(0, .ref 52), (1, .ref 29)]) mk_X1_become.2.2.2.2 (Nat.le_of_ble_eq_true rfl) rfl ?_))
  refine GW.aload_n (pc' := 1) dX1_become_0 rfl rfl ?_
  refine GW.aload_n (pc' := 2) dX1_become_1 rfl rfl ?_
  refine GW.getR (pc' := 5) (t := 30) dX1_become_2 rfl fk_X1_9 rfl (by decide) rfl rfl ?_
  refine GW.aload_n (pc' := 6) dX1_become_5 rfl rfl ?_
  refine GW.getI (pc' := 9) dX1_become_6 rfl fk_X1_24 rfl (by decide) rfl rfl ?_
  refine GW.callV (pc' := 12) (k := 52) (av := [.ref 30, .int (M3.1 29 2)]) (rest := []) dX1_become_9 rfl mk_X1_take lk_X1_42 vk_X1_take ko_52 rfl rfl (Nat.le_of_ble_eq_true rfl) (bk_v (MV.mono h (fun M4 h => ?_)))
  refine GW.aload_n (pc' := 13) dX1_become_12 rfl rfl ?_
  refine GW.aload_n (pc' := 14) dX1_become_13 rfl rfl ?_
  refine GW.getI (pc' := 17) dX1_become_14 rfl fk_X1_34 rfl (by decide) rfl rfl ?_
  obtain ⟨b5, h⟩ := h
  refine GW.putI (pc' := 20) dX1_become_17 rfl fp_X1_34 rfl (by decide) rfl rfl (z01 b5) ?_
  refine GW.vret dX1_become_20 rfl ⟨rfl, ?_⟩
  refine GW.aload_n (pc' := 45) dX7_become_44 rfl rfl ?_
  refine GW.getR (pc' := 48) (t := 55) dX7_become_45 rfl fk_X7_39 rfl (by decide) rfl rfl ?_
  refine GW.aload_n (pc' := 49) dX7_become_48 rfl rfl ?_
  refine GW.getR (pc' := 52) (t := 32) dX7_become_49 rfl fk_X7_39 rfl (by decide) rfl rfl ?_
  refine GW.callV (pc' := 55) (k := 55) (av := [.ref 32]) (rest := []) dX7_become_52 rfl mk_X1_become lk_X7_139 vk_X1_become ko_55 rfl rfl (Nat.le_of_ble_eq_true rfl) (bk_v (MV.intro (lv := [(0, .ref 55), (1, .ref 32)]) mk_X1_become.2.2.2.2 (Nat.le_of_ble_eq_true rfl) rfl ?_))
  refine GW.aload_n (pc' := 1) dX1_become_0 rfl rfl ?_
  refine GW.aload_n (pc' := 2) dX1_become_1 rfl rfl ?_
  refine GW.getR (pc' := 5) (t := 33) dX1_become_2 rfl fk_X1_9 rfl (by decide) rfl rfl ?_
  refine GW.aload_n (pc' := 6) dX1_become_5 rfl rfl ?_
  refine GW.getI (pc' := 9) dX1_become_6 rfl fk_X1_24 rfl (by decide) rfl rfl ?_
  refine GW.callV (pc' := 12) (k := 55) (av := [.ref 33, .int (M4.1 32 2)]) (rest := []) dX1_become_9 rfl mk_X1_take lk_X1_42 vk_X1_take ko_55 rfl rfl (Nat.le_of_ble_eq_true rfl) (bk_v (MV.mono h (fun M6 h => ?_)))
  refine GW.aload_n (pc' := 13) dX1_become_12 rfl rfl ?_
  refine GW.aload_n (pc' := 14) dX1_become_13 rfl rfl ?_
  refine GW.getI (pc' := 17) dX1_become_14 rfl fk_X1_34 rfl (by decide) rfl rfl ?_
  obtain ⟨b7, h⟩ := h
  refine GW.putI (pc' := 20) dX1_become_17 rfl fp_X1_34 rfl (by decide) rfl rfl (z01 b7) ?_
  refine GW.vret dX1_become_20 rfl ⟨rfl, ?_⟩
  refine GW.aload_n (pc' := 56) dX7_become_55 rfl rfl ?_
  refine GW.getR (pc' := 59) (t := 35) dX7_become_56 rfl fk_X7_42 rfl (by decide) rfl rfl ?_
  refine GW.iconst (pc' := 60) (v := 0) dX7_become_59 rfl (by decide) ?_
  refine GW.aload_n (pc' := 61) dX7_become_60 rfl rfl ?_
  refine GW.getR (pc' := 64) (t := 58) dX7_become_61 rfl fk_X7_42 rfl (by decide) rfl rfl ?_
  refine GW.iconst (pc' := 65) (v := 0) dX7_become_64 rfl (by decide) ?_
  refine GW.bipush (pc' := 67) (v := 60) dX7_become_65 rfl (by decide) ?_
  refine GW.copyi (pc' := 70) (sp' := 0) (dp' := 0) (n' := 60) dX7_become_67 rfl ak_X7_142 rfl rfl (by unfold CPK; decide) (by decide) (by decide) (by decide) (Nat.le_of_ble_eq_true rfl) ?_
  refine GW.aload_n (pc' := 71) dX7_become_70 rfl rfl ?_
  refine GW.aload_n (pc' := 72) dX7_become_71 rfl rfl ?_
  refine GW.getI (pc' := 75) dX7_become_72 rfl fk_X7_148 rfl (by decide) rfl rfl ?_
  refine GW.putI (pc' := 78) dX7_become_75 rfl fp_X7_148 rfl (by decide) rfl rfl ⟨rfl, rfl⟩ ?_
  refine GW.aload_n (pc' := 79) dX7_become_78 rfl rfl ?_
  refine GW.getR (pc' := 82) (t := 36) dX7_become_79 rfl fk_X7_46 rfl (by decide) rfl rfl ?_
  refine GW.iconst (pc' := 83) (v := 0) dX7_become_82 rfl (by decide) ?_
  refine GW.aload_n (pc' := 84) dX7_become_83 rfl rfl ?_
  refine GW.getR (pc' := 87) (t := 59) dX7_become_84 rfl fk_X7_46 rfl (by decide) rfl rfl ?_
  refine GW.iconst (pc' := 88) (v := 0) dX7_become_87 rfl (by decide) ?_
  refine GW.bipush (pc' := 90) (v := 24) dX7_become_88 rfl (by decide) ?_
  refine GW.copyi (pc' := 93) (sp' := 0) (dp' := 0) (n' := 24) dX7_become_90 rfl ak_X7_142 rfl rfl (by unfold CPK; decide) (by decide) (by decide) (by decide) (Nat.le_of_ble_eq_true rfl) ?_
  refine GW.aload_n (pc' := 94) dX7_become_93 rfl rfl ?_
  refine GW.aload_n (pc' := 95) dX7_become_94 rfl rfl ?_
  refine GW.getI (pc' := 98) dX7_become_95 rfl fk_X7_151 rfl (by decide) rfl rfl ?_
  refine GW.putI (pc' := 101) dX7_become_98 rfl fp_X7_151 rfl (by decide) rfl rfl ⟨rfl, rfl⟩ ?_
  refine GW.aload_n (pc' := 102) dX7_become_101 rfl rfl ?_
  refine GW.aload_n (pc' := 103) dX7_become_102 rfl rfl ?_
  refine GW.getI (pc' := 106) dX7_become_103 rfl fk_X7_61 rfl (by decide) rfl rfl ?_
  refine GW.putI (pc' := 109) dX7_become_106 rfl fp_X7_61 rfl (by decide) rfl rfl ⟨rfl, rfl⟩ ?_
  refine GW.aload_n (pc' := 110) dX7_become_109 rfl rfl ?_
  refine GW.aload_n (pc' := 111) dX7_become_110 rfl rfl ?_
  refine GW.getI (pc' := 114) dX7_become_111 rfl fk_X7_49 rfl (by decide) rfl rfl ?_
  refine GW.putI (pc' := 117) dX7_become_114 rfl fp_X7_49 rfl (by decide) rfl rfl ⟨rfl, rfl⟩ ?_
  refine GW.aload_n (pc' := 118) dX7_become_117 rfl rfl ?_
  refine GW.aload_n (pc' := 119) dX7_become_118 rfl rfl ?_
  refine GW.getI (pc' := 122) dX7_become_119 rfl fk_X7_118 rfl (by decide) rfl rfl ?_
  refine GW.putI (pc' := 125) dX7_become_122 rfl fp_X7_118 rfl (by decide) rfl rfl ⟨rfl, rfl⟩ ?_
  refine GW.aload_n (pc' := 126) dX7_become_125 rfl rfl ?_
  refine GW.aload_n (pc' := 127) dX7_become_126 rfl rfl ?_
  refine GW.getI (pc' := 130) dX7_become_127 rfl fk_X7_115 rfl (by decide) rfl rfl ?_
  refine GW.putI (pc' := 133) dX7_become_130 rfl fp_X7_115 rfl (by decide) rfl rfl ⟨rfl, rfl⟩ ?_
  refine GW.vret dX7_become_133 rfl ⟨rfl, ?_⟩
  exact h

set_option maxRecDepth 100000 in
set_option maxHeartbeats 4000000 in
theorem wp_X7_breaksBy_1 (xs : gX) (d : Nat) (v1 : Int32) (v2 : Int32) (v3 : Int32) (M : Mem) (Q : Int32 → Mem → Prop) (h : (if (M.1 15 4) < 6 then GW xs (d + 5) mX7_breaksBy 17 [(0, .ref 1), (1, .int v1), (2, .int v2), (3, .int v3), (4, .int 0)] [] M (QI Q) else Q 0 M)) : MI xs (d + 5) mX7_breaksBy [.ref 1, .int v1, .int v2, .int v3] M Q := by
  refine MI.intro (lv := [(0, .ref 1), (1, .int v1), (2, .int v2), (3, .int v3)]) mk_X7_breaksBy.2.2.2.2 (Nat.le_of_ble_eq_true rfl) rfl ?_
  refine GW.aload_n (pc' := 1) dX7_breaksBy_0 rfl rfl ?_
  refine GW.getR (pc' := 4) (t := 15) dX7_breaksBy_1 rfl fk_X7_12 rfl (by decide) rfl rfl ?_
  refine GW.getI (pc' := 7) dX7_breaksBy_4 rfl fk_X7_121 rfl (by decide) rfl rfl ?_
  refine GW.bipush (pc' := 9) (v := 6) dX7_breaksBy_7 rfl (by decide) ?_
  refine GW.if_icmplt (pc' := 12) (tgt := 14) dX7_breaksBy_9 rfl (by decide) (ite_i (fun c1 => ?_) (fun c1 => ?_))
  · replace h := ite_t h c1
    refine GW.iconst (pc' := 15) (v := 0) dX7_breaksBy_14 rfl (by decide) ?_
    refine GW.istore (pc' := 17) (lv' := [(0, .ref 1), (1, .int v1), (2, .int v2), (3, .int v3), (4, .int 0)]) dX7_breaksBy_15 rfl rfl (by decide) rfl ?_
    exact h
  · replace h := ite_f h c1
    refine GW.iconst (pc' := 13) (v := 0) dX7_breaksBy_12 rfl (by decide) ?_
    refine GW.iret dX7_breaksBy_13 rfl ⟨_, rfl, ?_⟩
    exact h
set_option maxRecDepth 100000 in
set_option maxHeartbeats 4000000 in
theorem wp_X7_breaksBy_1_L17 (xs : gX) (d : Nat) (v1 : Int32) (v2 : Int32) (v3 : Int32) (v4 : Int32) (M : Mem) (Q : Int32 → Mem → Prop) (h : (if v4 < (M.1 20 1) then MI xs (d + 3) mX3_fact [.ref 20, .int v4, .int 2] M (fun r2 M3 => MI xs (d + 3) mX7_ageOf [.ref 1, .int v4, .int r2, .int (M3.1 1 9)] M3 (fun r4 M5 => (vp_in v4 10 ∧ GW xs (d + 5) mX7_breaksBy 17 [(0, .ref 1), (1, .int v1), (2, .int v2), (3, .int v3), (4, .int (v4 + 1))] [] (mw M5 37 v4.toNatClampNeg r4) (QI Q)))) else MV xs (d + 4) mX6_add [.ref 15, .int v1, .int v2, .int v3] M (fun M7 => GW xs (d + 5) mX7_breaksBy 64 [(0, .ref 1), (1, .int v1), (2, .int v2), (3, .int v3), (4, .int 0), (5, .int 0)] [] M7 (QI Q)))) : GW xs (d + 5) mX7_breaksBy 17 [(0, .ref 1), (1, .int v1), (2, .int v2), (3, .int v3), (4, .int v4)] [] M (QI Q) := by
  refine GW.iload (pc' := 19) dX7_breaksBy_17 rfl rfl ?_
  refine GW.aload_n (pc' := 20) dX7_breaksBy_19 rfl rfl ?_
  refine GW.getR (pc' := 23) (t := 20) dX7_breaksBy_20 rfl fk_X7_21 rfl (by decide) rfl rfl ?_
  refine GW.getI (pc' := 26) dX7_breaksBy_23 rfl fk_X7_102 rfl (by decide) rfl rfl ?_
  refine GW.if_icmpge (pc' := 29) (tgt := 48) dX7_breaksBy_26 rfl (by decide) (ite_i (fun c1 => ?_) (fun c1 => ?_))
  · replace h := ite_t h c1
    refine GW.aload_n (pc' := 30) dX7_breaksBy_29 rfl rfl ?_
    refine GW.getR (pc' := 33) (t := 37) dX7_breaksBy_30 rfl fk_X7_53 rfl (by decide) rfl rfl ?_
    refine GW.iload (pc' := 35) dX7_breaksBy_33 rfl rfl ?_
    refine GW.aload_n (pc' := 36) dX7_breaksBy_35 rfl rfl ?_
    refine GW.iload (pc' := 38) dX7_breaksBy_36 rfl rfl ?_
    refine GW.callV (pc' := 41) (k := 1) (av := [.int v4]) (rest := [.int v4, .ref 37]) dX7_breaksBy_38 rfl mk_X7_ageNow lk_X7_99 vk_X7_ageNow ko_1 rfl rfl (Nat.le_of_ble_eq_true rfl) (bk_i (MI.intro (lv := [(0, .ref 1), (1, .int v4)]) mk_X7_ageNow.2.2.2.2 (Nat.le_of_ble_eq_true rfl) rfl ?_))
    refine GW.aload_n (pc' := 1) dX7_ageNow_0 rfl rfl ?_
    refine GW.iload_n (pc' := 2) dX7_ageNow_1 rfl rfl ?_
    refine GW.aload_n (pc' := 3) dX7_ageNow_2 rfl rfl ?_
    refine GW.getR (pc' := 6) (t := 20) dX7_ageNow_3 rfl fk_X7_21 rfl (by decide) rfl rfl ?_
    refine GW.iload_n (pc' := 7) dX7_ageNow_6 rfl rfl ?_
    refine GW.iconst (pc' := 8) (v := 2) dX7_ageNow_7 rfl (by decide) ?_
    refine GW.callV (pc' := 11) (k := 20) (av := [.int v4, .int 2]) (rest := [.int v4, .ref 1]) dX7_ageNow_8 rfl mk_X3_fact lk_X7_57 vk_X3_fact ko_20 rfl rfl (Nat.le_of_ble_eq_true rfl) (bk_i (MI.mono h (fun r2 M3 h => ?_)))
    refine GW.aload_n (pc' := 12) dX7_ageNow_11 rfl rfl ?_
    refine GW.getI (pc' := 15) dX7_ageNow_12 rfl fk_X7_61 rfl (by decide) rfl rfl ?_
    refine GW.callV (pc' := 18) (k := 1) (av := [.int v4, .int r2, .int (M3.1 1 9)]) (rest := []) dX7_ageNow_15 rfl mk_X7_ageOf lk_X7_64 vk_X7_ageOf ko_1 rfl rfl (Nat.le_of_ble_eq_true rfl) (bk_i (MI.mono h (fun r4 M5 h => ?_)))
    refine GW.iret dX7_ageNow_18 rfl ⟨_, rfl, ?_⟩
    obtain ⟨b6, h⟩ := h
    refine GW.iastore (pc' := 42) (j := v4.toNatClampNeg) dX7_breaksBy_41 rfl rfl b6 rfl ?_
    refine GW.iinc (pc' := 45) (lv' := [(0, .ref 1), (1, .int v1), (2, .int v2), (3, .int v3), (4, .int (v4 + 1))]) (v := (v4 + 1)) dX7_breaksBy_42 rfl rfl (by decide) rfl rfl rfl ?_
    refine GW.goto (tgt := 17) dX7_breaksBy_45 (by decide) ?_
    exact h
  · replace h := ite_f h c1
    refine GW.aload_n (pc' := 49) dX7_breaksBy_48 rfl rfl ?_
    refine GW.getR (pc' := 52) (t := 15) dX7_breaksBy_49 rfl fk_X7_12 rfl (by decide) rfl rfl ?_
    refine GW.iload_n (pc' := 53) dX7_breaksBy_52 rfl rfl ?_
    refine GW.iload_n (pc' := 54) dX7_breaksBy_53 rfl rfl ?_
    refine GW.iload_n (pc' := 55) dX7_breaksBy_54 rfl rfl ?_
    refine GW.callV (pc' := 58) (k := 15) (av := [.int v1, .int v2, .int v3]) (rest := []) dX7_breaksBy_55 rfl mk_X6_add lk_X7_122 vk_X6_add ko_15 rfl rfl (Nat.le_of_ble_eq_true rfl) (bk_v (MV.mono h (fun M7 h => ?_)))
    refine GW.iconst (pc' := 59) (v := 0) dX7_breaksBy_58 rfl (by decide) ?_
    refine GW.istore (pc' := 61) (lv' := [(0, .ref 1), (1, .int v1), (2, .int v2), (3, .int v3), (4, .int 0)]) dX7_breaksBy_59 rfl rfl (by decide) rfl ?_
    refine GW.iconst (pc' := 62) (v := 0) dX7_breaksBy_61 rfl (by decide) ?_
    refine GW.istore (pc' := 64) (lv' := [(0, .ref 1), (1, .int v1), (2, .int v2), (3, .int v3), (4, .int 0), (5, .int 0)]) dX7_breaksBy_62 rfl rfl (by decide) rfl ?_
    exact h
set_option maxRecDepth 100000 in
set_option maxHeartbeats 4000000 in
theorem wp_X7_breaksBy_1_L64 (xs : gX) (d : Nat) (v1 : Int32) (v2 : Int32) (v3 : Int32) (v4 : Int32) (v5 : Int32) (M : Mem) (Q : Int32 → Mem → Prop) (h : (if v5 < (M.1 20 1) then MI xs (d + 3) mX3_fact [.ref 20, .int v5, .int 2] M (fun r2 M3 => MI xs (d + 3) mX7_ageOf [.ref 1, .int v5, .int r2, .int (M3.1 1 9)] M3 (fun r4 M5 => (vp_in v5 10 ∧ (if r4 = (M5.1 37 v5.toNatClampNeg) then GW xs (d + 5) mX7_breaksBy 64 [(0, .ref 1), (1, .int v1), (2, .int v2), (3, .int v3), (4, .int v4), (5, .int (v5 + 1))] [] M5 (QI Q) else GW xs (d + 5) mX7_breaksBy 64 [(0, .ref 1), (1, .int v1), (2, .int v2), (3, .int v3), (4, .int (v4 + 1)), (5, .int (v5 + 1))] [] M5 (QI Q))))) else MV xs (d + 4) mX6_removeLast [.ref 15] M (fun M8 => Q v4 M8))) : GW xs (d + 5) mX7_breaksBy 64 [(0, .ref 1), (1, .int v1), (2, .int v2), (3, .int v3), (4, .int v4), (5, .int v5)] [] M (QI Q) := by
  refine GW.iload (pc' := 66) dX7_breaksBy_64 rfl rfl ?_
  refine GW.aload_n (pc' := 67) dX7_breaksBy_66 rfl rfl ?_
  refine GW.getR (pc' := 70) (t := 20) dX7_breaksBy_67 rfl fk_X7_21 rfl (by decide) rfl rfl ?_
  refine GW.getI (pc' := 73) dX7_breaksBy_70 rfl fk_X7_102 rfl (by decide) rfl rfl ?_
  refine GW.if_icmpge (pc' := 76) (tgt := 101) dX7_breaksBy_73 rfl (by decide) (ite_i (fun c1 => ?_) (fun c1 => ?_))
  · replace h := ite_t h c1
    refine GW.aload_n (pc' := 77) dX7_breaksBy_76 rfl rfl ?_
    refine GW.iload (pc' := 79) dX7_breaksBy_77 rfl rfl ?_
    refine GW.callV (pc' := 82) (k := 1) (av := [.int v5]) (rest := []) dX7_breaksBy_79 rfl mk_X7_ageNow lk_X7_99 vk_X7_ageNow ko_1 rfl rfl (Nat.le_of_ble_eq_true rfl) (bk_i (MI.intro (lv := [(0, .ref 1), (1, .int v5)]) mk_X7_ageNow.2.2.2.2 (Nat.le_of_ble_eq_true rfl) rfl ?_))
    refine GW.aload_n (pc' := 1) dX7_ageNow_0 rfl rfl ?_
    refine GW.iload_n (pc' := 2) dX7_ageNow_1 rfl rfl ?_
    refine GW.aload_n (pc' := 3) dX7_ageNow_2 rfl rfl ?_
    refine GW.getR (pc' := 6) (t := 20) dX7_ageNow_3 rfl fk_X7_21 rfl (by decide) rfl rfl ?_
    refine GW.iload_n (pc' := 7) dX7_ageNow_6 rfl rfl ?_
    refine GW.iconst (pc' := 8) (v := 2) dX7_ageNow_7 rfl (by decide) ?_
    refine GW.callV (pc' := 11) (k := 20) (av := [.int v5, .int 2]) (rest := [.int v5, .ref 1]) dX7_ageNow_8 rfl mk_X3_fact lk_X7_57 vk_X3_fact ko_20 rfl rfl (Nat.le_of_ble_eq_true rfl) (bk_i (MI.mono h (fun r2 M3 h => ?_)))
    refine GW.aload_n (pc' := 12) dX7_ageNow_11 rfl rfl ?_
    refine GW.getI (pc' := 15) dX7_ageNow_12 rfl fk_X7_61 rfl (by decide) rfl rfl ?_
    refine GW.callV (pc' := 18) (k := 1) (av := [.int v5, .int r2, .int (M3.1 1 9)]) (rest := []) dX7_ageNow_15 rfl mk_X7_ageOf lk_X7_64 vk_X7_ageOf ko_1 rfl rfl (Nat.le_of_ble_eq_true rfl) (bk_i (MI.mono h (fun r4 M5 h => ?_)))
    refine GW.iret dX7_ageNow_18 rfl ⟨_, rfl, ?_⟩
    refine GW.aload_n (pc' := 83) dX7_breaksBy_82 rfl rfl ?_
    refine GW.getR (pc' := 86) (t := 37) dX7_breaksBy_83 rfl fk_X7_53 rfl (by decide) rfl rfl ?_
    refine GW.iload (pc' := 88) dX7_breaksBy_86 rfl rfl ?_
    obtain ⟨b6, h⟩ := h
    refine GW.iaload (pc' := 89) (j := v5.toNatClampNeg) dX7_breaksBy_88 rfl rfl b6 rfl ?_
    refine GW.if_icmpeq (pc' := 92) (tgt := 95) dX7_breaksBy_89 rfl (by decide) (ite_i (fun c7 => ?_) (fun c7 => ?_))
    · replace h := ite_t h c7
      refine GW.iinc (pc' := 98) (lv' := [(0, .ref 1), (1, .int v1), (2, .int v2), (3, .int v3), (4, .int v4), (5, .int (v5 + 1))]) (v := (v5 + 1)) dX7_breaksBy_95 rfl rfl (by decide) rfl rfl rfl ?_
      refine GW.goto (tgt := 64) dX7_breaksBy_98 (by decide) ?_
      exact h
    · replace h := ite_f h c7
      refine GW.iinc (pc' := 95) (lv' := [(0, .ref 1), (1, .int v1), (2, .int v2), (3, .int v3), (4, .int (v4 + 1)), (5, .int v5)]) (v := (v4 + 1)) dX7_breaksBy_92 rfl rfl (by decide) rfl rfl rfl ?_
      refine GW.iinc (pc' := 98) (lv' := [(0, .ref 1), (1, .int v1), (2, .int v2), (3, .int v3), (4, .int (v4 + 1)), (5, .int (v5 + 1))]) (v := (v5 + 1)) dX7_breaksBy_95 rfl rfl (by decide) rfl rfl rfl ?_
      refine GW.goto (tgt := 64) dX7_breaksBy_98 (by decide) ?_
      exact h
  · replace h := ite_f h c1
    refine GW.aload_n (pc' := 102) dX7_breaksBy_101 rfl rfl ?_
    refine GW.getR (pc' := 105) (t := 15) dX7_breaksBy_102 rfl fk_X7_12 rfl (by decide) rfl rfl ?_
    refine GW.callV (pc' := 108) (k := 15) (av := []) (rest := []) dX7_breaksBy_105 rfl mk_X6_removeLast lk_X7_126 vk_X6_removeLast ko_15 rfl rfl (Nat.le_of_ble_eq_true rfl) (bk_v (MV.mono h (fun M8 h => ?_)))
    refine GW.iload (pc' := 110) dX7_breaksBy_108 rfl rfl ?_
    refine GW.iret dX7_breaksBy_110 rfl ⟨_, rfl, ?_⟩
    exact h

set_option maxRecDepth 100000 in
set_option maxHeartbeats 4000000 in
theorem wp_X7_dayOfAge_1 (xs : gX) (d : Nat) (v1 : Int32) (v2 : Int32) (v3 : Int32) (M : Mem) (Q : Int32 → Mem → Prop) (h : MI xs (d + 3) mX3_fact [.ref 20, .int v1, .int 3] M (fun r1 M2 => MI xs (d + 3) mX7_ageOf [.ref 1, .int v1, .int v2, .int r1] M2 (fun r3 M4 => (if r3 < v3 then GW xs (d + 4) mX7_dayOfAge 36 [(0, .ref 1), (1, .int v1), (2, .int v2), (3, .int v3), (4, .int r1), (5, .int ((r1 / 365) + 1))] [] M4 (QI Q) else Q r1 M4)))) : MI xs (d + 4) mX7_dayOfAge [.ref 1, .int v1, .int v2, .int v3] M Q := by
  refine MI.intro (lv := [(0, .ref 1), (1, .int v1), (2, .int v2), (3, .int v3)]) mk_X7_dayOfAge.2.2.2.2 (Nat.le_of_ble_eq_true rfl) rfl ?_
  refine GW.aload_n (pc' := 1) dX7_dayOfAge_0 rfl rfl ?_
  refine GW.getR (pc' := 4) (t := 20) dX7_dayOfAge_1 rfl fk_X7_21 rfl (by decide) rfl rfl ?_
  refine GW.iload_n (pc' := 5) dX7_dayOfAge_4 rfl rfl ?_
  refine GW.iconst (pc' := 6) (v := 3) dX7_dayOfAge_5 rfl (by decide) ?_
  refine GW.callV (pc' := 9) (k := 20) (av := [.int v1, .int 3]) (rest := []) dX7_dayOfAge_6 rfl mk_X3_fact lk_X7_57 vk_X3_fact ko_20 rfl rfl (Nat.le_of_ble_eq_true rfl) (bk_i (MI.mono h (fun r1 M2 h => ?_)))
  refine GW.istore (pc' := 11) (lv' := [(0, .ref 1), (1, .int v1), (2, .int v2), (3, .int v3), (4, .int r1)]) dX7_dayOfAge_9 rfl rfl (by decide) rfl ?_
  refine GW.aload_n (pc' := 12) dX7_dayOfAge_11 rfl rfl ?_
  refine GW.iload_n (pc' := 13) dX7_dayOfAge_12 rfl rfl ?_
  refine GW.iload_n (pc' := 14) dX7_dayOfAge_13 rfl rfl ?_
  refine GW.iload (pc' := 16) dX7_dayOfAge_14 rfl rfl ?_
  refine GW.callV (pc' := 19) (k := 1) (av := [.int v1, .int v2, .int r1]) (rest := []) dX7_dayOfAge_16 rfl mk_X7_ageOf lk_X7_64 vk_X7_ageOf ko_1 rfl rfl (Nat.le_of_ble_eq_true rfl) (bk_i (MI.mono h (fun r3 M4 h => ?_)))
  refine GW.iload_n (pc' := 20) dX7_dayOfAge_19 rfl rfl ?_
  refine GW.if_icmplt (pc' := 23) (tgt := 26) dX7_dayOfAge_20 rfl (by decide) (ite_i (fun c5 => ?_) (fun c5 => ?_))
  · replace h := ite_t h c5
    refine GW.iload (pc' := 28) dX7_dayOfAge_26 rfl rfl ?_
    refine GW.sipush (pc' := 31) (v := 365) dX7_dayOfAge_28 rfl (by decide) ?_
    refine GW.idiv (pc' := 32) dX7_dayOfAge_31 rfl (by decide) ?_
    refine GW.iconst (pc' := 33) (v := 1) dX7_dayOfAge_32 rfl (by decide) ?_
    refine GW.iadd (pc' := 34) dX7_dayOfAge_33 rfl ?_
    refine GW.istore (pc' := 36) (lv' := [(0, .ref 1), (1, .int v1), (2, .int v2), (3, .int v3), (4, .int r1), (5, .int ((r1 / 365) + 1))]) dX7_dayOfAge_34 rfl rfl (by decide) rfl ?_
    exact h
  · replace h := ite_f h c5
    refine GW.iload (pc' := 25) dX7_dayOfAge_23 rfl rfl ?_
    refine GW.iret dX7_dayOfAge_25 rfl ⟨_, rfl, ?_⟩
    exact h
set_option maxRecDepth 100000 in
set_option maxHeartbeats 4000000 in
theorem wp_X7_dayOfAge_1_L36 (xs : gX) (d : Nat) (v1 : Int32) (v2 : Int32) (v3 : Int32) (v4 : Int32) (v5 : Int32) (M : Mem) (Q : Int32 → Mem → Prop) (h : (if v5 < 200 then MI xs (d + 3) mX7_ageOf [.ref 1, .int v1, .int v2, .int (v5 * 365)] M (fun r2 M3 => (if r2 < v3 then MI xs (d + 3) mX7_ageOf [.ref 1, .int v1, .int v2, .int ((v5 * 365) + (v4 - v4 / 365 * 365))] M3 (fun r5 M6 => (if r5 < v3 then GW xs (d + 4) mX7_dayOfAge 36 [(0, .ref 1), (1, .int v1), (2, .int v2), (3, .int v3), (4, .int v4), (5, .int (v5 + 1))] [] M6 (QI Q) else Q ((v5 * 365) + (v4 - v4 / 365 * 365)) M6)) else Q (v5 * 365) M3)) else Q (-1) M)) : GW xs (d + 4) mX7_dayOfAge 36 [(0, .ref 1), (1, .int v1), (2, .int v2), (3, .int v3), (4, .int v4), (5, .int v5)] [] M (QI Q) := by
  refine GW.iload (pc' := 38) dX7_dayOfAge_36 rfl rfl ?_
  refine GW.sipush (pc' := 41) (v := 200) dX7_dayOfAge_38 rfl (by decide) ?_
  refine GW.if_icmpge (pc' := 44) (tgt := 99) dX7_dayOfAge_41 rfl (by decide) (ite_i (fun c1 => ?_) (fun c1 => ?_))
  · replace h := ite_t h c1
    refine GW.iload (pc' := 46) dX7_dayOfAge_44 rfl rfl ?_
    refine GW.sipush (pc' := 49) (v := 365) dX7_dayOfAge_46 rfl (by decide) ?_
    refine GW.imul (pc' := 50) dX7_dayOfAge_49 rfl ?_
    refine GW.istore (pc' := 52) (lv' := [(0, .ref 1), (1, .int v1), (2, .int v2), (3, .int v3), (4, .int v4), (5, .int v5), (6, .int (v5 * 365))]) dX7_dayOfAge_50 rfl rfl (by decide) rfl ?_
    refine GW.aload_n (pc' := 53) dX7_dayOfAge_52 rfl rfl ?_
    refine GW.iload_n (pc' := 54) dX7_dayOfAge_53 rfl rfl ?_
    refine GW.iload_n (pc' := 55) dX7_dayOfAge_54 rfl rfl ?_
    refine GW.iload (pc' := 57) dX7_dayOfAge_55 rfl rfl ?_
    refine GW.callV (pc' := 60) (k := 1) (av := [.int v1, .int v2, .int (v5 * 365)]) (rest := []) dX7_dayOfAge_57 rfl mk_X7_ageOf lk_X7_64 vk_X7_ageOf ko_1 rfl rfl (Nat.le_of_ble_eq_true rfl) (bk_i (MI.mono h (fun r2 M3 h => ?_)))
    refine GW.iload_n (pc' := 61) dX7_dayOfAge_60 rfl rfl ?_
    refine GW.if_icmplt (pc' := 64) (tgt := 67) dX7_dayOfAge_61 rfl (by decide) (ite_i (fun c4 => ?_) (fun c4 => ?_))
    · replace h := ite_t h c4
      refine GW.iload (pc' := 69) dX7_dayOfAge_67 rfl rfl ?_
      refine GW.iload (pc' := 71) dX7_dayOfAge_69 rfl rfl ?_
      refine GW.sipush (pc' := 74) (v := 365) dX7_dayOfAge_71 rfl (by decide) ?_
      refine GW.irem (pc' := 75) dX7_dayOfAge_74 rfl (by decide) ?_
      refine GW.iadd (pc' := 76) dX7_dayOfAge_75 rfl ?_
      refine GW.istore (pc' := 78) (lv' := [(0, .ref 1), (1, .int v1), (2, .int v2), (3, .int v3), (4, .int v4), (5, .int v5), (6, .int (v5 * 365)), (7, .int ((v5 * 365) + (v4 - v4 / 365 * 365)))]) dX7_dayOfAge_76 rfl rfl (by decide) rfl ?_
      refine GW.aload_n (pc' := 79) dX7_dayOfAge_78 rfl rfl ?_
      refine GW.iload_n (pc' := 80) dX7_dayOfAge_79 rfl rfl ?_
      refine GW.iload_n (pc' := 81) dX7_dayOfAge_80 rfl rfl ?_
      refine GW.iload (pc' := 83) dX7_dayOfAge_81 rfl rfl ?_
      refine GW.callV (pc' := 86) (k := 1) (av := [.int v1, .int v2, .int ((v5 * 365) + (v4 - v4 / 365 * 365))]) (rest := []) dX7_dayOfAge_83 rfl mk_X7_ageOf lk_X7_64 vk_X7_ageOf ko_1 rfl rfl (Nat.le_of_ble_eq_true rfl) (bk_i (MI.mono h (fun r5 M6 h => ?_)))
      refine GW.iload_n (pc' := 87) dX7_dayOfAge_86 rfl rfl ?_
      refine GW.if_icmplt (pc' := 90) (tgt := 93) dX7_dayOfAge_87 rfl (by decide) (ite_i (fun c7 => ?_) (fun c7 => ?_))
      · replace h := ite_t h c7
        refine GW.iinc (pc' := 96) (lv' := [(0, .ref 1), (1, .int v1), (2, .int v2), (3, .int v3), (4, .int v4), (5, .int (v5 + 1)), (6, .int (v5 * 365)), (7, .int ((v5 * 365) + (v4 - v4 / 365 * 365)))]) (v := (v5 + 1)) dX7_dayOfAge_93 rfl rfl (by decide) rfl rfl rfl ?_
        refine GW.goto (tgt := 36) dX7_dayOfAge_96 (by decide) ?_
        refine GW.sub (lv' := [(0, .ref 1), (1, .int v1), (2, .int v2), (3, .int v3), (4, .int v4), (5, .int (v5 + 1))]) [0, 1, 2, 3, 4, 5] rfl ?_
        exact h
      · replace h := ite_f h c7
        refine GW.iload (pc' := 92) dX7_dayOfAge_90 rfl rfl ?_
        refine GW.iret dX7_dayOfAge_92 rfl ⟨_, rfl, ?_⟩
        exact h
    · replace h := ite_f h c4
      refine GW.iload (pc' := 66) dX7_dayOfAge_64 rfl rfl ?_
      refine GW.iret dX7_dayOfAge_66 rfl ⟨_, rfl, ?_⟩
      exact h
  · replace h := ite_f h c1
    refine GW.iconst (pc' := 100) (v := (-1)) dX7_dayOfAge_99 rfl (by decide) ?_
    refine GW.iret dX7_dayOfAge_100 rfl ⟨_, rfl, ?_⟩
    exact h

set_option maxRecDepth 100000 in
set_option maxHeartbeats 4000000 in
theorem wp_X7_isCometIn_1 (xs : gX) (d : Nat) (v1 : Int32) (v2 : Int32) (M : Mem) (Q : Int32 → Mem → Prop) (h : (if (M.1 1 12) < 1 then Q 0 M else GW xs (d + 1) mX7_isCometIn 19 [(0, .ref 1), (1, .int v1), (2, .int v2), (3, .int ((M.1 1 11) / 365))] [] M (QI Q))) : MI xs (d + 1) mX7_isCometIn [.ref 1, .int v1, .int v2] M Q := by
  refine MI.intro (lv := [(0, .ref 1), (1, .int v1), (2, .int v2)]) mk_X7_isCometIn.2.2.2.2 (Nat.le_of_ble_eq_true rfl) rfl ?_
  refine GW.aload_n (pc' := 1) dX7_isCometIn_0 rfl rfl ?_
  refine GW.getI (pc' := 4) dX7_isCometIn_1 rfl fk_X7_115 rfl (by decide) rfl rfl ?_
  refine GW.iconst (pc' := 5) (v := 1) dX7_isCometIn_4 rfl (by decide) ?_
  refine GW.if_icmpge (pc' := 8) (tgt := 10) dX7_isCometIn_5 rfl (by decide) (ite_i (fun c1 => ?_) (fun c1 => ?_))
  · replace h := ite_t h c1
    refine GW.iconst (pc' := 9) (v := 0) dX7_isCometIn_8 rfl (by decide) ?_
    refine GW.zret dX7_isCometIn_9 rfl (by decide) ⟨_, rfl, ?_⟩
    exact h
  · replace h := ite_f h c1
    refine GW.aload_n (pc' := 11) dX7_isCometIn_10 rfl rfl ?_
    refine GW.getI (pc' := 14) dX7_isCometIn_11 rfl fk_X7_118 rfl (by decide) rfl rfl ?_
    refine GW.sipush (pc' := 17) (v := 365) dX7_isCometIn_14 rfl (by decide) ?_
    refine GW.idiv (pc' := 18) dX7_isCometIn_17 rfl (by decide) ?_
    refine GW.istore_n (pc' := 19) (lv' := [(0, .ref 1), (1, .int v1), (2, .int v2), (3, .int ((M.1 1 11) / 365))]) dX7_isCometIn_18 rfl rfl (by decide) rfl ?_
    exact h
set_option maxRecDepth 100000 in
set_option maxHeartbeats 4000000 in
theorem wp_X7_isCometIn_1_L19 (xs : gX) (d : Nat) (v1 : Int32) (v2 : Int32) (v3 : Int32) (M : Mem) (Q : Int32 → Mem → Prop) (h : (if v3 < 200 then MI xs d mX6_nameOf [.ref 15, .int v1, .int v3] M (fun r2 M3 => (if r2 = v2 then Q 1 M3 else GW xs (d + 1) mX7_isCometIn 19 [(0, .ref 1), (1, .int v1), (2, .int v2), (3, .int (v3 + (M3.1 1 12)))] [] M3 (QI Q))) else Q 0 M)) : GW xs (d + 1) mX7_isCometIn 19 [(0, .ref 1), (1, .int v1), (2, .int v2), (3, .int v3)] [] M (QI Q) := by
  refine GW.iload_n (pc' := 20) dX7_isCometIn_19 rfl rfl ?_
  refine GW.sipush (pc' := 23) (v := 200) dX7_isCometIn_20 rfl (by decide) ?_
  refine GW.if_icmpge (pc' := 26) (tgt := 51) dX7_isCometIn_23 rfl (by decide) (ite_i (fun c1 => ?_) (fun c1 => ?_))
  · replace h := ite_t h c1
    refine GW.aload_n (pc' := 27) dX7_isCometIn_26 rfl rfl ?_
    refine GW.getR (pc' := 30) (t := 15) dX7_isCometIn_27 rfl fk_X7_12 rfl (by decide) rfl rfl ?_
    refine GW.iload_n (pc' := 31) dX7_isCometIn_30 rfl rfl ?_
    refine GW.iload_n (pc' := 32) dX7_isCometIn_31 rfl rfl ?_
    refine GW.callV (pc' := 35) (k := 15) (av := [.int v1, .int v3]) (rest := []) dX7_isCometIn_32 rfl mk_X6_nameOf lk_X7_86 vk_X6_nameOf ko_15 rfl rfl (Nat.le_of_ble_eq_true rfl) (bk_i (MI.mono h (fun r2 M3 h => ?_)))
    refine GW.iload_n (pc' := 36) dX7_isCometIn_35 rfl rfl ?_
    refine GW.if_icmpne (pc' := 39) (tgt := 41) dX7_isCometIn_36 rfl (by decide) (ite_i (fun c4 => ?_) (fun c4 => ?_))
    · replace h := ite_t h c4
      refine GW.iconst (pc' := 40) (v := 1) dX7_isCometIn_39 rfl (by decide) ?_
      refine GW.zret dX7_isCometIn_40 rfl (by decide) ⟨_, rfl, ?_⟩
      exact h
    · replace h := ite_f h c4
      refine GW.iload_n (pc' := 42) dX7_isCometIn_41 rfl rfl ?_
      refine GW.aload_n (pc' := 43) dX7_isCometIn_42 rfl rfl ?_
      refine GW.getI (pc' := 46) dX7_isCometIn_43 rfl fk_X7_115 rfl (by decide) rfl rfl ?_
      refine GW.iadd (pc' := 47) dX7_isCometIn_46 rfl ?_
      refine GW.istore_n (pc' := 48) (lv' := [(0, .ref 1), (1, .int v1), (2, .int v2), (3, .int (v3 + (M3.1 1 12)))]) dX7_isCometIn_47 rfl rfl (by decide) rfl ?_
      refine GW.goto (tgt := 19) dX7_isCometIn_48 (by decide) ?_
      exact h
  · replace h := ite_f h c1
    refine GW.iconst (pc' := 52) (v := 0) dX7_isCometIn_51 rfl (by decide) ?_
    refine GW.zret dX7_isCometIn_52 rfl (by decide) ⟨_, rfl, ?_⟩
    exact h

set_option maxRecDepth 100000 in
set_option maxHeartbeats 4000000 in
theorem wp_X7_worthNow_1 (xs : gX) (d : Nat) (v1 : Int32) (M : Mem) (Q : Int32 → Mem → Prop) (h : MI xs (d + 3) mX3_fact [.ref 20, .int v1, .int 2] M (fun r1 M2 => MI xs (d + 3) mX7_ageOf [.ref 1, .int v1, .int r1, .int (M2.1 1 9)] M2 (fun r3 M4 => MI xs (d + 4) mX3_fact [.ref 20, .int v1, .int 1] M4 (fun r5 M6 => (if (M6.1 32 3) = 0 then MI xs (d + 4) mX8_hold [.int ((r3 * 10) + r5), .int (-9999), .int 9999] M6 (fun r8 M9 => Q r8 M9) else MI xs (d + 4) mX3_fact [.ref 20, .int v1, .int 0] M6 (fun r10 M11 => MI xs (d + 4) mX1_value [.ref 32, .int r3, .int r10, .int r5] M11 (fun r12 M13 => MI xs (d + 4) mX8_hold [.int r12, .int (-9999), .int 9999] M13 (fun r14 M15 => Q r14 M15)))))))) : MI xs (d + 5) mX7_worthNow [.ref 1, .int v1] M Q := by
  refine MI.intro (lv := [(0, .ref 1), (1, .int v1)]) mk_X7_worthNow.2.2.2.2 (Nat.le_of_ble_eq_true rfl) rfl ?_
  refine GW.aload_n (pc' := 1) dX7_worthNow_0 rfl rfl ?_
  refine GW.iload_n (pc' := 2) dX7_worthNow_1 rfl rfl ?_
  refine GW.callV (pc' := 5) (k := 1) (av := [.int v1]) (rest := []) dX7_worthNow_2 rfl mk_X7_ageNow lk_X7_99 vk_X7_ageNow ko_1 rfl rfl (Nat.le_of_ble_eq_true rfl) (bk_i (MI.intro (lv := [(0, .ref 1), (1, .int v1)]) mk_X7_ageNow.2.2.2.2 (Nat.le_of_ble_eq_true rfl) rfl ?_))
  refine GW.aload_n (pc' := 1) dX7_ageNow_0 rfl rfl ?_
  refine GW.iload_n (pc' := 2) dX7_ageNow_1 rfl rfl ?_
  refine GW.aload_n (pc' := 3) dX7_ageNow_2 rfl rfl ?_
  refine GW.getR (pc' := 6) (t := 20) dX7_ageNow_3 rfl fk_X7_21 rfl (by decide) rfl rfl ?_
  refine GW.iload_n (pc' := 7) dX7_ageNow_6 rfl rfl ?_
  refine GW.iconst (pc' := 8) (v := 2) dX7_ageNow_7 rfl (by decide) ?_
  refine GW.callV (pc' := 11) (k := 20) (av := [.int v1, .int 2]) (rest := [.int v1, .ref 1]) dX7_ageNow_8 rfl mk_X3_fact lk_X7_57 vk_X3_fact ko_20 rfl rfl (Nat.le_of_ble_eq_true rfl) (bk_i (MI.mono h (fun r1 M2 h => ?_)))
  refine GW.aload_n (pc' := 12) dX7_ageNow_11 rfl rfl ?_
  refine GW.getI (pc' := 15) dX7_ageNow_12 rfl fk_X7_61 rfl (by decide) rfl rfl ?_
  refine GW.callV (pc' := 18) (k := 1) (av := [.int v1, .int r1, .int (M2.1 1 9)]) (rest := []) dX7_ageNow_15 rfl mk_X7_ageOf lk_X7_64 vk_X7_ageOf ko_1 rfl rfl (Nat.le_of_ble_eq_true rfl) (bk_i (MI.mono h (fun r3 M4 h => ?_)))
  refine GW.iret dX7_ageNow_18 rfl ⟨_, rfl, ?_⟩
  refine GW.istore_n (pc' := 6) (lv' := [(0, .ref 1), (1, .int v1), (2, .int r3)]) dX7_worthNow_5 rfl rfl (by decide) rfl ?_
  refine GW.aload_n (pc' := 7) dX7_worthNow_6 rfl rfl ?_
  refine GW.getR (pc' := 10) (t := 20) dX7_worthNow_7 rfl fk_X7_21 rfl (by decide) rfl rfl ?_
  refine GW.iload_n (pc' := 11) dX7_worthNow_10 rfl rfl ?_
  refine GW.iconst (pc' := 12) (v := 1) dX7_worthNow_11 rfl (by decide) ?_
  refine GW.callV (pc' := 15) (k := 20) (av := [.int v1, .int 1]) (rest := []) dX7_worthNow_12 rfl mk_X3_fact lk_X7_57 vk_X3_fact ko_20 rfl rfl (Nat.le_of_ble_eq_true rfl) (bk_i (MI.mono h (fun r5 M6 h => ?_)))
  refine GW.istore_n (pc' := 16) (lv' := [(0, .ref 1), (1, .int v1), (2, .int r3), (3, .int r5)]) dX7_worthNow_15 rfl rfl (by decide) rfl ?_
  refine GW.aload_n (pc' := 17) dX7_worthNow_16 rfl rfl ?_
  refine GW.getR (pc' := 20) (t := 32) dX7_worthNow_17 rfl fk_X7_39 rfl (by decide) rfl rfl ?_
  refine GW.getI (pc' := 23) dX7_worthNow_20 rfl fk_X7_89 rfl (by decide) rfl rfl ?_
  refine GW.ifeq (pc' := 26) (tgt := 47) dX7_worthNow_23 rfl (by decide) (ite_i (fun c7 => ?_) (fun c7 => ?_))
  · replace h := ite_t h c7
    refine GW.iload_n (pc' := 48) dX7_worthNow_47 rfl rfl ?_
    refine GW.bipush (pc' := 50) (v := 10) dX7_worthNow_48 rfl (by decide) ?_
    refine GW.imul (pc' := 51) dX7_worthNow_50 rfl ?_
    refine GW.iload_n (pc' := 52) dX7_worthNow_51 rfl rfl ?_
    refine GW.iadd (pc' := 53) dX7_worthNow_52 rfl ?_
    refine GW.istore (pc' := 55) (lv' := [(0, .ref 1), (1, .int v1), (2, .int r3), (3, .int r5), (4, .int ((r3 * 10) + r5))]) dX7_worthNow_53 rfl rfl (by decide) rfl ?_
    refine GW.iload (pc' := 57) dX7_worthNow_55 rfl rfl ?_
    refine GW.sipush (pc' := 60) (v := (-9999)) dX7_worthNow_57 rfl (by decide) ?_
    refine GW.sipush (pc' := 63) (v := 9999) dX7_worthNow_60 rfl (by decide) ?_
    refine GW.callS (pc' := 66) (av := [.int ((r3 * 10) + r5), .int (-9999), .int 9999]) (rest := []) dX7_worthNow_63 rfl mk_X8_hold lk_X7_96 sk_X8_hold rfl rfl (Nat.le_of_ble_eq_true rfl) (bk_i (MI.mono h (fun r8 M9 h => ?_)))
    refine GW.iret dX7_worthNow_66 rfl ⟨_, rfl, ?_⟩
    exact h
  · replace h := ite_f h c7
    refine GW.aload_n (pc' := 27) dX7_worthNow_26 rfl rfl ?_
    refine GW.getR (pc' := 30) (t := 32) dX7_worthNow_27 rfl fk_X7_39 rfl (by decide) rfl rfl ?_
    refine GW.iload_n (pc' := 31) dX7_worthNow_30 rfl rfl ?_
    refine GW.aload_n (pc' := 32) dX7_worthNow_31 rfl rfl ?_
    refine GW.getR (pc' := 35) (t := 20) dX7_worthNow_32 rfl fk_X7_21 rfl (by decide) rfl rfl ?_
    refine GW.iload_n (pc' := 36) dX7_worthNow_35 rfl rfl ?_
    refine GW.iconst (pc' := 37) (v := 0) dX7_worthNow_36 rfl (by decide) ?_
    refine GW.callV (pc' := 40) (k := 20) (av := [.int v1, .int 0]) (rest := [.int r3, .ref 32]) dX7_worthNow_37 rfl mk_X3_fact lk_X7_57 vk_X3_fact ko_20 rfl rfl (Nat.le_of_ble_eq_true rfl) (bk_i (MI.mono h (fun r10 M11 h => ?_)))
    refine GW.iload_n (pc' := 41) dX7_worthNow_40 rfl rfl ?_
    refine GW.callV (pc' := 44) (k := 32) (av := [.int r3, .int r10, .int r5]) (rest := []) dX7_worthNow_41 rfl mk_X1_value lk_X7_93 vk_X1_value ko_32 rfl rfl (Nat.le_of_ble_eq_true rfl) (bk_i (MI.mono h (fun r12 M13 h => ?_)))
    refine GW.goto (tgt := 53) dX7_worthNow_44 (by decide) ?_
    refine GW.istore (pc' := 55) (lv' := [(0, .ref 1), (1, .int v1), (2, .int r3), (3, .int r5), (4, .int r12)]) dX7_worthNow_53 rfl rfl (by decide) rfl ?_
    refine GW.iload (pc' := 57) dX7_worthNow_55 rfl rfl ?_
    refine GW.sipush (pc' := 60) (v := (-9999)) dX7_worthNow_57 rfl (by decide) ?_
    refine GW.sipush (pc' := 63) (v := 9999) dX7_worthNow_60 rfl (by decide) ?_
    refine GW.callS (pc' := 66) (av := [.int r12, .int (-9999), .int 9999]) (rest := []) dX7_worthNow_63 rfl mk_X8_hold lk_X7_96 sk_X8_hold rfl rfl (Nat.le_of_ble_eq_true rfl) (bk_i (MI.mono h (fun r14 M15 h => ?_)))
    refine GW.iret dX7_worthNow_66 rfl ⟨_, rfl, ?_⟩
    exact h

set_option maxRecDepth 100000 in
set_option maxHeartbeats 4000000 in
theorem wp_X7_worthOfAll_1 (xs : gX) (d : Nat)  (M : Mem) (Q : Int32 → Mem → Prop) (h : GW xs (d + 6) mX7_worthOfAll 4 [(0, .ref 1), (1, .int 0), (2, .int 0)] [] M (QI Q)) : MI xs (d + 6) mX7_worthOfAll [.ref 1] M Q := by
  refine MI.intro (lv := [(0, .ref 1)]) mk_X7_worthOfAll.2.2.2.2 (Nat.le_of_ble_eq_true rfl) rfl ?_
  refine GW.iconst (pc' := 1) (v := 0) dX7_worthOfAll_0 rfl (by decide) ?_
  refine GW.istore_n (pc' := 2) (lv' := [(0, .ref 1), (1, .int 0)]) dX7_worthOfAll_1 rfl rfl (by decide) rfl ?_
  refine GW.iconst (pc' := 3) (v := 0) dX7_worthOfAll_2 rfl (by decide) ?_
  refine GW.istore_n (pc' := 4) (lv' := [(0, .ref 1), (1, .int 0), (2, .int 0)]) dX7_worthOfAll_3 rfl rfl (by decide) rfl ?_
  exact h
set_option maxRecDepth 100000 in
set_option maxHeartbeats 4000000 in
theorem wp_X7_worthOfAll_1_L4 (xs : gX) (d : Nat) (v1 : Int32) (v2 : Int32) (M : Mem) (Q : Int32 → Mem → Prop) (h : (if v2 < (M.1 20 1) then MI xs (d + 5) mX7_worthNow [.ref 1, .int v2] M (fun r2 M3 => GW xs (d + 6) mX7_worthOfAll 4 [(0, .ref 1), (1, .int (v1 + r2)), (2, .int (v2 + 1))] [] M3 (QI Q)) else Q v1 M)) : GW xs (d + 6) mX7_worthOfAll 4 [(0, .ref 1), (1, .int v1), (2, .int v2)] [] M (QI Q) := by
  refine GW.iload_n (pc' := 5) dX7_worthOfAll_4 rfl rfl ?_
  refine GW.aload_n (pc' := 6) dX7_worthOfAll_5 rfl rfl ?_
  refine GW.getR (pc' := 9) (t := 20) dX7_worthOfAll_6 rfl fk_X7_21 rfl (by decide) rfl rfl ?_
  refine GW.getI (pc' := 12) dX7_worthOfAll_9 rfl fk_X7_102 rfl (by decide) rfl rfl ?_
  refine GW.if_icmpge (pc' := 15) (tgt := 29) dX7_worthOfAll_12 rfl (by decide) (ite_i (fun c1 => ?_) (fun c1 => ?_))
  · replace h := ite_t h c1
    refine GW.iload_n (pc' := 16) dX7_worthOfAll_15 rfl rfl ?_
    refine GW.aload_n (pc' := 17) dX7_worthOfAll_16 rfl rfl ?_
    refine GW.iload_n (pc' := 18) dX7_worthOfAll_17 rfl rfl ?_
    refine GW.callV (pc' := 21) (k := 1) (av := [.int v2]) (rest := [.int v1]) dX7_worthOfAll_18 rfl mk_X7_worthNow lk_X7_105 vk_X7_worthNow ko_1 rfl rfl (Nat.le_of_ble_eq_true rfl) (bk_i (MI.mono h (fun r2 M3 h => ?_)))
    refine GW.iadd (pc' := 22) dX7_worthOfAll_21 rfl ?_
    refine GW.istore_n (pc' := 23) (lv' := [(0, .ref 1), (1, .int (v1 + r2)), (2, .int v2)]) dX7_worthOfAll_22 rfl rfl (by decide) rfl ?_
    refine GW.iinc (pc' := 26) (lv' := [(0, .ref 1), (1, .int (v1 + r2)), (2, .int (v2 + 1))]) (v := (v2 + 1)) dX7_worthOfAll_23 rfl rfl (by decide) rfl rfl rfl ?_
    refine GW.goto (tgt := 4) dX7_worthOfAll_26 (by decide) ?_
    exact h
  · replace h := ite_f h c1
    refine GW.iload_n (pc' := 30) dX7_worthOfAll_29 rfl rfl ?_
    refine GW.iret dX7_worthOfAll_30 rfl ⟨_, rfl, ?_⟩
    exact h
