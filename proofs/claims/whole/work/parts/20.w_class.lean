set_option maxRecDepth 100000 in
set_option maxHeartbeats 4000000 in
theorem wp_J0_indexOf_0f7a4_1000 (xs : gX) (d : Nat) (v1 : Int32) (M : Mem) (Q : Int32 → Mem → Prop) (h : (if v1 < 0 then Q (-1) M else (if 255 < v1 then Q (-1) M else (if (gmax 0 0) < (gmin ((0 : Int32) >>> ((0 : Int32) &&& 31)) 0) then MI xs d mJ1_indexOfChar_4cfef [.ref 1100, .int v1, .int (gmax 0 0), .int (gmin ((0 : Int32) >>> ((0 : Int32) &&& 31)) 0)] M (fun r4 M5 => Q r4 M5) else Q (-1) M)))) : MI xs (d + 3) mJ0_indexOf_0f7a4 [.ref 1000, .int v1] M Q := by
  refine MI.intro (lv := [(0, .ref 1000), (1, .int v1)]) mk_J0_indexOf_0f7a4.2.2.2.2 (Nat.le_of_ble_eq_true rfl) rfl ?_
  refine GW.aload_n (pc' := 1) dJ0_indexOf_0f7a4_0 rfl rfl ?_
  refine GW.iload_n (pc' := 2) dJ0_indexOf_0f7a4_1 rfl rfl ?_
  refine GW.iconst (pc' := 3) (v := 0) dJ0_indexOf_0f7a4_2 rfl (by decide) ?_
  refine GW.callV (pc' := 6) (k := 1000) (av := [.int v1, .int 0]) (rest := []) dJ0_indexOf_0f7a4_3 rfl mk_J0_indexOf_7cf53 lk_J0_633 vk_J0_indexOf_7cf53 (.inr ⟨0, by decide, rfl, rfl⟩) rfl rfl (Nat.le_of_ble_eq_true rfl) (bk_i (MI.intro (lv := [(0, .ref 1000), (1, .int v1), (2, .int 0)]) mk_J0_indexOf_7cf53.2.2.2.2 (Nat.le_of_ble_eq_true rfl) rfl ?_))
  refine GW.aload_n (pc' := 1) dJ0_indexOf_7cf53_0 rfl rfl ?_
  refine GW.callV (pc' := 4) (k := 1000) (av := []) (rest := []) dJ0_indexOf_7cf53_1 rfl mk_J0_isLatin1_aae02 lk_J0_492 vk_J0_isLatin1_aae02 (.inr ⟨0, by decide, rfl, rfl⟩) rfl rfl (Nat.le_of_ble_eq_true rfl) (bk_i (MI.intro (lv := [(0, .ref 1000)]) mk_J0_isLatin1_aae02.2.2.2.2 (Nat.le_of_ble_eq_true rfl) rfl ?_))
  refine GW.xcompact (pc' := 3) dJ0_isLatin1_aae02_0 rfl xk_J0_38 ?_
  refine GW.ifeq (pc' := 6) (tgt := 17) dJ0_isLatin1_aae02_3 rfl (by decide) (ite_n (by decide) ?_)
  refine GW.aload_n (pc' := 7) dJ0_isLatin1_aae02_6 rfl rfl ?_
  refine GW.xcoder (pc' := 10) (i := 0) (by decide) dJ0_isLatin1_aae02_7 rfl xk_J0_15 ?_
  refine GW.ifne (pc' := 13) (tgt := 17) dJ0_isLatin1_aae02_10 rfl (by decide) (ite_p (by decide) ?_)
  refine GW.iconst (pc' := 14) (v := 1) dJ0_isLatin1_aae02_13 rfl (by decide) ?_
  refine GW.goto (tgt := 18) dJ0_isLatin1_aae02_14 (by decide) ?_
  refine GW.zret dJ0_isLatin1_aae02_18 rfl (by decide) ⟨_, rfl, ?_⟩
  refine GW.ifeq (pc' := 7) (tgt := 23) dJ0_indexOf_7cf53_4 rfl (by decide) (ite_n (by decide) ?_)
  refine GW.aload_n (pc' := 8) dJ0_indexOf_7cf53_7 rfl rfl ?_
  refine GW.xvalue (pc' := 11) (i := 0) (by decide) dJ0_indexOf_7cf53_8 rfl xk_J0_9 ?_
  refine GW.iload_n (pc' := 12) dJ0_indexOf_7cf53_11 rfl rfl ?_
  refine GW.iload_n (pc' := 13) dJ0_indexOf_7cf53_12 rfl rfl ?_
  refine GW.aload_n (pc' := 14) dJ0_indexOf_7cf53_13 rfl rfl ?_
  refine GW.callV (pc' := 17) (k := 1000) (av := []) (rest := [.int 0, .int v1, .ref 1100]) dJ0_indexOf_7cf53_14 rfl mk_J0_length_8abf5 lk_J0_505 vk_J0_length_8abf5 (.inr ⟨0, by decide, rfl, rfl⟩) rfl rfl (Nat.le_of_ble_eq_true rfl) (bk_i (MI.intro (lv := [(0, .ref 1000)]) mk_J0_length_8abf5.2.2.2.2 (Nat.le_of_ble_eq_true rfl) rfl ?_))
  refine GW.aload_n (pc' := 1) dJ0_length_8abf5_0 rfl rfl ?_
  refine GW.xvalue (pc' := 4) (i := 0) (by decide) dJ0_length_8abf5_1 rfl xk_J0_9 ?_
  refine GW.xlen (pc' := 5) (i := 0) (v := 0) (by decide) dJ0_length_8abf5_4 rfl (by decide) ?_
  refine GW.aload_n (pc' := 6) dJ0_length_8abf5_5 rfl rfl ?_
  refine GW.callV (pc' := 9) (k := 1000) (av := []) (rest := [.int 0]) dJ0_length_8abf5_6 rfl mk_J0_coder_7d493 lk_J0_335 vk_J0_coder_7d493 (.inr ⟨0, by decide, rfl, rfl⟩) rfl rfl (Nat.le_of_ble_eq_true rfl) (bk_i (MI.intro (lv := [(0, .ref 1000)]) mk_J0_coder_7d493.2.2.2.2 (Nat.le_of_ble_eq_true rfl) rfl ?_))
  refine GW.xcompact (pc' := 3) dJ0_coder_7d493_0 rfl xk_J0_38 ?_
  refine GW.ifeq (pc' := 6) (tgt := 13) dJ0_coder_7d493_3 rfl (by decide) (ite_n (by decide) ?_)
  refine GW.aload_n (pc' := 7) dJ0_coder_7d493_6 rfl rfl ?_
  refine GW.xcoder (pc' := 10) (i := 0) (by decide) dJ0_coder_7d493_7 rfl xk_J0_15 ?_
  refine GW.goto (tgt := 14) dJ0_coder_7d493_10 (by decide) ?_
  refine GW.nret dJ0_coder_7d493_14 rfl rfl ⟨_, rfl, ?_⟩
  refine GW.ishr (pc' := 10) dJ0_length_8abf5_9 rfl ?_
  refine GW.iret dJ0_length_8abf5_10 rfl ⟨_, rfl, ?_⟩
  refine GW.callS (pc' := 20) (av := [.ref 1100, .int v1, .int 0, .int ((0 : Int32) >>> ((0 : Int32) &&& 31))]) (rest := []) dJ0_indexOf_7cf53_17 rfl mk_J1_indexOf_4cfef lk_J0_637 sk_J1_indexOf_4cfef rfl rfl (Nat.le_of_ble_eq_true rfl) (bk_i (MI.intro (lv := [(0, .ref 1100), (1, .int v1), (2, .int 0), (3, .int ((0 : Int32) >>> ((0 : Int32) &&& 31)))]) mk_J1_indexOf_4cfef.2.2.2.2 (Nat.le_of_ble_eq_true rfl) rfl ?_))
  refine GW.iload_n (pc' := 1) dJ1_indexOf_4cfef_0 rfl rfl ?_
  refine GW.callS (pc' := 4) (av := [.int v1]) (rest := []) dJ1_indexOf_4cfef_1 rfl mk_J1_canEncode_9a6ad lk_J1_88 sk_J1_canEncode_9a6ad rfl rfl (Nat.le_of_ble_eq_true rfl) (bk_i (MI.intro (lv := [(0, .int v1)]) mk_J1_canEncode_9a6ad.2.2.2.2 (Nat.le_of_ble_eq_true rfl) rfl ?_))
  refine GW.iload_n (pc' := 1) dJ1_canEncode_9a6ad_0 rfl rfl ?_
  refine GW.iflt (pc' := 4) (tgt := 15) dJ1_canEncode_9a6ad_1 rfl (by decide) (ite_i (fun c1 => ?_) (fun c1 => ?_))
  · replace h := ite_t h c1
    refine GW.iconst (pc' := 16) (v := 0) dJ1_canEncode_9a6ad_15 rfl (by decide) ?_
    refine GW.zret dJ1_canEncode_9a6ad_16 rfl (by decide) ⟨_, rfl, ?_⟩
    refine GW.ifne (pc' := 7) (tgt := 9) dJ1_indexOf_4cfef_4 rfl (by decide) (ite_p (by decide) ?_)
    refine GW.iconst (pc' := 8) (v := (-1)) dJ1_indexOf_4cfef_7 rfl (by decide) ?_
    refine GW.iret dJ1_indexOf_4cfef_8 rfl ⟨_, rfl, ?_⟩
    refine GW.goto (tgt := 36) dJ0_indexOf_7cf53_20 (by decide) ?_
    refine GW.iret dJ0_indexOf_7cf53_36 rfl ⟨_, rfl, ?_⟩
    refine GW.iret dJ0_indexOf_0f7a4_6 rfl ⟨_, rfl, ?_⟩
    exact h
  · replace h := ite_f h c1
    refine GW.iload_n (pc' := 5) dJ1_canEncode_9a6ad_4 rfl rfl ?_
    refine GW.sipush (pc' := 8) (v := 255) dJ1_canEncode_9a6ad_5 rfl (by decide) ?_
    refine GW.if_icmpgt (pc' := 11) (tgt := 15) dJ1_canEncode_9a6ad_8 rfl (by decide) (ite_i (fun c2 => ?_) (fun c2 => ?_))
    · replace h := ite_t h c2
      refine GW.iconst (pc' := 16) (v := 0) dJ1_canEncode_9a6ad_15 rfl (by decide) ?_
      refine GW.zret dJ1_canEncode_9a6ad_16 rfl (by decide) ⟨_, rfl, ?_⟩
      refine GW.ifne (pc' := 7) (tgt := 9) dJ1_indexOf_4cfef_4 rfl (by decide) (ite_p (by decide) ?_)
      refine GW.iconst (pc' := 8) (v := (-1)) dJ1_indexOf_4cfef_7 rfl (by decide) ?_
      refine GW.iret dJ1_indexOf_4cfef_8 rfl ⟨_, rfl, ?_⟩
      refine GW.goto (tgt := 36) dJ0_indexOf_7cf53_20 (by decide) ?_
      refine GW.iret dJ0_indexOf_7cf53_36 rfl ⟨_, rfl, ?_⟩
      refine GW.iret dJ0_indexOf_0f7a4_6 rfl ⟨_, rfl, ?_⟩
      exact h
    · replace h := ite_f h c2
      refine GW.iconst (pc' := 12) (v := 1) dJ1_canEncode_9a6ad_11 rfl (by decide) ?_
      refine GW.goto (tgt := 16) dJ1_canEncode_9a6ad_12 (by decide) ?_
      refine GW.zret dJ1_canEncode_9a6ad_16 rfl (by decide) ⟨_, rfl, ?_⟩
      refine GW.ifne (pc' := 7) (tgt := 9) dJ1_indexOf_4cfef_4 rfl (by decide) (ite_n (by decide) ?_)
      refine GW.iload_n (pc' := 10) dJ1_indexOf_4cfef_9 rfl rfl ?_
      refine GW.iconst (pc' := 11) (v := 0) dJ1_indexOf_4cfef_10 rfl (by decide) ?_
      refine GW.mmax (pc' := 14) dJ1_indexOf_4cfef_11 rfl zk_J1_92 (Nat.le_of_ble_eq_true rfl) ?_
      refine GW.istore_n (pc' := 15) (lv' := [(0, .ref 1100), (1, .int v1), (2, .int (gmax 0 0)), (3, .int ((0 : Int32) >>> ((0 : Int32) &&& 31)))]) dJ1_indexOf_4cfef_14 rfl rfl (by decide) rfl ?_
      refine GW.iload_n (pc' := 16) dJ1_indexOf_4cfef_15 rfl rfl ?_
      refine GW.aload_n (pc' := 17) dJ1_indexOf_4cfef_16 rfl rfl ?_
      refine GW.xlen (pc' := 18) (i := 0) (v := 0) (by decide) dJ1_indexOf_4cfef_17 rfl (by decide) ?_
      refine GW.mmin (pc' := 21) dJ1_indexOf_4cfef_18 rfl zk_J1_38 (Nat.le_of_ble_eq_true rfl) ?_
      refine GW.istore_n (pc' := 22) (lv' := [(0, .ref 1100), (1, .int v1), (2, .int (gmax 0 0)), (3, .int (gmin ((0 : Int32) >>> ((0 : Int32) &&& 31)) 0))]) dJ1_indexOf_4cfef_21 rfl rfl (by decide) rfl ?_
      refine GW.iload_n (pc' := 23) dJ1_indexOf_4cfef_22 rfl rfl ?_
      refine GW.iload_n (pc' := 24) dJ1_indexOf_4cfef_23 rfl rfl ?_
      refine GW.if_icmplt (pc' := 27) (tgt := 29) dJ1_indexOf_4cfef_24 rfl (by decide) (ite_i (fun c3 => ?_) (fun c3 => ?_))
      · replace h := ite_t h c3
        refine GW.aload_n (pc' := 30) dJ1_indexOf_4cfef_29 rfl rfl ?_
        refine GW.iload_n (pc' := 31) dJ1_indexOf_4cfef_30 rfl rfl ?_
        refine GW.iload_n (pc' := 32) dJ1_indexOf_4cfef_31 rfl rfl ?_
        refine GW.iload_n (pc' := 33) dJ1_indexOf_4cfef_32 rfl rfl ?_
        refine GW.callS (pc' := 36) (av := [.ref 1100, .int v1, .int (gmax 0 0), .int (gmin ((0 : Int32) >>> ((0 : Int32) &&& 31)) 0)]) (rest := []) dJ1_indexOf_4cfef_33 rfl mk_J1_indexOfChar_4cfef lk_J1_95 sk_J1_indexOfChar_4cfef rfl rfl (Nat.le_of_ble_eq_true rfl) (bk_i (MI.mono h (fun r4 M5 h => ?_)))
        refine GW.iret dJ1_indexOf_4cfef_36 rfl ⟨_, rfl, ?_⟩
        refine GW.goto (tgt := 36) dJ0_indexOf_7cf53_20 (by decide) ?_
        refine GW.iret dJ0_indexOf_7cf53_36 rfl ⟨_, rfl, ?_⟩
        refine GW.iret dJ0_indexOf_0f7a4_6 rfl ⟨_, rfl, ?_⟩
        exact h
      · replace h := ite_f h c3
        refine GW.iconst (pc' := 28) (v := (-1)) dJ1_indexOf_4cfef_27 rfl (by decide) ?_
        refine GW.iret dJ1_indexOf_4cfef_28 rfl ⟨_, rfl, ?_⟩
        refine GW.goto (tgt := 36) dJ0_indexOf_7cf53_20 (by decide) ?_
        refine GW.iret dJ0_indexOf_7cf53_36 rfl ⟨_, rfl, ?_⟩
        refine GW.iret dJ0_indexOf_0f7a4_6 rfl ⟨_, rfl, ?_⟩
        exact h

set_option maxRecDepth 100000 in
set_option maxHeartbeats 4000000 in
theorem wp_J0_indexOf_0f7a4_1001 (xs : gX) (d : Nat) (v1 : Int32) (M : Mem) (Q : Int32 → Mem → Prop) (h : (if v1 < 0 then Q (-1) M else (if 255 < v1 then Q (-1) M else (if (gmax 0 0) < (gmin ((3 : Int32) >>> ((0 : Int32) &&& 31)) 3) then MI xs d mJ1_indexOfChar_4cfef [.ref 1101, .int v1, .int (gmax 0 0), .int (gmin ((3 : Int32) >>> ((0 : Int32) &&& 31)) 3)] M (fun r4 M5 => Q r4 M5) else Q (-1) M)))) : MI xs (d + 3) mJ0_indexOf_0f7a4 [.ref 1001, .int v1] M Q := by
  refine MI.intro (lv := [(0, .ref 1001), (1, .int v1)]) mk_J0_indexOf_0f7a4.2.2.2.2 (Nat.le_of_ble_eq_true rfl) rfl ?_
  refine GW.aload_n (pc' := 1) dJ0_indexOf_0f7a4_0 rfl rfl ?_
  refine GW.iload_n (pc' := 2) dJ0_indexOf_0f7a4_1 rfl rfl ?_
  refine GW.iconst (pc' := 3) (v := 0) dJ0_indexOf_0f7a4_2 rfl (by decide) ?_
  refine GW.callV (pc' := 6) (k := 1001) (av := [.int v1, .int 0]) (rest := []) dJ0_indexOf_0f7a4_3 rfl mk_J0_indexOf_7cf53 lk_J0_633 vk_J0_indexOf_7cf53 (.inr ⟨1, by decide, rfl, rfl⟩) rfl rfl (Nat.le_of_ble_eq_true rfl) (bk_i (MI.intro (lv := [(0, .ref 1001), (1, .int v1), (2, .int 0)]) mk_J0_indexOf_7cf53.2.2.2.2 (Nat.le_of_ble_eq_true rfl) rfl ?_))
  refine GW.aload_n (pc' := 1) dJ0_indexOf_7cf53_0 rfl rfl ?_
  refine GW.callV (pc' := 4) (k := 1001) (av := []) (rest := []) dJ0_indexOf_7cf53_1 rfl mk_J0_isLatin1_aae02 lk_J0_492 vk_J0_isLatin1_aae02 (.inr ⟨1, by decide, rfl, rfl⟩) rfl rfl (Nat.le_of_ble_eq_true rfl) (bk_i (MI.intro (lv := [(0, .ref 1001)]) mk_J0_isLatin1_aae02.2.2.2.2 (Nat.le_of_ble_eq_true rfl) rfl ?_))
  refine GW.xcompact (pc' := 3) dJ0_isLatin1_aae02_0 rfl xk_J0_38 ?_
  refine GW.ifeq (pc' := 6) (tgt := 17) dJ0_isLatin1_aae02_3 rfl (by decide) (ite_n (by decide) ?_)
  refine GW.aload_n (pc' := 7) dJ0_isLatin1_aae02_6 rfl rfl ?_
  refine GW.xcoder (pc' := 10) (i := 1) (by decide) dJ0_isLatin1_aae02_7 rfl xk_J0_15 ?_
  refine GW.ifne (pc' := 13) (tgt := 17) dJ0_isLatin1_aae02_10 rfl (by decide) (ite_p (by decide) ?_)
  refine GW.iconst (pc' := 14) (v := 1) dJ0_isLatin1_aae02_13 rfl (by decide) ?_
  refine GW.goto (tgt := 18) dJ0_isLatin1_aae02_14 (by decide) ?_
  refine GW.zret dJ0_isLatin1_aae02_18 rfl (by decide) ⟨_, rfl, ?_⟩
  refine GW.ifeq (pc' := 7) (tgt := 23) dJ0_indexOf_7cf53_4 rfl (by decide) (ite_n (by decide) ?_)
  refine GW.aload_n (pc' := 8) dJ0_indexOf_7cf53_7 rfl rfl ?_
  refine GW.xvalue (pc' := 11) (i := 1) (by decide) dJ0_indexOf_7cf53_8 rfl xk_J0_9 ?_
  refine GW.iload_n (pc' := 12) dJ0_indexOf_7cf53_11 rfl rfl ?_
  refine GW.iload_n (pc' := 13) dJ0_indexOf_7cf53_12 rfl rfl ?_
  refine GW.aload_n (pc' := 14) dJ0_indexOf_7cf53_13 rfl rfl ?_
  refine GW.callV (pc' := 17) (k := 1001) (av := []) (rest := [.int 0, .int v1, .ref 1101]) dJ0_indexOf_7cf53_14 rfl mk_J0_length_8abf5 lk_J0_505 vk_J0_length_8abf5 (.inr ⟨1, by decide, rfl, rfl⟩) rfl rfl (Nat.le_of_ble_eq_true rfl) (bk_i (MI.intro (lv := [(0, .ref 1001)]) mk_J0_length_8abf5.2.2.2.2 (Nat.le_of_ble_eq_true rfl) rfl ?_))
  refine GW.aload_n (pc' := 1) dJ0_length_8abf5_0 rfl rfl ?_
  refine GW.xvalue (pc' := 4) (i := 1) (by decide) dJ0_length_8abf5_1 rfl xk_J0_9 ?_
  refine GW.xlen (pc' := 5) (i := 1) (v := 3) (by decide) dJ0_length_8abf5_4 rfl (by decide) ?_
  refine GW.aload_n (pc' := 6) dJ0_length_8abf5_5 rfl rfl ?_
  refine GW.callV (pc' := 9) (k := 1001) (av := []) (rest := [.int 3]) dJ0_length_8abf5_6 rfl mk_J0_coder_7d493 lk_J0_335 vk_J0_coder_7d493 (.inr ⟨1, by decide, rfl, rfl⟩) rfl rfl (Nat.le_of_ble_eq_true rfl) (bk_i (MI.intro (lv := [(0, .ref 1001)]) mk_J0_coder_7d493.2.2.2.2 (Nat.le_of_ble_eq_true rfl) rfl ?_))
  refine GW.xcompact (pc' := 3) dJ0_coder_7d493_0 rfl xk_J0_38 ?_
  refine GW.ifeq (pc' := 6) (tgt := 13) dJ0_coder_7d493_3 rfl (by decide) (ite_n (by decide) ?_)
  refine GW.aload_n (pc' := 7) dJ0_coder_7d493_6 rfl rfl ?_
  refine GW.xcoder (pc' := 10) (i := 1) (by decide) dJ0_coder_7d493_7 rfl xk_J0_15 ?_
  refine GW.goto (tgt := 14) dJ0_coder_7d493_10 (by decide) ?_
  refine GW.nret dJ0_coder_7d493_14 rfl rfl ⟨_, rfl, ?_⟩
  refine GW.ishr (pc' := 10) dJ0_length_8abf5_9 rfl ?_
  refine GW.iret dJ0_length_8abf5_10 rfl ⟨_, rfl, ?_⟩
  refine GW.callS (pc' := 20) (av := [.ref 1101, .int v1, .int 0, .int ((3 : Int32) >>> ((0 : Int32) &&& 31))]) (rest := []) dJ0_indexOf_7cf53_17 rfl mk_J1_indexOf_4cfef lk_J0_637 sk_J1_indexOf_4cfef rfl rfl (Nat.le_of_ble_eq_true rfl) (bk_i (MI.intro (lv := [(0, .ref 1101), (1, .int v1), (2, .int 0), (3, .int ((3 : Int32) >>> ((0 : Int32) &&& 31)))]) mk_J1_indexOf_4cfef.2.2.2.2 (Nat.le_of_ble_eq_true rfl) rfl ?_))
  refine GW.iload_n (pc' := 1) dJ1_indexOf_4cfef_0 rfl rfl ?_
  refine GW.callS (pc' := 4) (av := [.int v1]) (rest := []) dJ1_indexOf_4cfef_1 rfl mk_J1_canEncode_9a6ad lk_J1_88 sk_J1_canEncode_9a6ad rfl rfl (Nat.le_of_ble_eq_true rfl) (bk_i (MI.intro (lv := [(0, .int v1)]) mk_J1_canEncode_9a6ad.2.2.2.2 (Nat.le_of_ble_eq_true rfl) rfl ?_))
  refine GW.iload_n (pc' := 1) dJ1_canEncode_9a6ad_0 rfl rfl ?_
  refine GW.iflt (pc' := 4) (tgt := 15) dJ1_canEncode_9a6ad_1 rfl (by decide) (ite_i (fun c1 => ?_) (fun c1 => ?_))
  · replace h := ite_t h c1
    refine GW.iconst (pc' := 16) (v := 0) dJ1_canEncode_9a6ad_15 rfl (by decide) ?_
    refine GW.zret dJ1_canEncode_9a6ad_16 rfl (by decide) ⟨_, rfl, ?_⟩
    refine GW.ifne (pc' := 7) (tgt := 9) dJ1_indexOf_4cfef_4 rfl (by decide) (ite_p (by decide) ?_)
    refine GW.iconst (pc' := 8) (v := (-1)) dJ1_indexOf_4cfef_7 rfl (by decide) ?_
    refine GW.iret dJ1_indexOf_4cfef_8 rfl ⟨_, rfl, ?_⟩
    refine GW.goto (tgt := 36) dJ0_indexOf_7cf53_20 (by decide) ?_
    refine GW.iret dJ0_indexOf_7cf53_36 rfl ⟨_, rfl, ?_⟩
    refine GW.iret dJ0_indexOf_0f7a4_6 rfl ⟨_, rfl, ?_⟩
    exact h
  · replace h := ite_f h c1
    refine GW.iload_n (pc' := 5) dJ1_canEncode_9a6ad_4 rfl rfl ?_
    refine GW.sipush (pc' := 8) (v := 255) dJ1_canEncode_9a6ad_5 rfl (by decide) ?_
    refine GW.if_icmpgt (pc' := 11) (tgt := 15) dJ1_canEncode_9a6ad_8 rfl (by decide) (ite_i (fun c2 => ?_) (fun c2 => ?_))
    · replace h := ite_t h c2
      refine GW.iconst (pc' := 16) (v := 0) dJ1_canEncode_9a6ad_15 rfl (by decide) ?_
      refine GW.zret dJ1_canEncode_9a6ad_16 rfl (by decide) ⟨_, rfl, ?_⟩
      refine GW.ifne (pc' := 7) (tgt := 9) dJ1_indexOf_4cfef_4 rfl (by decide) (ite_p (by decide) ?_)
      refine GW.iconst (pc' := 8) (v := (-1)) dJ1_indexOf_4cfef_7 rfl (by decide) ?_
      refine GW.iret dJ1_indexOf_4cfef_8 rfl ⟨_, rfl, ?_⟩
      refine GW.goto (tgt := 36) dJ0_indexOf_7cf53_20 (by decide) ?_
      refine GW.iret dJ0_indexOf_7cf53_36 rfl ⟨_, rfl, ?_⟩
      refine GW.iret dJ0_indexOf_0f7a4_6 rfl ⟨_, rfl, ?_⟩
      exact h
    · replace h := ite_f h c2
      refine GW.iconst (pc' := 12) (v := 1) dJ1_canEncode_9a6ad_11 rfl (by decide) ?_
      refine GW.goto (tgt := 16) dJ1_canEncode_9a6ad_12 (by decide) ?_
      refine GW.zret dJ1_canEncode_9a6ad_16 rfl (by decide) ⟨_, rfl, ?_⟩
      refine GW.ifne (pc' := 7) (tgt := 9) dJ1_indexOf_4cfef_4 rfl (by decide) (ite_n (by decide) ?_)
      refine GW.iload_n (pc' := 10) dJ1_indexOf_4cfef_9 rfl rfl ?_
      refine GW.iconst (pc' := 11) (v := 0) dJ1_indexOf_4cfef_10 rfl (by decide) ?_
      refine GW.mmax (pc' := 14) dJ1_indexOf_4cfef_11 rfl zk_J1_92 (Nat.le_of_ble_eq_true rfl) ?_
      refine GW.istore_n (pc' := 15) (lv' := [(0, .ref 1101), (1, .int v1), (2, .int (gmax 0 0)), (3, .int ((3 : Int32) >>> ((0 : Int32) &&& 31)))]) dJ1_indexOf_4cfef_14 rfl rfl (by decide) rfl ?_
      refine GW.iload_n (pc' := 16) dJ1_indexOf_4cfef_15 rfl rfl ?_
      refine GW.aload_n (pc' := 17) dJ1_indexOf_4cfef_16 rfl rfl ?_
      refine GW.xlen (pc' := 18) (i := 1) (v := 3) (by decide) dJ1_indexOf_4cfef_17 rfl (by decide) ?_
      refine GW.mmin (pc' := 21) dJ1_indexOf_4cfef_18 rfl zk_J1_38 (Nat.le_of_ble_eq_true rfl) ?_
      refine GW.istore_n (pc' := 22) (lv' := [(0, .ref 1101), (1, .int v1), (2, .int (gmax 0 0)), (3, .int (gmin ((3 : Int32) >>> ((0 : Int32) &&& 31)) 3))]) dJ1_indexOf_4cfef_21 rfl rfl (by decide) rfl ?_
      refine GW.iload_n (pc' := 23) dJ1_indexOf_4cfef_22 rfl rfl ?_
      refine GW.iload_n (pc' := 24) dJ1_indexOf_4cfef_23 rfl rfl ?_
      refine GW.if_icmplt (pc' := 27) (tgt := 29) dJ1_indexOf_4cfef_24 rfl (by decide) (ite_i (fun c3 => ?_) (fun c3 => ?_))
      · replace h := ite_t h c3
        refine GW.aload_n (pc' := 30) dJ1_indexOf_4cfef_29 rfl rfl ?_
        refine GW.iload_n (pc' := 31) dJ1_indexOf_4cfef_30 rfl rfl ?_
        refine GW.iload_n (pc' := 32) dJ1_indexOf_4cfef_31 rfl rfl ?_
        refine GW.iload_n (pc' := 33) dJ1_indexOf_4cfef_32 rfl rfl ?_
        refine GW.callS (pc' := 36) (av := [.ref 1101, .int v1, .int (gmax 0 0), .int (gmin ((3 : Int32) >>> ((0 : Int32) &&& 31)) 3)]) (rest := []) dJ1_indexOf_4cfef_33 rfl mk_J1_indexOfChar_4cfef lk_J1_95 sk_J1_indexOfChar_4cfef rfl rfl (Nat.le_of_ble_eq_true rfl) (bk_i (MI.mono h (fun r4 M5 h => ?_)))
        refine GW.iret dJ1_indexOf_4cfef_36 rfl ⟨_, rfl, ?_⟩
        refine GW.goto (tgt := 36) dJ0_indexOf_7cf53_20 (by decide) ?_
        refine GW.iret dJ0_indexOf_7cf53_36 rfl ⟨_, rfl, ?_⟩
        refine GW.iret dJ0_indexOf_0f7a4_6 rfl ⟨_, rfl, ?_⟩
        exact h
      · replace h := ite_f h c3
        refine GW.iconst (pc' := 28) (v := (-1)) dJ1_indexOf_4cfef_27 rfl (by decide) ?_
        refine GW.iret dJ1_indexOf_4cfef_28 rfl ⟨_, rfl, ?_⟩
        refine GW.goto (tgt := 36) dJ0_indexOf_7cf53_20 (by decide) ?_
        refine GW.iret dJ0_indexOf_7cf53_36 rfl ⟨_, rfl, ?_⟩
        refine GW.iret dJ0_indexOf_0f7a4_6 rfl ⟨_, rfl, ?_⟩
        exact h

set_option maxRecDepth 100000 in
set_option maxHeartbeats 4000000 in
theorem wp_J0_indexOf_0f7a4_1002 (xs : gX) (d : Nat) (v1 : Int32) (M : Mem) (Q : Int32 → Mem → Prop) (h : (if v1 < 0 then Q (-1) M else (if 255 < v1 then Q (-1) M else (if (gmax 0 0) < (gmin ((3 : Int32) >>> ((0 : Int32) &&& 31)) 3) then MI xs d mJ1_indexOfChar_4cfef [.ref 1102, .int v1, .int (gmax 0 0), .int (gmin ((3 : Int32) >>> ((0 : Int32) &&& 31)) 3)] M (fun r4 M5 => Q r4 M5) else Q (-1) M)))) : MI xs (d + 3) mJ0_indexOf_0f7a4 [.ref 1002, .int v1] M Q := by
  refine MI.intro (lv := [(0, .ref 1002), (1, .int v1)]) mk_J0_indexOf_0f7a4.2.2.2.2 (Nat.le_of_ble_eq_true rfl) rfl ?_
  refine GW.aload_n (pc' := 1) dJ0_indexOf_0f7a4_0 rfl rfl ?_
  refine GW.iload_n (pc' := 2) dJ0_indexOf_0f7a4_1 rfl rfl ?_
  refine GW.iconst (pc' := 3) (v := 0) dJ0_indexOf_0f7a4_2 rfl (by decide) ?_
  refine GW.callV (pc' := 6) (k := 1002) (av := [.int v1, .int 0]) (rest := []) dJ0_indexOf_0f7a4_3 rfl mk_J0_indexOf_7cf53 lk_J0_633 vk_J0_indexOf_7cf53 (.inr ⟨2, by decide, rfl, rfl⟩) rfl rfl (Nat.le_of_ble_eq_true rfl) (bk_i (MI.intro (lv := [(0, .ref 1002), (1, .int v1), (2, .int 0)]) mk_J0_indexOf_7cf53.2.2.2.2 (Nat.le_of_ble_eq_true rfl) rfl ?_))
  refine GW.aload_n (pc' := 1) dJ0_indexOf_7cf53_0 rfl rfl ?_
  refine GW.callV (pc' := 4) (k := 1002) (av := []) (rest := []) dJ0_indexOf_7cf53_1 rfl mk_J0_isLatin1_aae02 lk_J0_492 vk_J0_isLatin1_aae02 (.inr ⟨2, by decide, rfl, rfl⟩) rfl rfl (Nat.le_of_ble_eq_true rfl) (bk_i (MI.intro (lv := [(0, .ref 1002)]) mk_J0_isLatin1_aae02.2.2.2.2 (Nat.le_of_ble_eq_true rfl) rfl ?_))
  refine GW.xcompact (pc' := 3) dJ0_isLatin1_aae02_0 rfl xk_J0_38 ?_
  refine GW.ifeq (pc' := 6) (tgt := 17) dJ0_isLatin1_aae02_3 rfl (by decide) (ite_n (by decide) ?_)
  refine GW.aload_n (pc' := 7) dJ0_isLatin1_aae02_6 rfl rfl ?_
  refine GW.xcoder (pc' := 10) (i := 2) (by decide) dJ0_isLatin1_aae02_7 rfl xk_J0_15 ?_
  refine GW.ifne (pc' := 13) (tgt := 17) dJ0_isLatin1_aae02_10 rfl (by decide) (ite_p (by decide) ?_)
  refine GW.iconst (pc' := 14) (v := 1) dJ0_isLatin1_aae02_13 rfl (by decide) ?_
  refine GW.goto (tgt := 18) dJ0_isLatin1_aae02_14 (by decide) ?_
  refine GW.zret dJ0_isLatin1_aae02_18 rfl (by decide) ⟨_, rfl, ?_⟩
  refine GW.ifeq (pc' := 7) (tgt := 23) dJ0_indexOf_7cf53_4 rfl (by decide) (ite_n (by decide) ?_)
  refine GW.aload_n (pc' := 8) dJ0_indexOf_7cf53_7 rfl rfl ?_
  refine GW.xvalue (pc' := 11) (i := 2) (by decide) dJ0_indexOf_7cf53_8 rfl xk_J0_9 ?_
  refine GW.iload_n (pc' := 12) dJ0_indexOf_7cf53_11 rfl rfl ?_
  refine GW.iload_n (pc' := 13) dJ0_indexOf_7cf53_12 rfl rfl ?_
  refine GW.aload_n (pc' := 14) dJ0_indexOf_7cf53_13 rfl rfl ?_
  refine GW.callV (pc' := 17) (k := 1002) (av := []) (rest := [.int 0, .int v1, .ref 1102]) dJ0_indexOf_7cf53_14 rfl mk_J0_length_8abf5 lk_J0_505 vk_J0_length_8abf5 (.inr ⟨2, by decide, rfl, rfl⟩) rfl rfl (Nat.le_of_ble_eq_true rfl) (bk_i (MI.intro (lv := [(0, .ref 1002)]) mk_J0_length_8abf5.2.2.2.2 (Nat.le_of_ble_eq_true rfl) rfl ?_))
  refine GW.aload_n (pc' := 1) dJ0_length_8abf5_0 rfl rfl ?_
  refine GW.xvalue (pc' := 4) (i := 2) (by decide) dJ0_length_8abf5_1 rfl xk_J0_9 ?_
  refine GW.xlen (pc' := 5) (i := 2) (v := 3) (by decide) dJ0_length_8abf5_4 rfl (by decide) ?_
  refine GW.aload_n (pc' := 6) dJ0_length_8abf5_5 rfl rfl ?_
  refine GW.callV (pc' := 9) (k := 1002) (av := []) (rest := [.int 3]) dJ0_length_8abf5_6 rfl mk_J0_coder_7d493 lk_J0_335 vk_J0_coder_7d493 (.inr ⟨2, by decide, rfl, rfl⟩) rfl rfl (Nat.le_of_ble_eq_true rfl) (bk_i (MI.intro (lv := [(0, .ref 1002)]) mk_J0_coder_7d493.2.2.2.2 (Nat.le_of_ble_eq_true rfl) rfl ?_))
  refine GW.xcompact (pc' := 3) dJ0_coder_7d493_0 rfl xk_J0_38 ?_
  refine GW.ifeq (pc' := 6) (tgt := 13) dJ0_coder_7d493_3 rfl (by decide) (ite_n (by decide) ?_)
  refine GW.aload_n (pc' := 7) dJ0_coder_7d493_6 rfl rfl ?_
  refine GW.xcoder (pc' := 10) (i := 2) (by decide) dJ0_coder_7d493_7 rfl xk_J0_15 ?_
  refine GW.goto (tgt := 14) dJ0_coder_7d493_10 (by decide) ?_
  refine GW.nret dJ0_coder_7d493_14 rfl rfl ⟨_, rfl, ?_⟩
  refine GW.ishr (pc' := 10) dJ0_length_8abf5_9 rfl ?_
  refine GW.iret dJ0_length_8abf5_10 rfl ⟨_, rfl, ?_⟩
  refine GW.callS (pc' := 20) (av := [.ref 1102, .int v1, .int 0, .int ((3 : Int32) >>> ((0 : Int32) &&& 31))]) (rest := []) dJ0_indexOf_7cf53_17 rfl mk_J1_indexOf_4cfef lk_J0_637 sk_J1_indexOf_4cfef rfl rfl (Nat.le_of_ble_eq_true rfl) (bk_i (MI.intro (lv := [(0, .ref 1102), (1, .int v1), (2, .int 0), (3, .int ((3 : Int32) >>> ((0 : Int32) &&& 31)))]) mk_J1_indexOf_4cfef.2.2.2.2 (Nat.le_of_ble_eq_true rfl) rfl ?_))
  refine GW.iload_n (pc' := 1) dJ1_indexOf_4cfef_0 rfl rfl ?_
  refine GW.callS (pc' := 4) (av := [.int v1]) (rest := []) dJ1_indexOf_4cfef_1 rfl mk_J1_canEncode_9a6ad lk_J1_88 sk_J1_canEncode_9a6ad rfl rfl (Nat.le_of_ble_eq_true rfl) (bk_i (MI.intro (lv := [(0, .int v1)]) mk_J1_canEncode_9a6ad.2.2.2.2 (Nat.le_of_ble_eq_true rfl) rfl ?_))
  refine GW.iload_n (pc' := 1) dJ1_canEncode_9a6ad_0 rfl rfl ?_
  refine GW.iflt (pc' := 4) (tgt := 15) dJ1_canEncode_9a6ad_1 rfl (by decide) (ite_i (fun c1 => ?_) (fun c1 => ?_))
  · replace h := ite_t h c1
    refine GW.iconst (pc' := 16) (v := 0) dJ1_canEncode_9a6ad_15 rfl (by decide) ?_
    refine GW.zret dJ1_canEncode_9a6ad_16 rfl (by decide) ⟨_, rfl, ?_⟩
    refine GW.ifne (pc' := 7) (tgt := 9) dJ1_indexOf_4cfef_4 rfl (by decide) (ite_p (by decide) ?_)
    refine GW.iconst (pc' := 8) (v := (-1)) dJ1_indexOf_4cfef_7 rfl (by decide) ?_
    refine GW.iret dJ1_indexOf_4cfef_8 rfl ⟨_, rfl, ?_⟩
    refine GW.goto (tgt := 36) dJ0_indexOf_7cf53_20 (by decide) ?_
    refine GW.iret dJ0_indexOf_7cf53_36 rfl ⟨_, rfl, ?_⟩
    refine GW.iret dJ0_indexOf_0f7a4_6 rfl ⟨_, rfl, ?_⟩
    exact h
  · replace h := ite_f h c1
    refine GW.iload_n (pc' := 5) dJ1_canEncode_9a6ad_4 rfl rfl ?_
    refine GW.sipush (pc' := 8) (v := 255) dJ1_canEncode_9a6ad_5 rfl (by decide) ?_
    refine GW.if_icmpgt (pc' := 11) (tgt := 15) dJ1_canEncode_9a6ad_8 rfl (by decide) (ite_i (fun c2 => ?_) (fun c2 => ?_))
    · replace h := ite_t h c2
      refine GW.iconst (pc' := 16) (v := 0) dJ1_canEncode_9a6ad_15 rfl (by decide) ?_
      refine GW.zret dJ1_canEncode_9a6ad_16 rfl (by decide) ⟨_, rfl, ?_⟩
      refine GW.ifne (pc' := 7) (tgt := 9) dJ1_indexOf_4cfef_4 rfl (by decide) (ite_p (by decide) ?_)
      refine GW.iconst (pc' := 8) (v := (-1)) dJ1_indexOf_4cfef_7 rfl (by decide) ?_
      refine GW.iret dJ1_indexOf_4cfef_8 rfl ⟨_, rfl, ?_⟩
      refine GW.goto (tgt := 36) dJ0_indexOf_7cf53_20 (by decide) ?_
      refine GW.iret dJ0_indexOf_7cf53_36 rfl ⟨_, rfl, ?_⟩
      refine GW.iret dJ0_indexOf_0f7a4_6 rfl ⟨_, rfl, ?_⟩
      exact h
    · replace h := ite_f h c2
      refine GW.iconst (pc' := 12) (v := 1) dJ1_canEncode_9a6ad_11 rfl (by decide) ?_
      refine GW.goto (tgt := 16) dJ1_canEncode_9a6ad_12 (by decide) ?_
      refine GW.zret dJ1_canEncode_9a6ad_16 rfl (by decide) ⟨_, rfl, ?_⟩
      refine GW.ifne (pc' := 7) (tgt := 9) dJ1_indexOf_4cfef_4 rfl (by decide) (ite_n (by decide) ?_)
      refine GW.iload_n (pc' := 10) dJ1_indexOf_4cfef_9 rfl rfl ?_
      refine GW.iconst (pc' := 11) (v := 0) dJ1_indexOf_4cfef_10 rfl (by decide) ?_
      refine GW.mmax (pc' := 14) dJ1_indexOf_4cfef_11 rfl zk_J1_92 (Nat.le_of_ble_eq_true rfl) ?_
      refine GW.istore_n (pc' := 15) (lv' := [(0, .ref 1102), (1, .int v1), (2, .int (gmax 0 0)), (3, .int ((3 : Int32) >>> ((0 : Int32) &&& 31)))]) dJ1_indexOf_4cfef_14 rfl rfl (by decide) rfl ?_
      refine GW.iload_n (pc' := 16) dJ1_indexOf_4cfef_15 rfl rfl ?_
      refine GW.aload_n (pc' := 17) dJ1_indexOf_4cfef_16 rfl rfl ?_
      refine GW.xlen (pc' := 18) (i := 2) (v := 3) (by decide) dJ1_indexOf_4cfef_17 rfl (by decide) ?_
      refine GW.mmin (pc' := 21) dJ1_indexOf_4cfef_18 rfl zk_J1_38 (Nat.le_of_ble_eq_true rfl) ?_
      refine GW.istore_n (pc' := 22) (lv' := [(0, .ref 1102), (1, .int v1), (2, .int (gmax 0 0)), (3, .int (gmin ((3 : Int32) >>> ((0 : Int32) &&& 31)) 3))]) dJ1_indexOf_4cfef_21 rfl rfl (by decide) rfl ?_
      refine GW.iload_n (pc' := 23) dJ1_indexOf_4cfef_22 rfl rfl ?_
      refine GW.iload_n (pc' := 24) dJ1_indexOf_4cfef_23 rfl rfl ?_
      refine GW.if_icmplt (pc' := 27) (tgt := 29) dJ1_indexOf_4cfef_24 rfl (by decide) (ite_i (fun c3 => ?_) (fun c3 => ?_))
      · replace h := ite_t h c3
        refine GW.aload_n (pc' := 30) dJ1_indexOf_4cfef_29 rfl rfl ?_
        refine GW.iload_n (pc' := 31) dJ1_indexOf_4cfef_30 rfl rfl ?_
        refine GW.iload_n (pc' := 32) dJ1_indexOf_4cfef_31 rfl rfl ?_
        refine GW.iload_n (pc' := 33) dJ1_indexOf_4cfef_32 rfl rfl ?_
        refine GW.callS (pc' := 36) (av := [.ref 1102, .int v1, .int (gmax 0 0), .int (gmin ((3 : Int32) >>> ((0 : Int32) &&& 31)) 3)]) (rest := []) dJ1_indexOf_4cfef_33 rfl mk_J1_indexOfChar_4cfef lk_J1_95 sk_J1_indexOfChar_4cfef rfl rfl (Nat.le_of_ble_eq_true rfl) (bk_i (MI.mono h (fun r4 M5 h => ?_)))
        refine GW.iret dJ1_indexOf_4cfef_36 rfl ⟨_, rfl, ?_⟩
        refine GW.goto (tgt := 36) dJ0_indexOf_7cf53_20 (by decide) ?_
        refine GW.iret dJ0_indexOf_7cf53_36 rfl ⟨_, rfl, ?_⟩
        refine GW.iret dJ0_indexOf_0f7a4_6 rfl ⟨_, rfl, ?_⟩
        exact h
      · replace h := ite_f h c3
        refine GW.iconst (pc' := 28) (v := (-1)) dJ1_indexOf_4cfef_27 rfl (by decide) ?_
        refine GW.iret dJ1_indexOf_4cfef_28 rfl ⟨_, rfl, ?_⟩
        refine GW.goto (tgt := 36) dJ0_indexOf_7cf53_20 (by decide) ?_
        refine GW.iret dJ0_indexOf_7cf53_36 rfl ⟨_, rfl, ?_⟩
        refine GW.iret dJ0_indexOf_0f7a4_6 rfl ⟨_, rfl, ?_⟩
        exact h

set_option maxRecDepth 100000 in
set_option maxHeartbeats 4000000 in
theorem wp_J1_indexOfChar_4cfef_1100 (xs : gX) (d : Nat) (v1 : Int32) (v2 : Int32) (v3 : Int32) (M : Mem) (Q : Int32 → Mem → Prop) (h : GW xs d mJ1_indexOfChar_4cfef 7 [(0, .ref 1100), (1, .int v1), (2, .int v2), (3, .int v3), (4, .int v1.toInt8.toInt32), (5, .int v2)] [] M (QI Q)) : MI xs d mJ1_indexOfChar_4cfef [.ref 1100, .int v1, .int v2, .int v3] M Q := by
  refine MI.intro (lv := [(0, .ref 1100), (1, .int v1), (2, .int v2), (3, .int v3)]) mk_J1_indexOfChar_4cfef.2.2.2.2 (Nat.le_of_ble_eq_true rfl) rfl ?_
  refine GW.iload_n (pc' := 1) dJ1_indexOfChar_4cfef_0 rfl rfl ?_
  refine GW.i2b (pc' := 2) dJ1_indexOfChar_4cfef_1 rfl ?_
  refine GW.istore (pc' := 4) (lv' := [(0, .ref 1100), (1, .int v1), (2, .int v2), (3, .int v3), (4, .int v1.toInt8.toInt32)]) dJ1_indexOfChar_4cfef_2 rfl rfl (by decide) rfl ?_
  refine GW.iload_n (pc' := 5) dJ1_indexOfChar_4cfef_4 rfl rfl ?_
  refine GW.istore (pc' := 7) (lv' := [(0, .ref 1100), (1, .int v1), (2, .int v2), (3, .int v3), (4, .int v1.toInt8.toInt32), (5, .int v2)]) dJ1_indexOfChar_4cfef_5 rfl rfl (by decide) rfl ?_
  exact h
set_option maxRecDepth 100000 in
set_option maxHeartbeats 4000000 in
theorem wp_J1_indexOfChar_4cfef_1100_L7 (xs : gX) (d : Nat) (v1 : Int32) (v2 : Int32) (v3 : Int32) (v4 : Int32) (v5 : Int32) (M : Mem) (Q : Int32 → Mem → Prop) (h : (if v5 < v3 then (vp_in v5 0 ∧ (if ((txL 0).getD v5.toNatClampNeg 0) = v4 then Q v5 M else GW xs d mJ1_indexOfChar_4cfef 7 [(0, .ref 1100), (1, .int v1), (2, .int v2), (3, .int v3), (4, .int v4), (5, .int (v5 + 1))] [] M (QI Q))) else Q (-1) M)) : GW xs d mJ1_indexOfChar_4cfef 7 [(0, .ref 1100), (1, .int v1), (2, .int v2), (3, .int v3), (4, .int v4), (5, .int v5)] [] M (QI Q) := by
  refine GW.iload (pc' := 9) dJ1_indexOfChar_4cfef_7 rfl rfl ?_
  refine GW.iload_n (pc' := 10) dJ1_indexOfChar_4cfef_9 rfl rfl ?_
  refine GW.if_icmpge (pc' := 13) (tgt := 31) dJ1_indexOfChar_4cfef_10 rfl (by decide) (ite_i (fun c1 => ?_) (fun c1 => ?_))
  · replace h := ite_t h c1
    refine GW.aload_n (pc' := 14) dJ1_indexOfChar_4cfef_13 rfl rfl ?_
    refine GW.iload (pc' := 16) dJ1_indexOfChar_4cfef_14 rfl rfl ?_
    obtain ⟨b2, h⟩ := h
    refine GW.xbyte (pc' := 17) (i := 0) (by decide) dJ1_indexOfChar_4cfef_16 rfl b2 ?_
    refine GW.iload (pc' := 19) dJ1_indexOfChar_4cfef_17 rfl rfl ?_
    refine GW.if_icmpne (pc' := 22) (tgt := 25) dJ1_indexOfChar_4cfef_19 rfl (by decide) (ite_i (fun c3 => ?_) (fun c3 => ?_))
    · replace h := ite_t h c3
      refine GW.iload (pc' := 24) dJ1_indexOfChar_4cfef_22 rfl rfl ?_
      refine GW.iret dJ1_indexOfChar_4cfef_24 rfl ⟨_, rfl, ?_⟩
      exact h
    · replace h := ite_f h c3
      refine GW.iinc (pc' := 28) (lv' := [(0, .ref 1100), (1, .int v1), (2, .int v2), (3, .int v3), (4, .int v4), (5, .int (v5 + 1))]) (v := (v5 + 1)) dJ1_indexOfChar_4cfef_25 rfl rfl (by decide) rfl rfl rfl ?_
      refine GW.goto (tgt := 7) dJ1_indexOfChar_4cfef_28 (by decide) ?_
      exact h
  · replace h := ite_f h c1
    refine GW.iconst (pc' := 32) (v := (-1)) dJ1_indexOfChar_4cfef_31 rfl (by decide) ?_
    refine GW.iret dJ1_indexOfChar_4cfef_32 rfl ⟨_, rfl, ?_⟩
    exact h

set_option maxRecDepth 100000 in
set_option maxHeartbeats 4000000 in
theorem wp_J1_indexOfChar_4cfef_1101 (xs : gX) (d : Nat) (v1 : Int32) (v2 : Int32) (v3 : Int32) (M : Mem) (Q : Int32 → Mem → Prop) (h : GW xs d mJ1_indexOfChar_4cfef 7 [(0, .ref 1101), (1, .int v1), (2, .int v2), (3, .int v3), (4, .int v1.toInt8.toInt32), (5, .int v2)] [] M (QI Q)) : MI xs d mJ1_indexOfChar_4cfef [.ref 1101, .int v1, .int v2, .int v3] M Q := by
  refine MI.intro (lv := [(0, .ref 1101), (1, .int v1), (2, .int v2), (3, .int v3)]) mk_J1_indexOfChar_4cfef.2.2.2.2 (Nat.le_of_ble_eq_true rfl) rfl ?_
  refine GW.iload_n (pc' := 1) dJ1_indexOfChar_4cfef_0 rfl rfl ?_
  refine GW.i2b (pc' := 2) dJ1_indexOfChar_4cfef_1 rfl ?_
  refine GW.istore (pc' := 4) (lv' := [(0, .ref 1101), (1, .int v1), (2, .int v2), (3, .int v3), (4, .int v1.toInt8.toInt32)]) dJ1_indexOfChar_4cfef_2 rfl rfl (by decide) rfl ?_
  refine GW.iload_n (pc' := 5) dJ1_indexOfChar_4cfef_4 rfl rfl ?_
  refine GW.istore (pc' := 7) (lv' := [(0, .ref 1101), (1, .int v1), (2, .int v2), (3, .int v3), (4, .int v1.toInt8.toInt32), (5, .int v2)]) dJ1_indexOfChar_4cfef_5 rfl rfl (by decide) rfl ?_
  exact h
set_option maxRecDepth 100000 in
set_option maxHeartbeats 4000000 in
theorem wp_J1_indexOfChar_4cfef_1101_L7 (xs : gX) (d : Nat) (v1 : Int32) (v2 : Int32) (v3 : Int32) (v4 : Int32) (v5 : Int32) (M : Mem) (Q : Int32 → Mem → Prop) (h : (if v5 < v3 then (vp_in v5 3 ∧ (if ((txL 1).getD v5.toNatClampNeg 0) = v4 then Q v5 M else GW xs d mJ1_indexOfChar_4cfef 7 [(0, .ref 1101), (1, .int v1), (2, .int v2), (3, .int v3), (4, .int v4), (5, .int (v5 + 1))] [] M (QI Q))) else Q (-1) M)) : GW xs d mJ1_indexOfChar_4cfef 7 [(0, .ref 1101), (1, .int v1), (2, .int v2), (3, .int v3), (4, .int v4), (5, .int v5)] [] M (QI Q) := by
  refine GW.iload (pc' := 9) dJ1_indexOfChar_4cfef_7 rfl rfl ?_
  refine GW.iload_n (pc' := 10) dJ1_indexOfChar_4cfef_9 rfl rfl ?_
  refine GW.if_icmpge (pc' := 13) (tgt := 31) dJ1_indexOfChar_4cfef_10 rfl (by decide) (ite_i (fun c1 => ?_) (fun c1 => ?_))
  · replace h := ite_t h c1
    refine GW.aload_n (pc' := 14) dJ1_indexOfChar_4cfef_13 rfl rfl ?_
    refine GW.iload (pc' := 16) dJ1_indexOfChar_4cfef_14 rfl rfl ?_
    obtain ⟨b2, h⟩ := h
    refine GW.xbyte (pc' := 17) (i := 1) (by decide) dJ1_indexOfChar_4cfef_16 rfl b2 ?_
    refine GW.iload (pc' := 19) dJ1_indexOfChar_4cfef_17 rfl rfl ?_
    refine GW.if_icmpne (pc' := 22) (tgt := 25) dJ1_indexOfChar_4cfef_19 rfl (by decide) (ite_i (fun c3 => ?_) (fun c3 => ?_))
    · replace h := ite_t h c3
      refine GW.iload (pc' := 24) dJ1_indexOfChar_4cfef_22 rfl rfl ?_
      refine GW.iret dJ1_indexOfChar_4cfef_24 rfl ⟨_, rfl, ?_⟩
      exact h
    · replace h := ite_f h c3
      refine GW.iinc (pc' := 28) (lv' := [(0, .ref 1101), (1, .int v1), (2, .int v2), (3, .int v3), (4, .int v4), (5, .int (v5 + 1))]) (v := (v5 + 1)) dJ1_indexOfChar_4cfef_25 rfl rfl (by decide) rfl rfl rfl ?_
      refine GW.goto (tgt := 7) dJ1_indexOfChar_4cfef_28 (by decide) ?_
      exact h
  · replace h := ite_f h c1
    refine GW.iconst (pc' := 32) (v := (-1)) dJ1_indexOfChar_4cfef_31 rfl (by decide) ?_
    refine GW.iret dJ1_indexOfChar_4cfef_32 rfl ⟨_, rfl, ?_⟩
    exact h

set_option maxRecDepth 100000 in
set_option maxHeartbeats 4000000 in
theorem wp_J1_indexOfChar_4cfef_1102 (xs : gX) (d : Nat) (v1 : Int32) (v2 : Int32) (v3 : Int32) (M : Mem) (Q : Int32 → Mem → Prop) (h : GW xs d mJ1_indexOfChar_4cfef 7 [(0, .ref 1102), (1, .int v1), (2, .int v2), (3, .int v3), (4, .int v1.toInt8.toInt32), (5, .int v2)] [] M (QI Q)) : MI xs d mJ1_indexOfChar_4cfef [.ref 1102, .int v1, .int v2, .int v3] M Q := by
  refine MI.intro (lv := [(0, .ref 1102), (1, .int v1), (2, .int v2), (3, .int v3)]) mk_J1_indexOfChar_4cfef.2.2.2.2 (Nat.le_of_ble_eq_true rfl) rfl ?_
  refine GW.iload_n (pc' := 1) dJ1_indexOfChar_4cfef_0 rfl rfl ?_
  refine GW.i2b (pc' := 2) dJ1_indexOfChar_4cfef_1 rfl ?_
  refine GW.istore (pc' := 4) (lv' := [(0, .ref 1102), (1, .int v1), (2, .int v2), (3, .int v3), (4, .int v1.toInt8.toInt32)]) dJ1_indexOfChar_4cfef_2 rfl rfl (by decide) rfl ?_
  refine GW.iload_n (pc' := 5) dJ1_indexOfChar_4cfef_4 rfl rfl ?_
  refine GW.istore (pc' := 7) (lv' := [(0, .ref 1102), (1, .int v1), (2, .int v2), (3, .int v3), (4, .int v1.toInt8.toInt32), (5, .int v2)]) dJ1_indexOfChar_4cfef_5 rfl rfl (by decide) rfl ?_
  exact h
set_option maxRecDepth 100000 in
set_option maxHeartbeats 4000000 in
theorem wp_J1_indexOfChar_4cfef_1102_L7 (xs : gX) (d : Nat) (v1 : Int32) (v2 : Int32) (v3 : Int32) (v4 : Int32) (v5 : Int32) (M : Mem) (Q : Int32 → Mem → Prop) (h : (if v5 < v3 then (vp_in v5 3 ∧ (if ((txL 2).getD v5.toNatClampNeg 0) = v4 then Q v5 M else GW xs d mJ1_indexOfChar_4cfef 7 [(0, .ref 1102), (1, .int v1), (2, .int v2), (3, .int v3), (4, .int v4), (5, .int (v5 + 1))] [] M (QI Q))) else Q (-1) M)) : GW xs d mJ1_indexOfChar_4cfef 7 [(0, .ref 1102), (1, .int v1), (2, .int v2), (3, .int v3), (4, .int v4), (5, .int v5)] [] M (QI Q) := by
  refine GW.iload (pc' := 9) dJ1_indexOfChar_4cfef_7 rfl rfl ?_
  refine GW.iload_n (pc' := 10) dJ1_indexOfChar_4cfef_9 rfl rfl ?_
  refine GW.if_icmpge (pc' := 13) (tgt := 31) dJ1_indexOfChar_4cfef_10 rfl (by decide) (ite_i (fun c1 => ?_) (fun c1 => ?_))
  · replace h := ite_t h c1
    refine GW.aload_n (pc' := 14) dJ1_indexOfChar_4cfef_13 rfl rfl ?_
    refine GW.iload (pc' := 16) dJ1_indexOfChar_4cfef_14 rfl rfl ?_
    obtain ⟨b2, h⟩ := h
    refine GW.xbyte (pc' := 17) (i := 2) (by decide) dJ1_indexOfChar_4cfef_16 rfl b2 ?_
    refine GW.iload (pc' := 19) dJ1_indexOfChar_4cfef_17 rfl rfl ?_
    refine GW.if_icmpne (pc' := 22) (tgt := 25) dJ1_indexOfChar_4cfef_19 rfl (by decide) (ite_i (fun c3 => ?_) (fun c3 => ?_))
    · replace h := ite_t h c3
      refine GW.iload (pc' := 24) dJ1_indexOfChar_4cfef_22 rfl rfl ?_
      refine GW.iret dJ1_indexOfChar_4cfef_24 rfl ⟨_, rfl, ?_⟩
      exact h
    · replace h := ite_f h c3
      refine GW.iinc (pc' := 28) (lv' := [(0, .ref 1102), (1, .int v1), (2, .int v2), (3, .int v3), (4, .int v4), (5, .int (v5 + 1))]) (v := (v5 + 1)) dJ1_indexOfChar_4cfef_25 rfl rfl (by decide) rfl rfl rfl ?_
      refine GW.goto (tgt := 7) dJ1_indexOfChar_4cfef_28 (by decide) ?_
      exact h
  · replace h := ite_f h c1
    refine GW.iconst (pc' := 32) (v := (-1)) dJ1_indexOfChar_4cfef_31 rfl (by decide) ?_
    refine GW.iret dJ1_indexOfChar_4cfef_32 rfl ⟨_, rfl, ?_⟩
    exact h

set_option maxRecDepth 100000 in
set_option maxHeartbeats 4000000 in
theorem wp_X0_call_4 (xs : gX) (d : Nat) (v1 : Int32) (v2 : Int32) (v3 : Int32) (v4 : Int32) (M : Mem) (Q : Int32 → Mem → Prop) (h : GW xs (d + 1) mX0_call 6 [(0, .ref 4), (1, .int v1), (2, .int v2), (3, .int v3), (4, .int v4), (5, .int v1), (6, .int 0)] [] M (QI Q)) : MI xs (d + 1) mX0_call [.ref 4, .int v1, .int v2, .int v3, .int v4] M Q := by
  refine MI.intro (lv := [(0, .ref 4), (1, .int v1), (2, .int v2), (3, .int v3), (4, .int v4)]) mk_X0_call.2.2.2.2 (Nat.le_of_ble_eq_true rfl) rfl ?_
  refine GW.iload_n (pc' := 1) dX0_call_0 rfl rfl ?_
  refine GW.istore (pc' := 3) (lv' := [(0, .ref 4), (1, .int v1), (2, .int v2), (3, .int v3), (4, .int v4), (5, .int v1)]) dX0_call_1 rfl rfl (by decide) rfl ?_
  refine GW.iconst (pc' := 4) (v := 0) dX0_call_3 rfl (by decide) ?_
  refine GW.istore (pc' := 6) (lv' := [(0, .ref 4), (1, .int v1), (2, .int v2), (3, .int v3), (4, .int v4), (5, .int v1), (6, .int 0)]) dX0_call_4 rfl rfl (by decide) rfl ?_
  exact h
set_option maxRecDepth 100000 in
set_option maxHeartbeats 4000000 in
theorem wp_X0_call_4_L6 (xs : gX) (d : Nat) (v1 : Int32) (v2 : Int32) (v3 : Int32) (v4 : Int32) (v5 : Int32) (v6 : Int32) (M : Mem) (Q : Int32 → Mem → Prop) (h : (if v6 < 7 then (if v5 < 0 then Q 0 M else (if v5 < 7 then (vp_in ((v5 * 4) + v2) 28 ∧ (if (tbF 2001 (((v5 * 4) + v2)).toNatClampNeg) = 0 then (vp_in v5 7 ∧ GW xs (d + 1) mX0_call 6 [(0, .ref 4), (1, .int v1), (2, .int v2), (3, .int v3), (4, .int v4), (5, .int (tbF 2000 v5.toNatClampNeg)), (6, .int (v6 + 1))] [] M (QI Q)) else (if v4 < 40 then MI xs d mX0_work [.ref 4, .int (tbF 2001 (((v5 * 4) + v2)).toNatClampNeg), .int v3, .int (v4 + 1)] M (fun r8 M9 => Q r8 M9) else Q 0 M))) else Q 0 M)) else Q 0 M)) : GW xs (d + 1) mX0_call 6 [(0, .ref 4), (1, .int v1), (2, .int v2), (3, .int v3), (4, .int v4), (5, .int v5), (6, .int v6)] [] M (QI Q) := by
  refine GW.iload (pc' := 8) dX0_call_6 rfl rfl ?_
  refine GW.bipush (pc' := 10) (v := 7) dX0_call_8 rfl (by decide) ?_
  refine GW.if_icmpge (pc' := 13) (tgt := 77) dX0_call_10 rfl (by decide) (ite_i (fun c1 => ?_) (fun c1 => ?_))
  · replace h := ite_t h c1
    refine GW.iload (pc' := 15) dX0_call_13 rfl rfl ?_
    refine GW.bipush (pc' := 17) (v := 7) dX0_call_15 rfl (by decide) ?_
    refine GW.callS (pc' := 20) (av := [.int v5, .int 7]) (rest := []) dX0_call_17 rfl mk_X8_isWithin lk_X0_42 sk_X8_isWithin rfl rfl (Nat.le_of_ble_eq_true rfl) (bk_i (MI.intro (lv := [(0, .int v5), (1, .int 7)]) mk_X8_isWithin.2.2.2.2 (Nat.le_of_ble_eq_true rfl) rfl ?_))
    refine GW.iload_n (pc' := 1) dX8_isWithin_0 rfl rfl ?_
    refine GW.iflt (pc' := 4) (tgt := 13) dX8_isWithin_1 rfl (by decide) (ite_i (fun c2 => ?_) (fun c2 => ?_))
    · replace h := ite_t h c2
      refine GW.iconst (pc' := 14) (v := 0) dX8_isWithin_13 rfl (by decide) ?_
      refine GW.zret dX8_isWithin_14 rfl (by decide) ⟨_, rfl, ?_⟩
      refine GW.ifeq (pc' := 23) (tgt := 77) dX0_call_20 rfl (by decide) (ite_p (by decide) ?_)
      refine GW.iconst (pc' := 78) (v := 0) dX0_call_77 rfl (by decide) ?_
      refine GW.iret dX0_call_78 rfl ⟨_, rfl, ?_⟩
      exact h
    · replace h := ite_f h c2
      refine GW.iload_n (pc' := 5) dX8_isWithin_4 rfl rfl ?_
      refine GW.iload_n (pc' := 6) dX8_isWithin_5 rfl rfl ?_
      refine GW.if_icmpge (pc' := 9) (tgt := 13) dX8_isWithin_6 rfl (by decide) (ite_i (fun c3 => ?_) (fun c3 => ?_))
      · replace h := ite_t h c3
        refine GW.iconst (pc' := 10) (v := 1) dX8_isWithin_9 rfl (by decide) ?_
        refine GW.goto (tgt := 14) dX8_isWithin_10 (by decide) ?_
        refine GW.zret dX8_isWithin_14 rfl (by decide) ⟨_, rfl, ?_⟩
        refine GW.ifeq (pc' := 23) (tgt := 77) dX0_call_20 rfl (by decide) (ite_n (by decide) ?_)
        refine GW.gets (pc' := 26) (k := 2001) dX0_call_23 rfl (by decide) gk_X0_46 ?_
        refine GW.iload (pc' := 28) dX0_call_26 rfl rfl ?_
        refine GW.iconst (pc' := 29) (v := 4) dX0_call_28 rfl (by decide) ?_
        refine GW.imul (pc' := 30) dX0_call_29 rfl ?_
        refine GW.iload_n (pc' := 31) dX0_call_30 rfl rfl ?_
        refine GW.iadd (pc' := 32) dX0_call_31 rfl ?_
        obtain ⟨b4, h⟩ := h
        refine GW.tload (pc' := 33) (k := 2001) (n := 28) (v := (tbF 2001 (((v5 * 4) + v2)).toNatClampNeg)) dX0_call_32 rfl (by decide) b4 rfl ?_
        refine GW.istore (pc' := 35) (lv' := [(0, .ref 4), (1, .int v1), (2, .int v2), (3, .int v3), (4, .int v4), (5, .int v5), (6, .int v6), (7, .int (tbF 2001 (((v5 * 4) + v2)).toNatClampNeg))]) dX0_call_33 rfl rfl (by decide) rfl ?_
        refine GW.iload (pc' := 37) dX0_call_35 rfl rfl ?_
        refine GW.ifeq (pc' := 40) (tgt := 63) dX0_call_37 rfl (by decide) (ite_i (fun c5 => ?_) (fun c5 => ?_))
        · replace h := ite_t h c5
          refine GW.gets (pc' := 66) (k := 2000) dX0_call_63 rfl (by decide) gk_X0_53 ?_
          refine GW.iload (pc' := 68) dX0_call_66 rfl rfl ?_
          obtain ⟨b6, h⟩ := h
          refine GW.tload (pc' := 69) (k := 2000) (n := 7) (v := (tbF 2000 v5.toNatClampNeg)) dX0_call_68 rfl (by decide) b6 rfl ?_
          refine GW.istore (pc' := 71) (lv' := [(0, .ref 4), (1, .int v1), (2, .int v2), (3, .int v3), (4, .int v4), (5, .int (tbF 2000 v5.toNatClampNeg)), (6, .int v6), (7, .int (tbF 2001 (((v5 * 4) + v2)).toNatClampNeg))]) dX0_call_69 rfl rfl (by decide) rfl ?_
          refine GW.iinc (pc' := 74) (lv' := [(0, .ref 4), (1, .int v1), (2, .int v2), (3, .int v3), (4, .int v4), (5, .int (tbF 2000 v5.toNatClampNeg)), (6, .int (v6 + 1)), (7, .int (tbF 2001 (((v5 * 4) + v2)).toNatClampNeg))]) (v := (v6 + 1)) dX0_call_71 rfl rfl (by decide) rfl rfl rfl ?_
          refine GW.goto (tgt := 6) dX0_call_74 (by decide) ?_
          refine GW.sub (lv' := [(0, .ref 4), (1, .int v1), (2, .int v2), (3, .int v3), (4, .int v4), (5, .int (tbF 2000 v5.toNatClampNeg)), (6, .int (v6 + 1))]) [0, 1, 2, 3, 4, 5, 6] rfl ?_
          exact h
        · replace h := ite_f h c5
          refine GW.iload (pc' := 42) dX0_call_40 rfl rfl ?_
          refine GW.bipush (pc' := 44) (v := 40) dX0_call_42 rfl (by decide) ?_
          refine GW.if_icmpge (pc' := 47) (tgt := 61) dX0_call_44 rfl (by decide) (ite_i (fun c7 => ?_) (fun c7 => ?_))
          · replace h := ite_t h c7
            refine GW.aload_n (pc' := 48) dX0_call_47 rfl rfl ?_
            refine GW.iload (pc' := 50) dX0_call_48 rfl rfl ?_
            refine GW.iload_n (pc' := 51) dX0_call_50 rfl rfl ?_
            refine GW.iload (pc' := 53) dX0_call_51 rfl rfl ?_
            refine GW.iconst (pc' := 54) (v := 1) dX0_call_53 rfl (by decide) ?_
            refine GW.iadd (pc' := 55) dX0_call_54 rfl ?_
            refine GW.callV (pc' := 58) (k := 4) (av := [.int (tbF 2001 (((v5 * 4) + v2)).toNatClampNeg), .int v3, .int (v4 + 1)]) (rest := []) dX0_call_55 rfl mk_X0_work lk_X0_49 vk_X0_work ko_4 rfl rfl (Nat.le_of_ble_eq_true rfl) (bk_i (MI.mono h (fun r8 M9 h => ?_)))
            refine GW.goto (tgt := 62) dX0_call_58 (by decide) ?_
            refine GW.iret dX0_call_62 rfl ⟨_, rfl, ?_⟩
            exact h
          · replace h := ite_f h c7
            refine GW.iconst (pc' := 62) (v := 0) dX0_call_61 rfl (by decide) ?_
            refine GW.iret dX0_call_62 rfl ⟨_, rfl, ?_⟩
            exact h
      · replace h := ite_f h c3
        refine GW.iconst (pc' := 14) (v := 0) dX8_isWithin_13 rfl (by decide) ?_
        refine GW.zret dX8_isWithin_14 rfl (by decide) ⟨_, rfl, ?_⟩
        refine GW.ifeq (pc' := 23) (tgt := 77) dX0_call_20 rfl (by decide) (ite_p (by decide) ?_)
        refine GW.iconst (pc' := 78) (v := 0) dX0_call_77 rfl (by decide) ?_
        refine GW.iret dX0_call_78 rfl ⟨_, rfl, ?_⟩
        exact h
  · replace h := ite_f h c1
    refine GW.iconst (pc' := 78) (v := 0) dX0_call_77 rfl (by decide) ?_
    refine GW.iret dX0_call_78 rfl ⟨_, rfl, ?_⟩
    exact h

set_option maxRecDepth 100000 in
set_option maxHeartbeats 4000000 in
theorem wp_X0_partAndAge_4 (xs : gX) (d : Nat) (v1 : Int32) (v2 : Int32) (M : Mem) (Q : Int32 → Mem → Prop) (h : MI xs d mX0_call [.ref 4, .int 0, .int 3, .int v1, .int v2] M (fun r1 M2 => (if (M2.1 4 2) = 0 then MI xs d mX0_call [.ref 4, .int (M2.1 4 4), .int 1, .int 1, .int v2] M2 (fun r4 M5 => Q (r1 + r4) M5) else Q 0 M2))) : MI xs (d + 1) mX0_partAndAge [.ref 4, .int v1, .int v2] M Q := by
  refine MI.intro (lv := [(0, .ref 4), (1, .int v1), (2, .int v2)]) mk_X0_partAndAge.2.2.2.2 (Nat.le_of_ble_eq_true rfl) rfl ?_
  refine GW.aload_n (pc' := 1) dX0_partAndAge_0 rfl rfl ?_
  refine GW.gets (pc' := 4) (k := 2000) dX0_partAndAge_1 rfl (by decide) gk_X0_53 ?_
  refine GW.iconst (pc' := 5) (v := 1) dX0_partAndAge_4 rfl (by decide) ?_
  refine GW.tload (pc' := 6) (k := 2000) (n := 7) (v := 0) dX0_partAndAge_5 rfl (by decide) (vin (by decide)) (by decide) ?_
  refine GW.iconst (pc' := 7) (v := 3) dX0_partAndAge_6 rfl (by decide) ?_
  refine GW.iload_n (pc' := 8) dX0_partAndAge_7 rfl rfl ?_
  refine GW.iload_n (pc' := 9) dX0_partAndAge_8 rfl rfl ?_
  refine GW.callV (pc' := 12) (k := 4) (av := [.int 0, .int 3, .int v1, .int v2]) (rest := []) dX0_partAndAge_9 rfl mk_X0_call lk_X0_38 vk_X0_call ko_4 rfl rfl (Nat.le_of_ble_eq_true rfl) (bk_i (MI.mono h (fun r1 M2 h => ?_)))
  refine GW.istore_n (pc' := 13) (lv' := [(0, .ref 4), (1, .int v1), (2, .int v2), (3, .int r1)]) dX0_partAndAge_12 rfl rfl (by decide) rfl ?_
  refine GW.aload_n (pc' := 14) dX0_partAndAge_13 rfl rfl ?_
  refine GW.getI (pc' := 17) dX0_partAndAge_14 rfl fk_X0_19 rfl (by decide) rfl rfl ?_
  refine GW.ifeq (pc' := 20) (tgt := 24) dX0_partAndAge_17 rfl (by decide) (ite_i (fun c3 => ?_) (fun c3 => ?_))
  · replace h := ite_t h c3
    refine GW.iload_n (pc' := 25) dX0_partAndAge_24 rfl rfl ?_
    refine GW.aload_n (pc' := 26) dX0_partAndAge_25 rfl rfl ?_
    refine GW.aload_n (pc' := 27) dX0_partAndAge_26 rfl rfl ?_
    refine GW.getI (pc' := 30) dX0_partAndAge_27 rfl fk_X0_32 rfl (by decide) rfl rfl ?_
    refine GW.iconst (pc' := 31) (v := 1) dX0_partAndAge_30 rfl (by decide) ?_
    refine GW.iconst (pc' := 32) (v := 1) dX0_partAndAge_31 rfl (by decide) ?_
    refine GW.iload_n (pc' := 33) dX0_partAndAge_32 rfl rfl ?_
    refine GW.callV (pc' := 36) (k := 4) (av := [.int (M2.1 4 4), .int 1, .int 1, .int v2]) (rest := [.int r1]) dX0_partAndAge_33 rfl mk_X0_call lk_X0_38 vk_X0_call ko_4 rfl rfl (Nat.le_of_ble_eq_true rfl) (bk_i (MI.mono h (fun r4 M5 h => ?_)))
    refine GW.iadd (pc' := 37) dX0_partAndAge_36 rfl ?_
    refine GW.iret dX0_partAndAge_37 rfl ⟨_, rfl, ?_⟩
    exact h
  · replace h := ite_f h c3
    refine GW.iconst (pc' := 21) (v := 0) dX0_partAndAge_20 rfl (by decide) ?_
    refine GW.goto (tgt := 37) dX0_partAndAge_21 (by decide) ?_
    refine GW.iret dX0_partAndAge_37 rfl ⟨_, rfl, ?_⟩
    exact h

set_option maxRecDepth 100000 in
set_option maxHeartbeats 4000000 in
theorem wp_X0_sing_4_20 (xs : gX) (d : Nat) (v1 : Int32) (v3 : Int32) (v4 : Int32) (M : Mem) (Q : Int32 → Mem → Prop) (h : MI xs (d + 1) mX3_fact [.ref 20, .int v1, .int 0] (mw (mw (mw M 4 1 0) 4 2 0) 4 3 v1) (fun r1 M2 => MI xs (d + 1) mX3_fact [.ref 20, .int v1, .int 1] (mw M2 4 4 r1) (fun r3 M4 => MI xs (d + 1) mX0_call [.ref 4, .int (M4.1 4 4), .int v3, .int v4, .int 0] (mw M4 4 5 r3) (fun r5 M6 => Q r5 M6)))) : MI xs (d + 2) mX0_sing [.ref 4, .int v1, .ref 20, .int v3, .int v4] M Q := by
  refine MI.intro (lv := [(0, .ref 4), (1, .int v1), (2, .ref 20), (3, .int v3), (4, .int v4)]) mk_X0_sing.2.2.2.2 (Nat.le_of_ble_eq_true rfl) rfl ?_
  refine GW.aload_n (pc' := 1) dX0_sing_0 rfl rfl ?_
  refine GW.iconst (pc' := 2) (v := 0) dX0_sing_1 rfl (by decide) ?_
  refine GW.putI (pc' := 5) dX0_sing_2 rfl fp_X0_15 rfl (by decide) rfl rfl ⟨rfl, rfl⟩ ?_
  refine GW.aload_n (pc' := 6) dX0_sing_5 rfl rfl ?_
  refine GW.iconst (pc' := 7) (v := 0) dX0_sing_6 rfl (by decide) ?_
  refine GW.putI (pc' := 10) dX0_sing_7 rfl fp_X0_19 rfl (by decide) rfl rfl ⟨by decide, by decide⟩ ?_
  refine GW.aload_n (pc' := 11) dX0_sing_10 rfl rfl ?_
  refine GW.iload_n (pc' := 12) dX0_sing_11 rfl rfl ?_
  refine GW.putI (pc' := 15) dX0_sing_12 rfl fp_X0_23 rfl (by decide) rfl rfl ⟨rfl, rfl⟩ ?_
  refine GW.aload_n (pc' := 16) dX0_sing_15 rfl rfl ?_
  refine GW.aload_n (pc' := 17) dX0_sing_16 rfl rfl ?_
  refine GW.iload_n (pc' := 18) dX0_sing_17 rfl rfl ?_
  refine GW.iconst (pc' := 19) (v := 0) dX0_sing_18 rfl (by decide) ?_
  refine GW.callV (pc' := 22) (k := 20) (av := [.int v1, .int 0]) (rest := [.ref 4]) dX0_sing_19 rfl mk_X3_fact lk_X0_26 vk_X3_fact ko_20 rfl rfl (Nat.le_of_ble_eq_true rfl) (bk_i (MI.mono h (fun r1 M2 h => ?_)))
  refine GW.putI (pc' := 25) dX0_sing_22 rfl fp_X0_32 rfl (by decide) rfl rfl ⟨rfl, rfl⟩ ?_
  refine GW.aload_n (pc' := 26) dX0_sing_25 rfl rfl ?_
  refine GW.aload_n (pc' := 27) dX0_sing_26 rfl rfl ?_
  refine GW.iload_n (pc' := 28) dX0_sing_27 rfl rfl ?_
  refine GW.iconst (pc' := 29) (v := 1) dX0_sing_28 rfl (by decide) ?_
  refine GW.callV (pc' := 32) (k := 20) (av := [.int v1, .int 1]) (rest := [.ref 4]) dX0_sing_29 rfl mk_X3_fact lk_X0_26 vk_X3_fact ko_20 rfl rfl (Nat.le_of_ble_eq_true rfl) (bk_i (MI.mono h (fun r3 M4 h => ?_)))
  refine GW.putI (pc' := 35) dX0_sing_32 rfl fp_X0_35 rfl (by decide) rfl rfl ⟨rfl, rfl⟩ ?_
  refine GW.aload_n (pc' := 36) dX0_sing_35 rfl rfl ?_
  refine GW.aload_n (pc' := 37) dX0_sing_36 rfl rfl ?_
  refine GW.getI (pc' := 40) dX0_sing_37 rfl fk_X0_32 rfl (by decide) rfl rfl ?_
  refine GW.iload_n (pc' := 41) dX0_sing_40 rfl rfl ?_
  refine GW.iload (pc' := 43) dX0_sing_41 rfl rfl ?_
  refine GW.iconst (pc' := 44) (v := 0) dX0_sing_43 rfl (by decide) ?_
  refine GW.callV (pc' := 47) (k := 4) (av := [.int (M4.1 4 4), .int v3, .int v4, .int 0]) (rest := []) dX0_sing_44 rfl mk_X0_call lk_X0_38 vk_X0_call ko_4 rfl rfl (Nat.le_of_ble_eq_true rfl) (bk_i (MI.mono h (fun r5 M6 h => ?_)))
  refine GW.iret dX0_sing_47 rfl ⟨_, rfl, ?_⟩
  exact h

set_option maxRecDepth 100000 in
set_option maxHeartbeats 4000000 in
theorem wp_X0_work_4 (xs : gX) (d : Nat) (v1 : Int32) (v2 : Int32) (v3 : Int32) (M : Mem) (Q : Int32 → Mem → Prop) (h : (if (M.1 4 1) < 30 then (vp_in (M.1 4 1) 30 ∧ (if v1 = 10 then Q (v2 + (M.1 4 3)) (mw (mw M 63 ((M.1 4 1)).toNatClampNeg v1) 4 1 ((M.1 4 1) + 1)) else (if v1 = 11 then MI xs d mX0_call [.ref 4, .int (M.1 4 4), .int 0, .int v2, .int v3] (mw (mw M 63 ((M.1 4 1)).toNatClampNeg v1) 4 1 ((M.1 4 1) + 1)) (fun r5 M6 => Q (r5 * 2) M6) else (if v1 = 12 then MI xs d mX0_call [.ref 4, .int (M.1 4 4), .int 1, .int v2, .int v3] (mw (mw M 63 ((M.1 4 1)).toNatClampNeg v1) 4 1 ((M.1 4 1) + 1)) (fun r8 M9 => Q (r8 - (M9.1 4 5)) M9) else (if v1 = 13 then (if ((M.1 4 5) - (M.1 4 3)) = 0 then Q 0 (mw (mw (mw M 63 ((M.1 4 1)).toNatClampNeg v1) 4 1 ((M.1 4 1) + 1)) 4 2 1) else (¬ ((M.1 4 5) - (M.1 4 3)) = 0 ∧ Q (v2 / ((M.1 4 5) - (M.1 4 3))) (mw (mw M 63 ((M.1 4 1)).toNatClampNeg v1) 4 1 ((M.1 4 1) + 1)))) else (if v1 = 20 then MI xs d mX0_call [.ref 4, .int 0, .int 0, .int v2, .int v3] (mw (mw M 63 ((M.1 4 1)).toNatClampNeg v1) 4 1 ((M.1 4 1) + 1)) (fun r14 M15 => Q (r14 - 7) M15) else (if v1 = 21 then MI xs d mX0_partAndAge [.ref 4, .int v2, .int v3] (mw (mw M 63 ((M.1 4 1)).toNatClampNeg v1) 4 1 ((M.1 4 1) + 1)) (fun r17 M18 => Q r17 M18) else (if v1 = 30 then MI xs d mX0_call [.ref 4, .int 0, .int 1, .int v2, .int v3] (mw (mw M 63 ((M.1 4 1)).toNatClampNeg v1) 4 1 ((M.1 4 1) + 1)) (fun r20 M21 => Q (0 - r20) M21) else (if v1 = 40 then MI xs d mX0_call [.ref 4, .int 0, .int 2, .int (v2 / 2), .int v3] (mw (mw M 63 ((M.1 4 1)).toNatClampNeg v1) 4 1 ((M.1 4 1) + 1)) (fun r23 M24 => Q r23 M24) else (if v1 = 50 then MI xs d mX0_call [.ref 4, .int 1, .int 0, .int v2, .int v3] (mw (mw M 63 ((M.1 4 1)).toNatClampNeg v1) 4 1 ((M.1 4 1) + 1)) (fun r26 M27 => Q (r26 * 3) M27) else (if v1 = 51 then MI xs d mX0_call [.ref 4, .int 1, .int 2, .int v2, .int v3] (mw (mw M 63 ((M.1 4 1)).toNatClampNeg v1) 4 1 ((M.1 4 1) + 1)) (fun r29 M30 => Q (r29 ^^^ (M30.1 4 3)) M30) else (if v1 = 60 then MI xs d mX0_call [.ref 4, .int 1, .int 1, .int (v2 + 1), .int v3] (mw (mw M 63 ((M.1 4 1)).toNatClampNeg v1) 4 1 ((M.1 4 1) + 1)) (fun r32 M33 => Q r32 M33) else (if v1 = 70 then Q 4 (mw (mw M 63 ((M.1 4 1)).toNatClampNeg v1) 4 1 ((M.1 4 1) + 1)) else (if v1 = 71 then MI xs d mX0_call [.ref 4, .int 0, .int 1, .int v2, .int v3] (mw (mw M 63 ((M.1 4 1)).toNatClampNeg v1) 4 1 ((M.1 4 1) + 1)) (fun r36 M37 => Q (r36 + (M37.1 4 5)) M37) else Q 0 (mw (mw M 63 ((M.1 4 1)).toNatClampNeg v1) 4 1 ((M.1 4 1) + 1)))))))))))))))) else (if v1 = 10 then Q (v2 + (M.1 4 3)) M else (if v1 = 11 then MI xs d mX0_call [.ref 4, .int (M.1 4 4), .int 0, .int v2, .int v3] M (fun r40 M41 => Q (r40 * 2) M41) else (if v1 = 12 then MI xs d mX0_call [.ref 4, .int (M.1 4 4), .int 1, .int v2, .int v3] M (fun r43 M44 => Q (r43 - (M44.1 4 5)) M44) else (if v1 = 13 then (if ((M.1 4 5) - (M.1 4 3)) = 0 then Q 0 (mw M 4 2 1) else (¬ ((M.1 4 5) - (M.1 4 3)) = 0 ∧ Q (v2 / ((M.1 4 5) - (M.1 4 3))) M)) else (if v1 = 20 then MI xs d mX0_call [.ref 4, .int 0, .int 0, .int v2, .int v3] M (fun r49 M50 => Q (r49 - 7) M50) else (if v1 = 21 then MI xs d mX0_partAndAge [.ref 4, .int v2, .int v3] M (fun r52 M53 => Q r52 M53) else (if v1 = 30 then MI xs d mX0_call [.ref 4, .int 0, .int 1, .int v2, .int v3] M (fun r55 M56 => Q (0 - r55) M56) else (if v1 = 40 then MI xs d mX0_call [.ref 4, .int 0, .int 2, .int (v2 / 2), .int v3] M (fun r58 M59 => Q r58 M59) else (if v1 = 50 then MI xs d mX0_call [.ref 4, .int 1, .int 0, .int v2, .int v3] M (fun r61 M62 => Q (r61 * 3) M62) else (if v1 = 51 then MI xs d mX0_call [.ref 4, .int 1, .int 2, .int v2, .int v3] M (fun r64 M65 => Q (r64 ^^^ (M65.1 4 3)) M65) else (if v1 = 60 then MI xs d mX0_call [.ref 4, .int 1, .int 1, .int (v2 + 1), .int v3] M (fun r67 M68 => Q r67 M68) else (if v1 = 70 then Q 4 M else (if v1 = 71 then MI xs d mX0_call [.ref 4, .int 0, .int 1, .int v2, .int v3] M (fun r71 M72 => Q (r71 + (M72.1 4 5)) M72) else Q 0 M))))))))))))))) : MI xs (d + 1) mX0_work [.ref 4, .int v1, .int v2, .int v3] M Q := by
  refine MI.intro (lv := [(0, .ref 4), (1, .int v1), (2, .int v2), (3, .int v3)]) mk_X0_work.2.2.2.2 (Nat.le_of_ble_eq_true rfl) rfl ?_
  refine GW.aload_n (pc' := 1) dX0_work_0 rfl rfl ?_
  refine GW.iload_n (pc' := 2) dX0_work_1 rfl rfl ?_
  refine GW.callV (pc' := 5) (k := 4) (av := [.int v1]) (rest := []) dX0_work_2 rfl mk_X0_note lk_X0_56 vk_X0_note ko_4 rfl rfl (Nat.le_of_ble_eq_true rfl) (bk_v (MV.intro (lv := [(0, .ref 4), (1, .int v1)]) mk_X0_note.2.2.2.2 (Nat.le_of_ble_eq_true rfl) rfl ?_))
  refine GW.aload_n (pc' := 1) dX0_note_0 rfl rfl ?_
  refine GW.getI (pc' := 4) dX0_note_1 rfl fk_X0_15 rfl (by decide) rfl rfl ?_
  refine GW.bipush (pc' := 6) (v := 30) dX0_note_4 rfl (by decide) ?_
  refine GW.if_icmpge (pc' := 9) (tgt := 29) dX0_note_6 rfl (by decide) (ite_i (fun c1 => ?_) (fun c1 => ?_))
  · replace h := ite_t h c1
    refine GW.aload_n (pc' := 10) dX0_note_9 rfl rfl ?_
    refine GW.getR (pc' := 13) (t := 63) dX0_note_10 rfl fk_X0_9 rfl (by decide) rfl rfl ?_
    refine GW.aload_n (pc' := 14) dX0_note_13 rfl rfl ?_
    refine GW.getI (pc' := 17) dX0_note_14 rfl fk_X0_15 rfl (by decide) rfl rfl ?_
    refine GW.iload_n (pc' := 18) dX0_note_17 rfl rfl ?_
    obtain ⟨b2, h⟩ := h
    refine GW.iastore (pc' := 19) (j := ((M.1 4 1)).toNatClampNeg) dX0_note_18 rfl rfl b2 rfl ?_
    refine GW.aload_n (pc' := 20) dX0_note_19 rfl rfl ?_
    refine GW.dup (pc' := 21) dX0_note_20 rfl rfl ?_
    refine GW.getI (pc' := 24) dX0_note_21 rfl fk_X0_15 rfl (by decide) rfl rfl ?_
    refine GW.iconst (pc' := 25) (v := 1) dX0_note_24 rfl (by decide) ?_
    refine GW.iadd (pc' := 26) dX0_note_25 rfl ?_
    refine GW.putI (pc' := 29) dX0_note_26 rfl fp_X0_15 rfl (by decide) rfl rfl ⟨rfl, rfl⟩ ?_
    refine GW.vret dX0_note_29 rfl ⟨rfl, ?_⟩
    refine GW.iload_n (pc' := 6) dX0_work_5 rfl rfl ?_
    by_cases c3 : v1 = 10
    · replace h := ite_t h c3
      refine GW.lsw (off := 114) (tgt := 120) dX0_work_6 (by decide) (by rw [c3]; rfl) (by decide) ?_
      refine GW.iload_n (pc' := 121) dX0_work_120 rfl rfl ?_
      refine GW.aload_n (pc' := 122) dX0_work_121 rfl rfl ?_
      refine GW.getI (pc' := 125) dX0_work_122 rfl fk_X0_23 rfl (by decide) rfl rfl ?_
      refine GW.iadd (pc' := 126) dX0_work_125 rfl ?_
      refine GW.iret dX0_work_126 rfl ⟨_, rfl, ?_⟩
      exact h
    · replace h := ite_f h c3
      by_cases c4 : v1 = 11
      · replace h := ite_t h c4
        refine GW.lsw (off := 121) (tgt := 127) dX0_work_6 (by decide) (by rw [c4]; rfl) (by decide) ?_
        refine GW.aload_n (pc' := 128) dX0_work_127 rfl rfl ?_
        refine GW.aload_n (pc' := 129) dX0_work_128 rfl rfl ?_
        refine GW.getI (pc' := 132) dX0_work_129 rfl fk_X0_32 rfl (by decide) rfl rfl ?_
        refine GW.iconst (pc' := 133) (v := 0) dX0_work_132 rfl (by decide) ?_
        refine GW.iload_n (pc' := 134) dX0_work_133 rfl rfl ?_
        refine GW.iload_n (pc' := 135) dX0_work_134 rfl rfl ?_
        refine GW.callV (pc' := 138) (k := 4) (av := [.int (M.1 4 4), .int 0, .int v2, .int v3]) (rest := []) dX0_work_135 rfl mk_X0_call lk_X0_38 vk_X0_call ko_4 rfl rfl (Nat.le_of_ble_eq_true rfl) (bk_i (MI.mono h (fun r5 M6 h => ?_)))
        refine GW.iconst (pc' := 139) (v := 2) dX0_work_138 rfl (by decide) ?_
        refine GW.imul (pc' := 140) dX0_work_139 rfl ?_
        refine GW.iret dX0_work_140 rfl ⟨_, rfl, ?_⟩
        exact h
      · replace h := ite_f h c4
        by_cases c7 : v1 = 12
        · replace h := ite_t h c7
          refine GW.lsw (off := 135) (tgt := 141) dX0_work_6 (by decide) (by rw [c7]; rfl) (by decide) ?_
          refine GW.aload_n (pc' := 142) dX0_work_141 rfl rfl ?_
          refine GW.aload_n (pc' := 143) dX0_work_142 rfl rfl ?_
          refine GW.getI (pc' := 146) dX0_work_143 rfl fk_X0_32 rfl (by decide) rfl rfl ?_
          refine GW.iconst (pc' := 147) (v := 1) dX0_work_146 rfl (by decide) ?_
          refine GW.iload_n (pc' := 148) dX0_work_147 rfl rfl ?_
          refine GW.iload_n (pc' := 149) dX0_work_148 rfl rfl ?_
          refine GW.callV (pc' := 152) (k := 4) (av := [.int (M.1 4 4), .int 1, .int v2, .int v3]) (rest := []) dX0_work_149 rfl mk_X0_call lk_X0_38 vk_X0_call ko_4 rfl rfl (Nat.le_of_ble_eq_true rfl) (bk_i (MI.mono h (fun r8 M9 h => ?_)))
          refine GW.aload_n (pc' := 153) dX0_work_152 rfl rfl ?_
          refine GW.getI (pc' := 156) dX0_work_153 rfl fk_X0_35 rfl (by decide) rfl rfl ?_
          refine GW.isub (pc' := 157) dX0_work_156 rfl ?_
          refine GW.iret dX0_work_157 rfl ⟨_, rfl, ?_⟩
          exact h
        · replace h := ite_f h c7
          by_cases c10 : v1 = 13
          · replace h := ite_t h c10
            refine GW.lsw (off := 152) (tgt := 158) dX0_work_6 (by decide) (by rw [c10]; rfl) (by decide) ?_
            refine GW.aload_n (pc' := 159) dX0_work_158 rfl rfl ?_
            refine GW.iload_n (pc' := 160) dX0_work_159 rfl rfl ?_
            refine GW.callV (pc' := 163) (k := 4) (av := [.int v2]) (rest := []) dX0_work_160 rfl mk_X0_part lk_X0_60 vk_X0_part ko_4 rfl rfl (Nat.le_of_ble_eq_true rfl) (bk_i (MI.intro (lv := [(0, .ref 4), (1, .int v2)]) mk_X0_part.2.2.2.2 (Nat.le_of_ble_eq_true rfl) rfl ?_))
            refine GW.aload_n (pc' := 1) dX0_part_0 rfl rfl ?_
            refine GW.getI (pc' := 4) dX0_part_1 rfl fk_X0_35 rfl (by decide) rfl rfl ?_
            refine GW.aload_n (pc' := 5) dX0_part_4 rfl rfl ?_
            refine GW.getI (pc' := 8) dX0_part_5 rfl fk_X0_23 rfl (by decide) rfl rfl ?_
            refine GW.isub (pc' := 9) dX0_part_8 rfl ?_
            refine GW.istore_n (pc' := 10) (lv' := [(0, .ref 4), (1, .int v2), (2, .int ((M.1 4 5) - (M.1 4 3)))]) dX0_part_9 rfl rfl (by decide) rfl ?_
            refine GW.iload_n (pc' := 11) dX0_part_10 rfl rfl ?_
            refine GW.ifne (pc' := 14) (tgt := 21) dX0_part_11 rfl (by decide) (ite_i (fun c11 => ?_) (fun c11 => ?_))
            · replace h := ite_t h c11
              refine GW.aload_n (pc' := 15) dX0_part_14 rfl rfl ?_
              refine GW.iconst (pc' := 16) (v := 1) dX0_part_15 rfl (by decide) ?_
              refine GW.putI (pc' := 19) dX0_part_16 rfl fp_X0_19 rfl (by decide) rfl rfl ⟨by decide, by decide⟩ ?_
              refine GW.iconst (pc' := 20) (v := 0) dX0_part_19 rfl (by decide) ?_
              refine GW.iret dX0_part_20 rfl ⟨_, rfl, ?_⟩
              refine GW.iret dX0_work_163 rfl ⟨_, rfl, ?_⟩
              exact h
            · replace h := ite_f h c11
              refine GW.iload_n (pc' := 22) dX0_part_21 rfl rfl ?_
              refine GW.iload_n (pc' := 23) dX0_part_22 rfl rfl ?_
              obtain ⟨b12, h⟩ := h
              refine GW.idiv (pc' := 24) dX0_part_23 rfl b12 ?_
              refine GW.iret dX0_part_24 rfl ⟨_, rfl, ?_⟩
              refine GW.iret dX0_work_163 rfl ⟨_, rfl, ?_⟩
              exact h
          · replace h := ite_f h c10
            by_cases c13 : v1 = 20
            · replace h := ite_t h c13
              refine GW.lsw (off := 158) (tgt := 164) dX0_work_6 (by decide) (by rw [c13]; rfl) (by decide) ?_
              refine GW.aload_n (pc' := 165) dX0_work_164 rfl rfl ?_
              refine GW.gets (pc' := 168) (k := 2000) dX0_work_165 rfl (by decide) gk_X0_53 ?_
              refine GW.iconst (pc' := 169) (v := 1) dX0_work_168 rfl (by decide) ?_
              refine GW.tload (pc' := 170) (k := 2000) (n := 7) (v := 0) dX0_work_169 rfl (by decide) (vin (by decide)) (by decide) ?_
              refine GW.iconst (pc' := 171) (v := 0) dX0_work_170 rfl (by decide) ?_
              refine GW.iload_n (pc' := 172) dX0_work_171 rfl rfl ?_
              refine GW.iload_n (pc' := 173) dX0_work_172 rfl rfl ?_
              refine GW.callV (pc' := 176) (k := 4) (av := [.int 0, .int 0, .int v2, .int v3]) (rest := []) dX0_work_173 rfl mk_X0_call lk_X0_38 vk_X0_call ko_4 rfl rfl (Nat.le_of_ble_eq_true rfl) (bk_i (MI.mono h (fun r14 M15 h => ?_)))
              refine GW.bipush (pc' := 178) (v := 7) dX0_work_176 rfl (by decide) ?_
              refine GW.isub (pc' := 179) dX0_work_178 rfl ?_
              refine GW.iret dX0_work_179 rfl ⟨_, rfl, ?_⟩
              exact h
            · replace h := ite_f h c13
              by_cases c16 : v1 = 21
              · replace h := ite_t h c16
                refine GW.lsw (off := 174) (tgt := 180) dX0_work_6 (by decide) (by rw [c16]; rfl) (by decide) ?_
                refine GW.aload_n (pc' := 181) dX0_work_180 rfl rfl ?_
                refine GW.iload_n (pc' := 182) dX0_work_181 rfl rfl ?_
                refine GW.iload_n (pc' := 183) dX0_work_182 rfl rfl ?_
                refine GW.callV (pc' := 186) (k := 4) (av := [.int v2, .int v3]) (rest := []) dX0_work_183 rfl mk_X0_partAndAge lk_X0_64 vk_X0_partAndAge ko_4 rfl rfl (Nat.le_of_ble_eq_true rfl) (bk_i (MI.mono h (fun r17 M18 h => ?_)))
                refine GW.iret dX0_work_186 rfl ⟨_, rfl, ?_⟩
                exact h
              · replace h := ite_f h c16
                by_cases c19 : v1 = 30
                · replace h := ite_t h c19
                  refine GW.lsw (off := 181) (tgt := 187) dX0_work_6 (by decide) (by rw [c19]; rfl) (by decide) ?_
                  refine GW.iconst (pc' := 188) (v := 0) dX0_work_187 rfl (by decide) ?_
                  refine GW.aload_n (pc' := 189) dX0_work_188 rfl rfl ?_
                  refine GW.gets (pc' := 192) (k := 2000) dX0_work_189 rfl (by decide) gk_X0_53 ?_
                  refine GW.iconst (pc' := 193) (v := 2) dX0_work_192 rfl (by decide) ?_
                  refine GW.tload (pc' := 194) (k := 2000) (n := 7) (v := 0) dX0_work_193 rfl (by decide) (vin (by decide)) (by decide) ?_
                  refine GW.iconst (pc' := 195) (v := 1) dX0_work_194 rfl (by decide) ?_
                  refine GW.iload_n (pc' := 196) dX0_work_195 rfl rfl ?_
                  refine GW.iload_n (pc' := 197) dX0_work_196 rfl rfl ?_
                  refine GW.callV (pc' := 200) (k := 4) (av := [.int 0, .int 1, .int v2, .int v3]) (rest := [.int 0]) dX0_work_197 rfl mk_X0_call lk_X0_38 vk_X0_call ko_4 rfl rfl (Nat.le_of_ble_eq_true rfl) (bk_i (MI.mono h (fun r20 M21 h => ?_)))
                  refine GW.isub (pc' := 201) dX0_work_200 rfl ?_
                  refine GW.iret dX0_work_201 rfl ⟨_, rfl, ?_⟩
                  exact h
                · replace h := ite_f h c19
                  by_cases c22 : v1 = 40
                  · replace h := ite_t h c22
                    refine GW.lsw (off := 196) (tgt := 202) dX0_work_6 (by decide) (by rw [c22]; rfl) (by decide) ?_
                    refine GW.aload_n (pc' := 203) dX0_work_202 rfl rfl ?_
                    refine GW.gets (pc' := 206) (k := 2000) dX0_work_203 rfl (by decide) gk_X0_53 ?_
                    refine GW.iconst (pc' := 207) (v := 3) dX0_work_206 rfl (by decide) ?_
                    refine GW.tload (pc' := 208) (k := 2000) (n := 7) (v := 0) dX0_work_207 rfl (by decide) (vin (by decide)) (by decide) ?_
                    refine GW.iconst (pc' := 209) (v := 2) dX0_work_208 rfl (by decide) ?_
                    refine GW.iload_n (pc' := 210) dX0_work_209 rfl rfl ?_
                    refine GW.iconst (pc' := 211) (v := 2) dX0_work_210 rfl (by decide) ?_
                    refine GW.idiv (pc' := 212) dX0_work_211 rfl (by decide) ?_
                    refine GW.iload_n (pc' := 213) dX0_work_212 rfl rfl ?_
                    refine GW.callV (pc' := 216) (k := 4) (av := [.int 0, .int 2, .int (v2 / 2), .int v3]) (rest := []) dX0_work_213 rfl mk_X0_call lk_X0_38 vk_X0_call ko_4 rfl rfl (Nat.le_of_ble_eq_true rfl) (bk_i (MI.mono h (fun r23 M24 h => ?_)))
                    refine GW.iret dX0_work_216 rfl ⟨_, rfl, ?_⟩
                    exact h
                  · replace h := ite_f h c22
                    by_cases c25 : v1 = 50
                    · replace h := ite_t h c25
                      refine GW.lsw (off := 211) (tgt := 217) dX0_work_6 (by decide) (by rw [c25]; rfl) (by decide) ?_
                      refine GW.aload_n (pc' := 218) dX0_work_217 rfl rfl ?_
                      refine GW.gets (pc' := 221) (k := 2000) dX0_work_218 rfl (by decide) gk_X0_53 ?_
                      refine GW.iconst (pc' := 222) (v := 4) dX0_work_221 rfl (by decide) ?_
                      refine GW.tload (pc' := 223) (k := 2000) (n := 7) (v := 1) dX0_work_222 rfl (by decide) (vin (by decide)) (by decide) ?_
                      refine GW.iconst (pc' := 224) (v := 0) dX0_work_223 rfl (by decide) ?_
                      refine GW.iload_n (pc' := 225) dX0_work_224 rfl rfl ?_
                      refine GW.iload_n (pc' := 226) dX0_work_225 rfl rfl ?_
                      refine GW.callV (pc' := 229) (k := 4) (av := [.int 1, .int 0, .int v2, .int v3]) (rest := []) dX0_work_226 rfl mk_X0_call lk_X0_38 vk_X0_call ko_4 rfl rfl (Nat.le_of_ble_eq_true rfl) (bk_i (MI.mono h (fun r26 M27 h => ?_)))
                      refine GW.iconst (pc' := 230) (v := 3) dX0_work_229 rfl (by decide) ?_
                      refine GW.imul (pc' := 231) dX0_work_230 rfl ?_
                      refine GW.iret dX0_work_231 rfl ⟨_, rfl, ?_⟩
                      exact h
                    · replace h := ite_f h c25
                      by_cases c28 : v1 = 51
                      · replace h := ite_t h c28
                        refine GW.lsw (off := 226) (tgt := 232) dX0_work_6 (by decide) (by rw [c28]; rfl) (by decide) ?_
                        refine GW.aload_n (pc' := 233) dX0_work_232 rfl rfl ?_
                        refine GW.gets (pc' := 236) (k := 2000) dX0_work_233 rfl (by decide) gk_X0_53 ?_
                        refine GW.iconst (pc' := 237) (v := 4) dX0_work_236 rfl (by decide) ?_
                        refine GW.tload (pc' := 238) (k := 2000) (n := 7) (v := 1) dX0_work_237 rfl (by decide) (vin (by decide)) (by decide) ?_
                        refine GW.iconst (pc' := 239) (v := 2) dX0_work_238 rfl (by decide) ?_
                        refine GW.iload_n (pc' := 240) dX0_work_239 rfl rfl ?_
                        refine GW.iload_n (pc' := 241) dX0_work_240 rfl rfl ?_
                        refine GW.callV (pc' := 244) (k := 4) (av := [.int 1, .int 2, .int v2, .int v3]) (rest := []) dX0_work_241 rfl mk_X0_call lk_X0_38 vk_X0_call ko_4 rfl rfl (Nat.le_of_ble_eq_true rfl) (bk_i (MI.mono h (fun r29 M30 h => ?_)))
                        refine GW.aload_n (pc' := 245) dX0_work_244 rfl rfl ?_
                        refine GW.getI (pc' := 248) dX0_work_245 rfl fk_X0_23 rfl (by decide) rfl rfl ?_
                        refine GW.ixor (pc' := 249) dX0_work_248 rfl ?_
                        refine GW.iret dX0_work_249 rfl ⟨_, rfl, ?_⟩
                        exact h
                      · replace h := ite_f h c28
                        by_cases c31 : v1 = 60
                        · replace h := ite_t h c31
                          refine GW.lsw (off := 244) (tgt := 250) dX0_work_6 (by decide) (by rw [c31]; rfl) (by decide) ?_
                          refine GW.aload_n (pc' := 251) dX0_work_250 rfl rfl ?_
                          refine GW.gets (pc' := 254) (k := 2000) dX0_work_251 rfl (by decide) gk_X0_53 ?_
                          refine GW.iconst (pc' := 255) (v := 5) dX0_work_254 rfl (by decide) ?_
                          refine GW.tload (pc' := 256) (k := 2000) (n := 7) (v := 1) dX0_work_255 rfl (by decide) (vin (by decide)) (by decide) ?_
                          refine GW.iconst (pc' := 257) (v := 1) dX0_work_256 rfl (by decide) ?_
                          refine GW.iload_n (pc' := 258) dX0_work_257 rfl rfl ?_
                          refine GW.iconst (pc' := 259) (v := 1) dX0_work_258 rfl (by decide) ?_
                          refine GW.iadd (pc' := 260) dX0_work_259 rfl ?_
                          refine GW.iload_n (pc' := 261) dX0_work_260 rfl rfl ?_
                          refine GW.callV (pc' := 264) (k := 4) (av := [.int 1, .int 1, .int (v2 + 1), .int v3]) (rest := []) dX0_work_261 rfl mk_X0_call lk_X0_38 vk_X0_call ko_4 rfl rfl (Nat.le_of_ble_eq_true rfl) (bk_i (MI.mono h (fun r32 M33 h => ?_)))
                          refine GW.iret dX0_work_264 rfl ⟨_, rfl, ?_⟩
                          exact h
                        · replace h := ite_f h c31
                          by_cases c34 : v1 = 70
                          · replace h := ite_t h c34
                            refine GW.lsw (off := 259) (tgt := 265) dX0_work_6 (by decide) (by rw [c34]; rfl) (by decide) ?_
                            refine GW.iconst (pc' := 266) (v := 4) dX0_work_265 rfl (by decide) ?_
                            refine GW.iret dX0_work_266 rfl ⟨_, rfl, ?_⟩
                            exact h
                          · replace h := ite_f h c34
                            by_cases c35 : v1 = 71
                            · replace h := ite_t h c35
                              refine GW.lsw (off := 261) (tgt := 267) dX0_work_6 (by decide) (by rw [c35]; rfl) (by decide) ?_
                              refine GW.aload_n (pc' := 268) dX0_work_267 rfl rfl ?_
                              refine GW.iconst (pc' := 269) (v := 0) dX0_work_268 rfl (by decide) ?_
                              refine GW.iconst (pc' := 270) (v := 1) dX0_work_269 rfl (by decide) ?_
                              refine GW.iload_n (pc' := 271) dX0_work_270 rfl rfl ?_
                              refine GW.iload_n (pc' := 272) dX0_work_271 rfl rfl ?_
                              refine GW.callV (pc' := 275) (k := 4) (av := [.int 0, .int 1, .int v2, .int v3]) (rest := []) dX0_work_272 rfl mk_X0_call lk_X0_38 vk_X0_call ko_4 rfl rfl (Nat.le_of_ble_eq_true rfl) (bk_i (MI.mono h (fun r36 M37 h => ?_)))
                              refine GW.aload_n (pc' := 276) dX0_work_275 rfl rfl ?_
                              refine GW.getI (pc' := 279) dX0_work_276 rfl fk_X0_35 rfl (by decide) rfl rfl ?_
                              refine GW.iadd (pc' := 280) dX0_work_279 rfl ?_
                              refine GW.iret dX0_work_280 rfl ⟨_, rfl, ?_⟩
                              exact h
                            · replace h := ite_f h c35
                              refine GW.lsw (off := 275) (tgt := 281) dX0_work_6 (by decide) ((lv_osw c3 rfl).trans ((lv_osw c4 rfl).trans ((lv_osw c7 rfl).trans ((lv_osw c10 rfl).trans ((lv_osw c13 rfl).trans ((lv_osw c16 rfl).trans ((lv_osw c19 rfl).trans ((lv_osw c22 rfl).trans ((lv_osw c25 rfl).trans ((lv_osw c28 rfl).trans ((lv_osw c31 rfl).trans ((lv_osw c34 rfl).trans ((lv_osw c35 rfl).trans (rfl)))))))))))))) (by decide) ?_
                              refine GW.iconst (pc' := 282) (v := 0) dX0_work_281 rfl (by decide) ?_
                              refine GW.iret dX0_work_282 rfl ⟨_, rfl, ?_⟩
                              exact h
  · replace h := ite_f h c1
    refine GW.vret dX0_note_29 rfl ⟨rfl, ?_⟩
    refine GW.iload_n (pc' := 6) dX0_work_5 rfl rfl ?_
    by_cases c38 : v1 = 10
    · replace h := ite_t h c38
      refine GW.lsw (off := 114) (tgt := 120) dX0_work_6 (by decide) (by rw [c38]; rfl) (by decide) ?_
      refine GW.iload_n (pc' := 121) dX0_work_120 rfl rfl ?_
      refine GW.aload_n (pc' := 122) dX0_work_121 rfl rfl ?_
      refine GW.getI (pc' := 125) dX0_work_122 rfl fk_X0_23 rfl (by decide) rfl rfl ?_
      refine GW.iadd (pc' := 126) dX0_work_125 rfl ?_
      refine GW.iret dX0_work_126 rfl ⟨_, rfl, ?_⟩
      exact h
    · replace h := ite_f h c38
      by_cases c39 : v1 = 11
      · replace h := ite_t h c39
        refine GW.lsw (off := 121) (tgt := 127) dX0_work_6 (by decide) (by rw [c39]; rfl) (by decide) ?_
        refine GW.aload_n (pc' := 128) dX0_work_127 rfl rfl ?_
        refine GW.aload_n (pc' := 129) dX0_work_128 rfl rfl ?_
        refine GW.getI (pc' := 132) dX0_work_129 rfl fk_X0_32 rfl (by decide) rfl rfl ?_
        refine GW.iconst (pc' := 133) (v := 0) dX0_work_132 rfl (by decide) ?_
        refine GW.iload_n (pc' := 134) dX0_work_133 rfl rfl ?_
        refine GW.iload_n (pc' := 135) dX0_work_134 rfl rfl ?_
        refine GW.callV (pc' := 138) (k := 4) (av := [.int (M.1 4 4), .int 0, .int v2, .int v3]) (rest := []) dX0_work_135 rfl mk_X0_call lk_X0_38 vk_X0_call ko_4 rfl rfl (Nat.le_of_ble_eq_true rfl) (bk_i (MI.mono h (fun r40 M41 h => ?_)))
        refine GW.iconst (pc' := 139) (v := 2) dX0_work_138 rfl (by decide) ?_
        refine GW.imul (pc' := 140) dX0_work_139 rfl ?_
        refine GW.iret dX0_work_140 rfl ⟨_, rfl, ?_⟩
        exact h
      · replace h := ite_f h c39
        by_cases c42 : v1 = 12
        · replace h := ite_t h c42
          refine GW.lsw (off := 135) (tgt := 141) dX0_work_6 (by decide) (by rw [c42]; rfl) (by decide) ?_
          refine GW.aload_n (pc' := 142) dX0_work_141 rfl rfl ?_
          refine GW.aload_n (pc' := 143) dX0_work_142 rfl rfl ?_
          refine GW.getI (pc' := 146) dX0_work_143 rfl fk_X0_32 rfl (by decide) rfl rfl ?_
          refine GW.iconst (pc' := 147) (v := 1) dX0_work_146 rfl (by decide) ?_
          refine GW.iload_n (pc' := 148) dX0_work_147 rfl rfl ?_
          refine GW.iload_n (pc' := 149) dX0_work_148 rfl rfl ?_
          refine GW.callV (pc' := 152) (k := 4) (av := [.int (M.1 4 4), .int 1, .int v2, .int v3]) (rest := []) dX0_work_149 rfl mk_X0_call lk_X0_38 vk_X0_call ko_4 rfl rfl (Nat.le_of_ble_eq_true rfl) (bk_i (MI.mono h (fun r43 M44 h => ?_)))
          refine GW.aload_n (pc' := 153) dX0_work_152 rfl rfl ?_
          refine GW.getI (pc' := 156) dX0_work_153 rfl fk_X0_35 rfl (by decide) rfl rfl ?_
          refine GW.isub (pc' := 157) dX0_work_156 rfl ?_
          refine GW.iret dX0_work_157 rfl ⟨_, rfl, ?_⟩
          exact h
        · replace h := ite_f h c42
          by_cases c45 : v1 = 13
          · replace h := ite_t h c45
            refine GW.lsw (off := 152) (tgt := 158) dX0_work_6 (by decide) (by rw [c45]; rfl) (by decide) ?_
            refine GW.aload_n (pc' := 159) dX0_work_158 rfl rfl ?_
            refine GW.iload_n (pc' := 160) dX0_work_159 rfl rfl ?_
            refine GW.callV (pc' := 163) (k := 4) (av := [.int v2]) (rest := []) dX0_work_160 rfl mk_X0_part lk_X0_60 vk_X0_part ko_4 rfl rfl (Nat.le_of_ble_eq_true rfl) (bk_i (MI.intro (lv := [(0, .ref 4), (1, .int v2)]) mk_X0_part.2.2.2.2 (Nat.le_of_ble_eq_true rfl) rfl ?_))
            refine GW.aload_n (pc' := 1) dX0_part_0 rfl rfl ?_
            refine GW.getI (pc' := 4) dX0_part_1 rfl fk_X0_35 rfl (by decide) rfl rfl ?_
            refine GW.aload_n (pc' := 5) dX0_part_4 rfl rfl ?_
            refine GW.getI (pc' := 8) dX0_part_5 rfl fk_X0_23 rfl (by decide) rfl rfl ?_
            refine GW.isub (pc' := 9) dX0_part_8 rfl ?_
            refine GW.istore_n (pc' := 10) (lv' := [(0, .ref 4), (1, .int v2), (2, .int ((M.1 4 5) - (M.1 4 3)))]) dX0_part_9 rfl rfl (by decide) rfl ?_
            refine GW.iload_n (pc' := 11) dX0_part_10 rfl rfl ?_
            refine GW.ifne (pc' := 14) (tgt := 21) dX0_part_11 rfl (by decide) (ite_i (fun c46 => ?_) (fun c46 => ?_))
            · replace h := ite_t h c46
              refine GW.aload_n (pc' := 15) dX0_part_14 rfl rfl ?_
              refine GW.iconst (pc' := 16) (v := 1) dX0_part_15 rfl (by decide) ?_
              refine GW.putI (pc' := 19) dX0_part_16 rfl fp_X0_19 rfl (by decide) rfl rfl ⟨by decide, by decide⟩ ?_
              refine GW.iconst (pc' := 20) (v := 0) dX0_part_19 rfl (by decide) ?_
              refine GW.iret dX0_part_20 rfl ⟨_, rfl, ?_⟩
              refine GW.iret dX0_work_163 rfl ⟨_, rfl, ?_⟩
              exact h
            · replace h := ite_f h c46
              refine GW.iload_n (pc' := 22) dX0_part_21 rfl rfl ?_
              refine GW.iload_n (pc' := 23) dX0_part_22 rfl rfl ?_
              obtain ⟨b47, h⟩ := h
              refine GW.idiv (pc' := 24) dX0_part_23 rfl b47 ?_
              refine GW.iret dX0_part_24 rfl ⟨_, rfl, ?_⟩
              refine GW.iret dX0_work_163 rfl ⟨_, rfl, ?_⟩
              exact h
          · replace h := ite_f h c45
            by_cases c48 : v1 = 20
            · replace h := ite_t h c48
              refine GW.lsw (off := 158) (tgt := 164) dX0_work_6 (by decide) (by rw [c48]; rfl) (by decide) ?_
              refine GW.aload_n (pc' := 165) dX0_work_164 rfl rfl ?_
              refine GW.gets (pc' := 168) (k := 2000) dX0_work_165 rfl (by decide) gk_X0_53 ?_
              refine GW.iconst (pc' := 169) (v := 1) dX0_work_168 rfl (by decide) ?_
              refine GW.tload (pc' := 170) (k := 2000) (n := 7) (v := 0) dX0_work_169 rfl (by decide) (vin (by decide)) (by decide) ?_
              refine GW.iconst (pc' := 171) (v := 0) dX0_work_170 rfl (by decide) ?_
              refine GW.iload_n (pc' := 172) dX0_work_171 rfl rfl ?_
              refine GW.iload_n (pc' := 173) dX0_work_172 rfl rfl ?_
              refine GW.callV (pc' := 176) (k := 4) (av := [.int 0, .int 0, .int v2, .int v3]) (rest := []) dX0_work_173 rfl mk_X0_call lk_X0_38 vk_X0_call ko_4 rfl rfl (Nat.le_of_ble_eq_true rfl) (bk_i (MI.mono h (fun r49 M50 h => ?_)))
              refine GW.bipush (pc' := 178) (v := 7) dX0_work_176 rfl (by decide) ?_
              refine GW.isub (pc' := 179) dX0_work_178 rfl ?_
              refine GW.iret dX0_work_179 rfl ⟨_, rfl, ?_⟩
              exact h
            · replace h := ite_f h c48
              by_cases c51 : v1 = 21
              · replace h := ite_t h c51
                refine GW.lsw (off := 174) (tgt := 180) dX0_work_6 (by decide) (by rw [c51]; rfl) (by decide) ?_
                refine GW.aload_n (pc' := 181) dX0_work_180 rfl rfl ?_
                refine GW.iload_n (pc' := 182) dX0_work_181 rfl rfl ?_
                refine GW.iload_n (pc' := 183) dX0_work_182 rfl rfl ?_
                refine GW.callV (pc' := 186) (k := 4) (av := [.int v2, .int v3]) (rest := []) dX0_work_183 rfl mk_X0_partAndAge lk_X0_64 vk_X0_partAndAge ko_4 rfl rfl (Nat.le_of_ble_eq_true rfl) (bk_i (MI.mono h (fun r52 M53 h => ?_)))
                refine GW.iret dX0_work_186 rfl ⟨_, rfl, ?_⟩
                exact h
              · replace h := ite_f h c51
                by_cases c54 : v1 = 30
                · replace h := ite_t h c54
                  refine GW.lsw (off := 181) (tgt := 187) dX0_work_6 (by decide) (by rw [c54]; rfl) (by decide) ?_
                  refine GW.iconst (pc' := 188) (v := 0) dX0_work_187 rfl (by decide) ?_
                  refine GW.aload_n (pc' := 189) dX0_work_188 rfl rfl ?_
                  refine GW.gets (pc' := 192) (k := 2000) dX0_work_189 rfl (by decide) gk_X0_53 ?_
                  refine GW.iconst (pc' := 193) (v := 2) dX0_work_192 rfl (by decide) ?_
                  refine GW.tload (pc' := 194) (k := 2000) (n := 7) (v := 0) dX0_work_193 rfl (by decide) (vin (by decide)) (by decide) ?_
                  refine GW.iconst (pc' := 195) (v := 1) dX0_work_194 rfl (by decide) ?_
                  refine GW.iload_n (pc' := 196) dX0_work_195 rfl rfl ?_
                  refine GW.iload_n (pc' := 197) dX0_work_196 rfl rfl ?_
                  refine GW.callV (pc' := 200) (k := 4) (av := [.int 0, .int 1, .int v2, .int v3]) (rest := [.int 0]) dX0_work_197 rfl mk_X0_call lk_X0_38 vk_X0_call ko_4 rfl rfl (Nat.le_of_ble_eq_true rfl) (bk_i (MI.mono h (fun r55 M56 h => ?_)))
                  refine GW.isub (pc' := 201) dX0_work_200 rfl ?_
                  refine GW.iret dX0_work_201 rfl ⟨_, rfl, ?_⟩
                  exact h
                · replace h := ite_f h c54
                  by_cases c57 : v1 = 40
                  · replace h := ite_t h c57
                    refine GW.lsw (off := 196) (tgt := 202) dX0_work_6 (by decide) (by rw [c57]; rfl) (by decide) ?_
                    refine GW.aload_n (pc' := 203) dX0_work_202 rfl rfl ?_
                    refine GW.gets (pc' := 206) (k := 2000) dX0_work_203 rfl (by decide) gk_X0_53 ?_
                    refine GW.iconst (pc' := 207) (v := 3) dX0_work_206 rfl (by decide) ?_
                    refine GW.tload (pc' := 208) (k := 2000) (n := 7) (v := 0) dX0_work_207 rfl (by decide) (vin (by decide)) (by decide) ?_
                    refine GW.iconst (pc' := 209) (v := 2) dX0_work_208 rfl (by decide) ?_
                    refine GW.iload_n (pc' := 210) dX0_work_209 rfl rfl ?_
                    refine GW.iconst (pc' := 211) (v := 2) dX0_work_210 rfl (by decide) ?_
                    refine GW.idiv (pc' := 212) dX0_work_211 rfl (by decide) ?_
                    refine GW.iload_n (pc' := 213) dX0_work_212 rfl rfl ?_
                    refine GW.callV (pc' := 216) (k := 4) (av := [.int 0, .int 2, .int (v2 / 2), .int v3]) (rest := []) dX0_work_213 rfl mk_X0_call lk_X0_38 vk_X0_call ko_4 rfl rfl (Nat.le_of_ble_eq_true rfl) (bk_i (MI.mono h (fun r58 M59 h => ?_)))
                    refine GW.iret dX0_work_216 rfl ⟨_, rfl, ?_⟩
                    exact h
                  · replace h := ite_f h c57
                    by_cases c60 : v1 = 50
                    · replace h := ite_t h c60
                      refine GW.lsw (off := 211) (tgt := 217) dX0_work_6 (by decide) (by rw [c60]; rfl) (by decide) ?_
                      refine GW.aload_n (pc' := 218) dX0_work_217 rfl rfl ?_
                      refine GW.gets (pc' := 221) (k := 2000) dX0_work_218 rfl (by decide) gk_X0_53 ?_
                      refine GW.iconst (pc' := 222) (v := 4) dX0_work_221 rfl (by decide) ?_
                      refine GW.tload (pc' := 223) (k := 2000) (n := 7) (v := 1) dX0_work_222 rfl (by decide) (vin (by decide)) (by decide) ?_
                      refine GW.iconst (pc' := 224) (v := 0) dX0_work_223 rfl (by decide) ?_
                      refine GW.iload_n (pc' := 225) dX0_work_224 rfl rfl ?_
                      refine GW.iload_n (pc' := 226) dX0_work_225 rfl rfl ?_
                      refine GW.callV (pc' := 229) (k := 4) (av := [.int 1, .int 0, .int v2, .int v3]) (rest := []) dX0_work_226 rfl mk_X0_call lk_X0_38 vk_X0_call ko_4 rfl rfl (Nat.le_of_ble_eq_true rfl) (bk_i (MI.mono h (fun r61 M62 h => ?_)))
                      refine GW.iconst (pc' := 230) (v := 3) dX0_work_229 rfl (by decide) ?_
                      refine GW.imul (pc' := 231) dX0_work_230 rfl ?_
                      refine GW.iret dX0_work_231 rfl ⟨_, rfl, ?_⟩
                      exact h
                    · replace h := ite_f h c60
                      by_cases c63 : v1 = 51
                      · replace h := ite_t h c63
                        refine GW.lsw (off := 226) (tgt := 232) dX0_work_6 (by decide) (by rw [c63]; rfl) (by decide) ?_
                        refine GW.aload_n (pc' := 233) dX0_work_232 rfl rfl ?_
                        refine GW.gets (pc' := 236) (k := 2000) dX0_work_233 rfl (by decide) gk_X0_53 ?_
                        refine GW.iconst (pc' := 237) (v := 4) dX0_work_236 rfl (by decide) ?_
                        refine GW.tload (pc' := 238) (k := 2000) (n := 7) (v := 1) dX0_work_237 rfl (by decide) (vin (by decide)) (by decide) ?_
                        refine GW.iconst (pc' := 239) (v := 2) dX0_work_238 rfl (by decide) ?_
                        refine GW.iload_n (pc' := 240) dX0_work_239 rfl rfl ?_
                        refine GW.iload_n (pc' := 241) dX0_work_240 rfl rfl ?_
                        refine GW.callV (pc' := 244) (k := 4) (av := [.int 1, .int 2, .int v2, .int v3]) (rest := []) dX0_work_241 rfl mk_X0_call lk_X0_38 vk_X0_call ko_4 rfl rfl (Nat.le_of_ble_eq_true rfl) (bk_i (MI.mono h (fun r64 M65 h => ?_)))
                        refine GW.aload_n (pc' := 245) dX0_work_244 rfl rfl ?_
                        refine GW.getI (pc' := 248) dX0_work_245 rfl fk_X0_23 rfl (by decide) rfl rfl ?_
                        refine GW.ixor (pc' := 249) dX0_work_248 rfl ?_
                        refine GW.iret dX0_work_249 rfl ⟨_, rfl, ?_⟩
                        exact h
                      · replace h := ite_f h c63
                        by_cases c66 : v1 = 60
                        · replace h := ite_t h c66
                          refine GW.lsw (off := 244) (tgt := 250) dX0_work_6 (by decide) (by rw [c66]; rfl) (by decide) ?_
                          refine GW.aload_n (pc' := 251) dX0_work_250 rfl rfl ?_
                          refine GW.gets (pc' := 254) (k := 2000) dX0_work_251 rfl (by decide) gk_X0_53 ?_
                          refine GW.iconst (pc' := 255) (v := 5) dX0_work_254 rfl (by decide) ?_
                          refine GW.tload (pc' := 256) (k := 2000) (n := 7) (v := 1) dX0_work_255 rfl (by decide) (vin (by decide)) (by decide) ?_
                          refine GW.iconst (pc' := 257) (v := 1) dX0_work_256 rfl (by decide) ?_
                          refine GW.iload_n (pc' := 258) dX0_work_257 rfl rfl ?_
                          refine GW.iconst (pc' := 259) (v := 1) dX0_work_258 rfl (by decide) ?_
                          refine GW.iadd (pc' := 260) dX0_work_259 rfl ?_
                          refine GW.iload_n (pc' := 261) dX0_work_260 rfl rfl ?_
                          refine GW.callV (pc' := 264) (k := 4) (av := [.int 1, .int 1, .int (v2 + 1), .int v3]) (rest := []) dX0_work_261 rfl mk_X0_call lk_X0_38 vk_X0_call ko_4 rfl rfl (Nat.le_of_ble_eq_true rfl) (bk_i (MI.mono h (fun r67 M68 h => ?_)))
                          refine GW.iret dX0_work_264 rfl ⟨_, rfl, ?_⟩
                          exact h
                        · replace h := ite_f h c66
                          by_cases c69 : v1 = 70
                          · replace h := ite_t h c69
                            refine GW.lsw (off := 259) (tgt := 265) dX0_work_6 (by decide) (by rw [c69]; rfl) (by decide) ?_
                            refine GW.iconst (pc' := 266) (v := 4) dX0_work_265 rfl (by decide) ?_
                            refine GW.iret dX0_work_266 rfl ⟨_, rfl, ?_⟩
                            exact h
                          · replace h := ite_f h c69
                            by_cases c70 : v1 = 71
                            · replace h := ite_t h c70
                              refine GW.lsw (off := 261) (tgt := 267) dX0_work_6 (by decide) (by rw [c70]; rfl) (by decide) ?_
                              refine GW.aload_n (pc' := 268) dX0_work_267 rfl rfl ?_
                              refine GW.iconst (pc' := 269) (v := 0) dX0_work_268 rfl (by decide) ?_
                              refine GW.iconst (pc' := 270) (v := 1) dX0_work_269 rfl (by decide) ?_
                              refine GW.iload_n (pc' := 271) dX0_work_270 rfl rfl ?_
                              refine GW.iload_n (pc' := 272) dX0_work_271 rfl rfl ?_
                              refine GW.callV (pc' := 275) (k := 4) (av := [.int 0, .int 1, .int v2, .int v3]) (rest := []) dX0_work_272 rfl mk_X0_call lk_X0_38 vk_X0_call ko_4 rfl rfl (Nat.le_of_ble_eq_true rfl) (bk_i (MI.mono h (fun r71 M72 h => ?_)))
                              refine GW.aload_n (pc' := 276) dX0_work_275 rfl rfl ?_
                              refine GW.getI (pc' := 279) dX0_work_276 rfl fk_X0_35 rfl (by decide) rfl rfl ?_
                              refine GW.iadd (pc' := 280) dX0_work_279 rfl ?_
                              refine GW.iret dX0_work_280 rfl ⟨_, rfl, ?_⟩
                              exact h
                            · replace h := ite_f h c70
                              refine GW.lsw (off := 275) (tgt := 281) dX0_work_6 (by decide) ((lv_osw c38 rfl).trans ((lv_osw c39 rfl).trans ((lv_osw c42 rfl).trans ((lv_osw c45 rfl).trans ((lv_osw c48 rfl).trans ((lv_osw c51 rfl).trans ((lv_osw c54 rfl).trans ((lv_osw c57 rfl).trans ((lv_osw c60 rfl).trans ((lv_osw c63 rfl).trans ((lv_osw c66 rfl).trans ((lv_osw c69 rfl).trans ((lv_osw c70 rfl).trans (rfl)))))))))))))) (by decide) ?_
                              refine GW.iconst (pc' := 282) (v := 0) dX0_work_281 rfl (by decide) ?_
                              refine GW.iret dX0_work_282 rfl ⟨_, rfl, ?_⟩
                              exact h

set_option maxRecDepth 100000 in
set_option maxHeartbeats 4000000 in
theorem wp_X1_joined (xs : gX) (d : Nat) (v0 : Int32) (v1 : Int32) (v2 : Int32) (M : Mem) (Q : Int32 → Mem → Prop) (h : (if v0 = 37 then (if v2 = 0 then Q 0 M else (¬ v2 = 0 ∧ Q (v1 - v1 / v2 * v2) M)) else (if v0 = 38 then (if v1 = 0 then Q 0 M else (if v2 = 0 then Q 0 M else Q 1 M)) else (if v0 = 42 then Q (v1 * v2) M else (if v0 = 43 then Q (v1 + v2) M else (if v0 = 45 then Q (v1 - v2) M else (if v0 = 47 then (if v2 = 0 then Q 0 M else (¬ v2 = 0 ∧ Q (v1 / v2) M)) else (if v0 = 60 then (if v1 < v2 then Q 1 M else Q 0 M) else (if v0 = 61 then (if v1 = v2 then Q 1 M else Q 0 M) else (if v0 = 62 then (if v2 < v1 then Q 1 M else Q 0 M) else (if v0 = 124 then (if v1 = 0 then (if v2 = 0 then Q 0 M else Q 1 M) else Q 1 M) else Q 0 M))))))))))) : MI xs d mX1_joined [.int v0, .int v1, .int v2] M Q := by
  refine MI.intro (lv := [(0, .int v0), (1, .int v1), (2, .int v2)]) mk_X1_joined.2.2.2.2 (Nat.le_of_ble_eq_true rfl) rfl ?_
  refine GW.iload_n (pc' := 1) dX1_joined_0 rfl rfl ?_
  by_cases c1 : v0 = 37
  · replace h := ite_t h c1
    refine GW.lsw (off := 176) (tgt := 177) dX1_joined_1 (by decide) (by rw [c1]; rfl) (by decide) ?_
    refine GW.iload_n (pc' := 178) dX1_joined_177 rfl rfl ?_
    refine GW.ifne (pc' := 181) (tgt := 185) dX1_joined_178 rfl (by decide) (ite_i (fun c2 => ?_) (fun c2 => ?_))
    · replace h := ite_t h c2
      refine GW.iconst (pc' := 182) (v := 0) dX1_joined_181 rfl (by decide) ?_
      refine GW.goto (tgt := 188) dX1_joined_182 (by decide) ?_
      refine GW.iret dX1_joined_188 rfl ⟨_, rfl, ?_⟩
      exact h
    · replace h := ite_f h c2
      refine GW.iload_n (pc' := 186) dX1_joined_185 rfl rfl ?_
      refine GW.iload_n (pc' := 187) dX1_joined_186 rfl rfl ?_
      obtain ⟨b3, h⟩ := h
      refine GW.irem (pc' := 188) dX1_joined_187 rfl b3 ?_
      refine GW.iret dX1_joined_188 rfl ⟨_, rfl, ?_⟩
      exact h
  · replace h := ite_f h c1
    by_cases c4 : v0 = 38
    · replace h := ite_t h c4
      refine GW.lsw (off := 105) (tgt := 106) dX1_joined_1 (by decide) (by rw [c4]; rfl) (by decide) ?_
      refine GW.iload_n (pc' := 107) dX1_joined_106 rfl rfl ?_
      refine GW.ifeq (pc' := 110) (tgt := 118) dX1_joined_107 rfl (by decide) (ite_i (fun c5 => ?_) (fun c5 => ?_))
      · replace h := ite_t h c5
        refine GW.iconst (pc' := 119) (v := 0) dX1_joined_118 rfl (by decide) ?_
        refine GW.iret dX1_joined_119 rfl ⟨_, rfl, ?_⟩
        exact h
      · replace h := ite_f h c5
        refine GW.iload_n (pc' := 111) dX1_joined_110 rfl rfl ?_
        refine GW.ifeq (pc' := 114) (tgt := 118) dX1_joined_111 rfl (by decide) (ite_i (fun c6 => ?_) (fun c6 => ?_))
        · replace h := ite_t h c6
          refine GW.iconst (pc' := 119) (v := 0) dX1_joined_118 rfl (by decide) ?_
          refine GW.iret dX1_joined_119 rfl ⟨_, rfl, ?_⟩
          exact h
        · replace h := ite_f h c6
          refine GW.iconst (pc' := 115) (v := 1) dX1_joined_114 rfl (by decide) ?_
          refine GW.goto (tgt := 119) dX1_joined_115 (by decide) ?_
          refine GW.iret dX1_joined_119 rfl ⟨_, rfl, ?_⟩
          exact h
    · replace h := ite_f h c4
      by_cases c7 : v0 = 42
      · replace h := ite_t h c7
        refine GW.lsw (off := 160) (tgt := 161) dX1_joined_1 (by decide) (by rw [c7]; rfl) (by decide) ?_
        refine GW.iload_n (pc' := 162) dX1_joined_161 rfl rfl ?_
        refine GW.iload_n (pc' := 163) dX1_joined_162 rfl rfl ?_
        refine GW.imul (pc' := 164) dX1_joined_163 rfl ?_
        refine GW.iret dX1_joined_164 rfl ⟨_, rfl, ?_⟩
        exact h
      · replace h := ite_f h c7
        by_cases c8 : v0 = 43
        · replace h := ite_t h c8
          refine GW.lsw (off := 152) (tgt := 153) dX1_joined_1 (by decide) (by rw [c8]; rfl) (by decide) ?_
          refine GW.iload_n (pc' := 154) dX1_joined_153 rfl rfl ?_
          refine GW.iload_n (pc' := 155) dX1_joined_154 rfl rfl ?_
          refine GW.iadd (pc' := 156) dX1_joined_155 rfl ?_
          refine GW.iret dX1_joined_156 rfl ⟨_, rfl, ?_⟩
          exact h
        · replace h := ite_f h c8
          by_cases c9 : v0 = 45
          · replace h := ite_t h c9
            refine GW.lsw (off := 156) (tgt := 157) dX1_joined_1 (by decide) (by rw [c9]; rfl) (by decide) ?_
            refine GW.iload_n (pc' := 158) dX1_joined_157 rfl rfl ?_
            refine GW.iload_n (pc' := 159) dX1_joined_158 rfl rfl ?_
            refine GW.isub (pc' := 160) dX1_joined_159 rfl ?_
            refine GW.iret dX1_joined_160 rfl ⟨_, rfl, ?_⟩
            exact h
          · replace h := ite_f h c9
            by_cases c10 : v0 = 47
            · replace h := ite_t h c10
              refine GW.lsw (off := 164) (tgt := 165) dX1_joined_1 (by decide) (by rw [c10]; rfl) (by decide) ?_
              refine GW.iload_n (pc' := 166) dX1_joined_165 rfl rfl ?_
              refine GW.ifne (pc' := 169) (tgt := 173) dX1_joined_166 rfl (by decide) (ite_i (fun c11 => ?_) (fun c11 => ?_))
              · replace h := ite_t h c11
                refine GW.iconst (pc' := 170) (v := 0) dX1_joined_169 rfl (by decide) ?_
                refine GW.goto (tgt := 176) dX1_joined_170 (by decide) ?_
                refine GW.iret dX1_joined_176 rfl ⟨_, rfl, ?_⟩
                exact h
              · replace h := ite_f h c11
                refine GW.iload_n (pc' := 174) dX1_joined_173 rfl rfl ?_
                refine GW.iload_n (pc' := 175) dX1_joined_174 rfl rfl ?_
                obtain ⟨b12, h⟩ := h
                refine GW.idiv (pc' := 176) dX1_joined_175 rfl b12 ?_
                refine GW.iret dX1_joined_176 rfl ⟨_, rfl, ?_⟩
                exact h
            · replace h := ite_f h c10
              by_cases c13 : v0 = 60
              · replace h := ite_t h c13
                refine GW.lsw (off := 119) (tgt := 120) dX1_joined_1 (by decide) (by rw [c13]; rfl) (by decide) ?_
                refine GW.iload_n (pc' := 121) dX1_joined_120 rfl rfl ?_
                refine GW.iload_n (pc' := 122) dX1_joined_121 rfl rfl ?_
                refine GW.if_icmpge (pc' := 125) (tgt := 129) dX1_joined_122 rfl (by decide) (ite_i (fun c14 => ?_) (fun c14 => ?_))
                · replace h := ite_t h c14
                  refine GW.iconst (pc' := 126) (v := 1) dX1_joined_125 rfl (by decide) ?_
                  refine GW.goto (tgt := 130) dX1_joined_126 (by decide) ?_
                  refine GW.iret dX1_joined_130 rfl ⟨_, rfl, ?_⟩
                  exact h
                · replace h := ite_f h c14
                  refine GW.iconst (pc' := 130) (v := 0) dX1_joined_129 rfl (by decide) ?_
                  refine GW.iret dX1_joined_130 rfl ⟨_, rfl, ?_⟩
                  exact h
              · replace h := ite_f h c13
                by_cases c15 : v0 = 61
                · replace h := ite_t h c15
                  refine GW.lsw (off := 130) (tgt := 131) dX1_joined_1 (by decide) (by rw [c15]; rfl) (by decide) ?_
                  refine GW.iload_n (pc' := 132) dX1_joined_131 rfl rfl ?_
                  refine GW.iload_n (pc' := 133) dX1_joined_132 rfl rfl ?_
                  refine GW.if_icmpne (pc' := 136) (tgt := 140) dX1_joined_133 rfl (by decide) (ite_i (fun c16 => ?_) (fun c16 => ?_))
                  · replace h := ite_t h c16
                    refine GW.iconst (pc' := 137) (v := 1) dX1_joined_136 rfl (by decide) ?_
                    refine GW.goto (tgt := 141) dX1_joined_137 (by decide) ?_
                    refine GW.iret dX1_joined_141 rfl ⟨_, rfl, ?_⟩
                    exact h
                  · replace h := ite_f h c16
                    refine GW.iconst (pc' := 141) (v := 0) dX1_joined_140 rfl (by decide) ?_
                    refine GW.iret dX1_joined_141 rfl ⟨_, rfl, ?_⟩
                    exact h
                · replace h := ite_f h c15
                  by_cases c17 : v0 = 62
                  · replace h := ite_t h c17
                    refine GW.lsw (off := 141) (tgt := 142) dX1_joined_1 (by decide) (by rw [c17]; rfl) (by decide) ?_
                    refine GW.iload_n (pc' := 143) dX1_joined_142 rfl rfl ?_
                    refine GW.iload_n (pc' := 144) dX1_joined_143 rfl rfl ?_
                    refine GW.if_icmple (pc' := 147) (tgt := 151) dX1_joined_144 rfl (by decide) (ite_i (fun c18 => ?_) (fun c18 => ?_))
                    · replace h := ite_t h c18
                      refine GW.iconst (pc' := 148) (v := 1) dX1_joined_147 rfl (by decide) ?_
                      refine GW.goto (tgt := 152) dX1_joined_148 (by decide) ?_
                      refine GW.iret dX1_joined_152 rfl ⟨_, rfl, ?_⟩
                      exact h
                    · replace h := ite_f h c18
                      refine GW.iconst (pc' := 152) (v := 0) dX1_joined_151 rfl (by decide) ?_
                      refine GW.iret dX1_joined_152 rfl ⟨_, rfl, ?_⟩
                      exact h
                  · replace h := ite_f h c17
                    by_cases c19 : v0 = 124
                    · replace h := ite_t h c19
                      refine GW.lsw (off := 91) (tgt := 92) dX1_joined_1 (by decide) (by rw [c19]; rfl) (by decide) ?_
                      refine GW.iload_n (pc' := 93) dX1_joined_92 rfl rfl ?_
                      refine GW.ifne (pc' := 96) (tgt := 100) dX1_joined_93 rfl (by decide) (ite_i (fun c20 => ?_) (fun c20 => ?_))
                      · replace h := ite_t h c20
                        refine GW.iload_n (pc' := 97) dX1_joined_96 rfl rfl ?_
                        refine GW.ifeq (pc' := 100) (tgt := 104) dX1_joined_97 rfl (by decide) (ite_i (fun c21 => ?_) (fun c21 => ?_))
                        · replace h := ite_t h c21
                          refine GW.iconst (pc' := 105) (v := 0) dX1_joined_104 rfl (by decide) ?_
                          refine GW.iret dX1_joined_105 rfl ⟨_, rfl, ?_⟩
                          exact h
                        · replace h := ite_f h c21
                          refine GW.iconst (pc' := 101) (v := 1) dX1_joined_100 rfl (by decide) ?_
                          refine GW.goto (tgt := 105) dX1_joined_101 (by decide) ?_
                          refine GW.iret dX1_joined_105 rfl ⟨_, rfl, ?_⟩
                          exact h
                      · replace h := ite_f h c20
                        refine GW.iconst (pc' := 101) (v := 1) dX1_joined_100 rfl (by decide) ?_
                        refine GW.goto (tgt := 105) dX1_joined_101 (by decide) ?_
                        refine GW.iret dX1_joined_105 rfl ⟨_, rfl, ?_⟩
                        exact h
                    · replace h := ite_f h c19
                      refine GW.lsw (off := 188) (tgt := 189) dX1_joined_1 (by decide) ((lv_osw c1 rfl).trans ((lv_osw c4 rfl).trans ((lv_osw c7 rfl).trans ((lv_osw c8 rfl).trans ((lv_osw c9 rfl).trans ((lv_osw c10 rfl).trans ((lv_osw c13 rfl).trans ((lv_osw c15 rfl).trans ((lv_osw c17 rfl).trans ((lv_osw c19 rfl).trans (rfl))))))))))) (by decide) ?_
                      refine GW.iconst (pc' := 190) (v := 0) dX1_joined_189 rfl (by decide) ?_
                      refine GW.iret dX1_joined_190 rfl ⟨_, rfl, ?_⟩
                      exact h

set_option maxRecDepth 100000 in
set_option maxHeartbeats 4000000 in
theorem wp_X1_take_29_53 (xs : gX) (d : Nat) (v2 : Int32) (M : Mem) (Q : Mem → Prop) (h : (CPK 0 0 (gmin v2 (gmin 60 60)) 60 60 ∧ Q (mw (mwA (mw M 29 2 (gmin v2 (gmin 60 60))) 30 (va_cpy (M.1 53) (M.1 30) 0 0 ((gmin v2 (gmin 60 60))).toNatClampNeg)) 29 3 1))) : MV xs (d + 1) mX1_take [.ref 29, .ref 53, .int v2] M Q := by
  refine MV.intro (lv := [(0, .ref 29), (1, .ref 53), (2, .int v2)]) mk_X1_take.2.2.2.2 (Nat.le_of_ble_eq_true rfl) rfl ?_
  refine GW.aload_n (pc' := 1) dX1_take_0 rfl rfl ?_
  refine GW.iload_n (pc' := 2) dX1_take_1 rfl rfl ?_
  refine GW.bipush (pc' := 4) (v := 60) dX1_take_2 rfl (by decide) ?_
  refine GW.aload_n (pc' := 5) dX1_take_4 rfl rfl ?_
  refine GW.alen (pc' := 6) (v := 60) dX1_take_5 rfl rfl (by decide) ?_
  refine GW.mmin (pc' := 9) dX1_take_6 rfl zk_X1_18 (Nat.le_of_ble_eq_true rfl) ?_
  refine GW.mmin (pc' := 12) dX1_take_9 rfl zk_X1_18 (Nat.le_of_ble_eq_true rfl) ?_
  refine GW.putI (pc' := 15) dX1_take_12 rfl fp_X1_24 rfl (by decide) rfl rfl ⟨rfl, rfl⟩ ?_
  refine GW.aload_n (pc' := 16) dX1_take_15 rfl rfl ?_
  refine GW.iconst (pc' := 17) (v := 0) dX1_take_16 rfl (by decide) ?_
  refine GW.aload_n (pc' := 18) dX1_take_17 rfl rfl ?_
  refine GW.getR (pc' := 21) (t := 30) dX1_take_18 rfl fk_X1_9 rfl (by decide) rfl rfl ?_
  refine GW.iconst (pc' := 22) (v := 0) dX1_take_21 rfl (by decide) ?_
  refine GW.aload_n (pc' := 23) dX1_take_22 rfl rfl ?_
  refine GW.getI (pc' := 26) dX1_take_23 rfl fk_X1_24 rfl (by decide) rfl rfl ?_
  obtain ⟨b1, h⟩ := h
  refine GW.copyi (pc' := 29) (sp' := 0) (dp' := 0) (n' := ((gmin v2 (gmin 60 60))).toNatClampNeg) dX1_take_26 rfl ak_X1_28 rfl rfl b1 (by decide) (by decide) rfl (Nat.le_of_ble_eq_true rfl) ?_
  refine GW.aload_n (pc' := 30) dX1_take_29 rfl rfl ?_
  refine GW.iconst (pc' := 31) (v := 1) dX1_take_30 rfl (by decide) ?_
  refine GW.putI (pc' := 34) dX1_take_31 rfl fp_X1_34 rfl (by decide) rfl rfl ⟨by decide, by decide⟩ ?_
  refine GW.vret dX1_take_34 rfl ⟨rfl, ?_⟩
  exact h

set_option maxRecDepth 100000 in
set_option maxHeartbeats 4000000 in
theorem wp_X1_take_29_62 (xs : gX) (d : Nat) (v2 : Int32) (M : Mem) (Q : Mem → Prop) (h : (CPK 0 0 (gmin v2 (gmin 60 60)) 60 60 ∧ Q (mw (mwA (mw M 29 2 (gmin v2 (gmin 60 60))) 30 (va_cpy (M.1 62) (M.1 30) 0 0 ((gmin v2 (gmin 60 60))).toNatClampNeg)) 29 3 1))) : MV xs (d + 1) mX1_take [.ref 29, .ref 62, .int v2] M Q := by
  refine MV.intro (lv := [(0, .ref 29), (1, .ref 62), (2, .int v2)]) mk_X1_take.2.2.2.2 (Nat.le_of_ble_eq_true rfl) rfl ?_
  refine GW.aload_n (pc' := 1) dX1_take_0 rfl rfl ?_
  refine GW.iload_n (pc' := 2) dX1_take_1 rfl rfl ?_
  refine GW.bipush (pc' := 4) (v := 60) dX1_take_2 rfl (by decide) ?_
  refine GW.aload_n (pc' := 5) dX1_take_4 rfl rfl ?_
  refine GW.alen (pc' := 6) (v := 60) dX1_take_5 rfl rfl (by decide) ?_
  refine GW.mmin (pc' := 9) dX1_take_6 rfl zk_X1_18 (Nat.le_of_ble_eq_true rfl) ?_
  refine GW.mmin (pc' := 12) dX1_take_9 rfl zk_X1_18 (Nat.le_of_ble_eq_true rfl) ?_
  refine GW.putI (pc' := 15) dX1_take_12 rfl fp_X1_24 rfl (by decide) rfl rfl ⟨rfl, rfl⟩ ?_
  refine GW.aload_n (pc' := 16) dX1_take_15 rfl rfl ?_
  refine GW.iconst (pc' := 17) (v := 0) dX1_take_16 rfl (by decide) ?_
  refine GW.aload_n (pc' := 18) dX1_take_17 rfl rfl ?_
  refine GW.getR (pc' := 21) (t := 30) dX1_take_18 rfl fk_X1_9 rfl (by decide) rfl rfl ?_
  refine GW.iconst (pc' := 22) (v := 0) dX1_take_21 rfl (by decide) ?_
  refine GW.aload_n (pc' := 23) dX1_take_22 rfl rfl ?_
  refine GW.getI (pc' := 26) dX1_take_23 rfl fk_X1_24 rfl (by decide) rfl rfl ?_
  obtain ⟨b1, h⟩ := h
  refine GW.copyi (pc' := 29) (sp' := 0) (dp' := 0) (n' := ((gmin v2 (gmin 60 60))).toNatClampNeg) dX1_take_26 rfl ak_X1_28 rfl rfl b1 (by decide) (by decide) rfl (Nat.le_of_ble_eq_true rfl) ?_
  refine GW.aload_n (pc' := 30) dX1_take_29 rfl rfl ?_
  refine GW.iconst (pc' := 31) (v := 1) dX1_take_30 rfl (by decide) ?_
  refine GW.putI (pc' := 34) dX1_take_31 rfl fp_X1_34 rfl (by decide) rfl rfl ⟨by decide, by decide⟩ ?_
  refine GW.vret dX1_take_34 rfl ⟨rfl, ?_⟩
  exact h

set_option maxRecDepth 100000 in
set_option maxHeartbeats 4000000 in
theorem wp_X1_take_32_56 (xs : gX) (d : Nat) (v2 : Int32) (M : Mem) (Q : Mem → Prop) (h : (CPK 0 0 (gmin v2 (gmin 60 60)) 60 60 ∧ Q (mw (mwA (mw M 32 2 (gmin v2 (gmin 60 60))) 33 (va_cpy (M.1 56) (M.1 33) 0 0 ((gmin v2 (gmin 60 60))).toNatClampNeg)) 32 3 1))) : MV xs (d + 1) mX1_take [.ref 32, .ref 56, .int v2] M Q := by
  refine MV.intro (lv := [(0, .ref 32), (1, .ref 56), (2, .int v2)]) mk_X1_take.2.2.2.2 (Nat.le_of_ble_eq_true rfl) rfl ?_
  refine GW.aload_n (pc' := 1) dX1_take_0 rfl rfl ?_
  refine GW.iload_n (pc' := 2) dX1_take_1 rfl rfl ?_
  refine GW.bipush (pc' := 4) (v := 60) dX1_take_2 rfl (by decide) ?_
  refine GW.aload_n (pc' := 5) dX1_take_4 rfl rfl ?_
  refine GW.alen (pc' := 6) (v := 60) dX1_take_5 rfl rfl (by decide) ?_
  refine GW.mmin (pc' := 9) dX1_take_6 rfl zk_X1_18 (Nat.le_of_ble_eq_true rfl) ?_
  refine GW.mmin (pc' := 12) dX1_take_9 rfl zk_X1_18 (Nat.le_of_ble_eq_true rfl) ?_
  refine GW.putI (pc' := 15) dX1_take_12 rfl fp_X1_24 rfl (by decide) rfl rfl ⟨rfl, rfl⟩ ?_
  refine GW.aload_n (pc' := 16) dX1_take_15 rfl rfl ?_
  refine GW.iconst (pc' := 17) (v := 0) dX1_take_16 rfl (by decide) ?_
  refine GW.aload_n (pc' := 18) dX1_take_17 rfl rfl ?_
  refine GW.getR (pc' := 21) (t := 33) dX1_take_18 rfl fk_X1_9 rfl (by decide) rfl rfl ?_
  refine GW.iconst (pc' := 22) (v := 0) dX1_take_21 rfl (by decide) ?_
  refine GW.aload_n (pc' := 23) dX1_take_22 rfl rfl ?_
  refine GW.getI (pc' := 26) dX1_take_23 rfl fk_X1_24 rfl (by decide) rfl rfl ?_
  obtain ⟨b1, h⟩ := h
  refine GW.copyi (pc' := 29) (sp' := 0) (dp' := 0) (n' := ((gmin v2 (gmin 60 60))).toNatClampNeg) dX1_take_26 rfl ak_X1_28 rfl rfl b1 (by decide) (by decide) rfl (Nat.le_of_ble_eq_true rfl) ?_
  refine GW.aload_n (pc' := 30) dX1_take_29 rfl rfl ?_
  refine GW.iconst (pc' := 31) (v := 1) dX1_take_30 rfl (by decide) ?_
  refine GW.putI (pc' := 34) dX1_take_31 rfl fp_X1_34 rfl (by decide) rfl rfl ⟨by decide, by decide⟩ ?_
  refine GW.vret dX1_take_34 rfl ⟨rfl, ?_⟩
  exact h

set_option maxRecDepth 100000 in
set_option maxHeartbeats 4000000 in
theorem wp_X1_take_32_62 (xs : gX) (d : Nat) (v2 : Int32) (M : Mem) (Q : Mem → Prop) (h : (CPK 0 0 (gmin v2 (gmin 60 60)) 60 60 ∧ Q (mw (mwA (mw M 32 2 (gmin v2 (gmin 60 60))) 33 (va_cpy (M.1 62) (M.1 33) 0 0 ((gmin v2 (gmin 60 60))).toNatClampNeg)) 32 3 1))) : MV xs (d + 1) mX1_take [.ref 32, .ref 62, .int v2] M Q := by
  refine MV.intro (lv := [(0, .ref 32), (1, .ref 62), (2, .int v2)]) mk_X1_take.2.2.2.2 (Nat.le_of_ble_eq_true rfl) rfl ?_
  refine GW.aload_n (pc' := 1) dX1_take_0 rfl rfl ?_
  refine GW.iload_n (pc' := 2) dX1_take_1 rfl rfl ?_
  refine GW.bipush (pc' := 4) (v := 60) dX1_take_2 rfl (by decide) ?_
  refine GW.aload_n (pc' := 5) dX1_take_4 rfl rfl ?_
  refine GW.alen (pc' := 6) (v := 60) dX1_take_5 rfl rfl (by decide) ?_
  refine GW.mmin (pc' := 9) dX1_take_6 rfl zk_X1_18 (Nat.le_of_ble_eq_true rfl) ?_
  refine GW.mmin (pc' := 12) dX1_take_9 rfl zk_X1_18 (Nat.le_of_ble_eq_true rfl) ?_
  refine GW.putI (pc' := 15) dX1_take_12 rfl fp_X1_24 rfl (by decide) rfl rfl ⟨rfl, rfl⟩ ?_
  refine GW.aload_n (pc' := 16) dX1_take_15 rfl rfl ?_
  refine GW.iconst (pc' := 17) (v := 0) dX1_take_16 rfl (by decide) ?_
  refine GW.aload_n (pc' := 18) dX1_take_17 rfl rfl ?_
  refine GW.getR (pc' := 21) (t := 33) dX1_take_18 rfl fk_X1_9 rfl (by decide) rfl rfl ?_
  refine GW.iconst (pc' := 22) (v := 0) dX1_take_21 rfl (by decide) ?_
  refine GW.aload_n (pc' := 23) dX1_take_22 rfl rfl ?_
  refine GW.getI (pc' := 26) dX1_take_23 rfl fk_X1_24 rfl (by decide) rfl rfl ?_
  obtain ⟨b1, h⟩ := h
  refine GW.copyi (pc' := 29) (sp' := 0) (dp' := 0) (n' := ((gmin v2 (gmin 60 60))).toNatClampNeg) dX1_take_26 rfl ak_X1_28 rfl rfl b1 (by decide) (by decide) rfl (Nat.le_of_ble_eq_true rfl) ?_
  refine GW.aload_n (pc' := 30) dX1_take_29 rfl rfl ?_
  refine GW.iconst (pc' := 31) (v := 1) dX1_take_30 rfl (by decide) ?_
  refine GW.putI (pc' := 34) dX1_take_31 rfl fp_X1_34 rfl (by decide) rfl rfl ⟨by decide, by decide⟩ ?_
  refine GW.vret dX1_take_34 rfl ⟨rfl, ?_⟩
  exact h

set_option maxRecDepth 100000 in
set_option maxHeartbeats 4000000 in
theorem wp_X1_take_52_30 (xs : gX) (d : Nat) (v2 : Int32) (M : Mem) (Q : Mem → Prop) (h : (CPK 0 0 (gmin v2 (gmin 60 60)) 60 60 ∧ Q (mw (mwA (mw M 52 2 (gmin v2 (gmin 60 60))) 53 (va_cpy (M.1 30) (M.1 53) 0 0 ((gmin v2 (gmin 60 60))).toNatClampNeg)) 52 3 1))) : MV xs (d + 1) mX1_take [.ref 52, .ref 30, .int v2] M Q := by
  refine MV.intro (lv := [(0, .ref 52), (1, .ref 30), (2, .int v2)]) mk_X1_take.2.2.2.2 (Nat.le_of_ble_eq_true rfl) rfl ?_
  refine GW.aload_n (pc' := 1) dX1_take_0 rfl rfl ?_
  refine GW.iload_n (pc' := 2) dX1_take_1 rfl rfl ?_
  refine GW.bipush (pc' := 4) (v := 60) dX1_take_2 rfl (by decide) ?_
  refine GW.aload_n (pc' := 5) dX1_take_4 rfl rfl ?_
  refine GW.alen (pc' := 6) (v := 60) dX1_take_5 rfl rfl (by decide) ?_
  refine GW.mmin (pc' := 9) dX1_take_6 rfl zk_X1_18 (Nat.le_of_ble_eq_true rfl) ?_
  refine GW.mmin (pc' := 12) dX1_take_9 rfl zk_X1_18 (Nat.le_of_ble_eq_true rfl) ?_
  refine GW.putI (pc' := 15) dX1_take_12 rfl fp_X1_24 rfl (by decide) rfl rfl ⟨rfl, rfl⟩ ?_
  refine GW.aload_n (pc' := 16) dX1_take_15 rfl rfl ?_
  refine GW.iconst (pc' := 17) (v := 0) dX1_take_16 rfl (by decide) ?_
  refine GW.aload_n (pc' := 18) dX1_take_17 rfl rfl ?_
  refine GW.getR (pc' := 21) (t := 53) dX1_take_18 rfl fk_X1_9 rfl (by decide) rfl rfl ?_
  refine GW.iconst (pc' := 22) (v := 0) dX1_take_21 rfl (by decide) ?_
  refine GW.aload_n (pc' := 23) dX1_take_22 rfl rfl ?_
  refine GW.getI (pc' := 26) dX1_take_23 rfl fk_X1_24 rfl (by decide) rfl rfl ?_
  obtain ⟨b1, h⟩ := h
  refine GW.copyi (pc' := 29) (sp' := 0) (dp' := 0) (n' := ((gmin v2 (gmin 60 60))).toNatClampNeg) dX1_take_26 rfl ak_X1_28 rfl rfl b1 (by decide) (by decide) rfl (Nat.le_of_ble_eq_true rfl) ?_
  refine GW.aload_n (pc' := 30) dX1_take_29 rfl rfl ?_
  refine GW.iconst (pc' := 31) (v := 1) dX1_take_30 rfl (by decide) ?_
  refine GW.putI (pc' := 34) dX1_take_31 rfl fp_X1_34 rfl (by decide) rfl rfl ⟨by decide, by decide⟩ ?_
  refine GW.vret dX1_take_34 rfl ⟨rfl, ?_⟩
  exact h

set_option maxRecDepth 100000 in
set_option maxHeartbeats 4000000 in
theorem wp_X1_take_55_33 (xs : gX) (d : Nat) (v2 : Int32) (M : Mem) (Q : Mem → Prop) (h : (CPK 0 0 (gmin v2 (gmin 60 60)) 60 60 ∧ Q (mw (mwA (mw M 55 2 (gmin v2 (gmin 60 60))) 56 (va_cpy (M.1 33) (M.1 56) 0 0 ((gmin v2 (gmin 60 60))).toNatClampNeg)) 55 3 1))) : MV xs (d + 1) mX1_take [.ref 55, .ref 33, .int v2] M Q := by
  refine MV.intro (lv := [(0, .ref 55), (1, .ref 33), (2, .int v2)]) mk_X1_take.2.2.2.2 (Nat.le_of_ble_eq_true rfl) rfl ?_
  refine GW.aload_n (pc' := 1) dX1_take_0 rfl rfl ?_
  refine GW.iload_n (pc' := 2) dX1_take_1 rfl rfl ?_
  refine GW.bipush (pc' := 4) (v := 60) dX1_take_2 rfl (by decide) ?_
  refine GW.aload_n (pc' := 5) dX1_take_4 rfl rfl ?_
  refine GW.alen (pc' := 6) (v := 60) dX1_take_5 rfl rfl (by decide) ?_
  refine GW.mmin (pc' := 9) dX1_take_6 rfl zk_X1_18 (Nat.le_of_ble_eq_true rfl) ?_
  refine GW.mmin (pc' := 12) dX1_take_9 rfl zk_X1_18 (Nat.le_of_ble_eq_true rfl) ?_
  refine GW.putI (pc' := 15) dX1_take_12 rfl fp_X1_24 rfl (by decide) rfl rfl ⟨rfl, rfl⟩ ?_
  refine GW.aload_n (pc' := 16) dX1_take_15 rfl rfl ?_
  refine GW.iconst (pc' := 17) (v := 0) dX1_take_16 rfl (by decide) ?_
  refine GW.aload_n (pc' := 18) dX1_take_17 rfl rfl ?_
  refine GW.getR (pc' := 21) (t := 56) dX1_take_18 rfl fk_X1_9 rfl (by decide) rfl rfl ?_
  refine GW.iconst (pc' := 22) (v := 0) dX1_take_21 rfl (by decide) ?_
  refine GW.aload_n (pc' := 23) dX1_take_22 rfl rfl ?_
  refine GW.getI (pc' := 26) dX1_take_23 rfl fk_X1_24 rfl (by decide) rfl rfl ?_
  obtain ⟨b1, h⟩ := h
  refine GW.copyi (pc' := 29) (sp' := 0) (dp' := 0) (n' := ((gmin v2 (gmin 60 60))).toNatClampNeg) dX1_take_26 rfl ak_X1_28 rfl rfl b1 (by decide) (by decide) rfl (Nat.le_of_ble_eq_true rfl) ?_
  refine GW.aload_n (pc' := 30) dX1_take_29 rfl rfl ?_
  refine GW.iconst (pc' := 31) (v := 1) dX1_take_30 rfl (by decide) ?_
  refine GW.putI (pc' := 34) dX1_take_31 rfl fp_X1_34 rfl (by decide) rfl rfl ⟨by decide, by decide⟩ ?_
  refine GW.vret dX1_take_34 rfl ⟨rfl, ?_⟩
  exact h

set_option maxRecDepth 100000 in
set_option maxHeartbeats 4000000 in
theorem wp_X1_value_29 (xs : gX) (d : Nat) (v1 : Int32) (v2 : Int32) (v3 : Int32) (M : Mem) (Q : Int32 → Mem → Prop) (h : GW xs (d + 1) mX1_value 6 [(0, .ref 29), (1, .int v1), (2, .int v2), (3, .int v3), (4, .int 0), (5, .int 0)] [] M (QI Q)) : MI xs (d + 1) mX1_value [.ref 29, .int v1, .int v2, .int v3] M Q := by
  refine MI.intro (lv := [(0, .ref 29), (1, .int v1), (2, .int v2), (3, .int v3)]) mk_X1_value.2.2.2.2 (Nat.le_of_ble_eq_true rfl) rfl ?_
  refine GW.iconst (pc' := 1) (v := 0) dX1_value_0 rfl (by decide) ?_
  refine GW.istore (pc' := 3) (lv' := [(0, .ref 29), (1, .int v1), (2, .int v2), (3, .int v3), (4, .int 0)]) dX1_value_1 rfl rfl (by decide) rfl ?_
  refine GW.iconst (pc' := 4) (v := 0) dX1_value_3 rfl (by decide) ?_
  refine GW.istore (pc' := 6) (lv' := [(0, .ref 29), (1, .int v1), (2, .int v2), (3, .int v3), (4, .int 0), (5, .int 0)]) dX1_value_4 rfl rfl (by decide) rfl ?_
  exact h
set_option maxRecDepth 100000 in
set_option maxHeartbeats 4000000 in
theorem wp_X1_value_29_L6 (xs : gX) (d : Nat) (v1 : Int32) (v2 : Int32) (v3 : Int32) (v4 : Int32) (v5 : Int32) (M : Mem) (Q : Int32 → Mem → Prop) (h : (if v5 < (M.1 29 2) then (vp_in v5 60 ∧ (if (M.1 30 v5.toNatClampNeg) = (-33) then (if 0 < v4 then (vp_in (v4 - 1) 60 ∧ (if (M.1 31 ((v4 - 1)).toNatClampNeg) = 0 then GW xs (d + 1) mX1_value 6 [(0, .ref 29), (1, .int v1), (2, .int v2), (3, .int v3), (4, .int v4), (5, .int (v5 + 1))] [] (mw M 31 ((v4 - 1)).toNatClampNeg 1) (QI Q) else GW xs (d + 1) mX1_value 6 [(0, .ref 29), (1, .int v1), (2, .int v2), (3, .int v3), (4, .int v4), (5, .int (v5 + 1))] [] (mw M 31 ((v4 - 1)).toNatClampNeg 0) (QI Q))) else GW xs (d + 1) mX1_value 6 [(0, .ref 29), (1, .int v1), (2, .int v2), (3, .int v3), (4, .int v4), (5, .int (v5 + 1))] [] M (QI Q)) else (if (M.1 30 v5.toNatClampNeg) < (-3) then (if 1 < v4 then (vp_in ((v4 + (-1)) - 1) 60 ∧ (vp_in (v4 + (-1)) 60 ∧ MI xs d mX1_joined [.int (-(M.1 30 v5.toNatClampNeg)), .int (M.1 31 (((v4 + (-1)) - 1)).toNatClampNeg), .int (M.1 31 ((v4 + (-1))).toNatClampNeg)] M (fun r11 M12 => GW xs (d + 1) mX1_value 6 [(0, .ref 29), (1, .int v1), (2, .int v2), (3, .int v3), (4, .int (v4 + (-1))), (5, .int (v5 + 1))] [] (mw M12 31 (((v4 + (-1)) - 1)).toNatClampNeg r11) (QI Q)))) else GW xs (d + 1) mX1_value 6 [(0, .ref 29), (1, .int v1), (2, .int v2), (3, .int v3), (4, .int v4), (5, .int (v5 + 1))] [] M (QI Q)) else (if v4 < 60 then (if (M.1 30 v5.toNatClampNeg) < 0 then (if (M.1 30 v5.toNatClampNeg) = (-1) then (vp_in v4 60 ∧ GW xs (d + 1) mX1_value 6 [(0, .ref 29), (1, .int v1), (2, .int v2), (3, .int v3), (4, .int (v4 + 1)), (5, .int (v5 + 1))] [] (mw M 31 v4.toNatClampNeg v1) (QI Q)) else (if (M.1 30 v5.toNatClampNeg) = (-2) then (vp_in v4 60 ∧ GW xs (d + 1) mX1_value 6 [(0, .ref 29), (1, .int v1), (2, .int v2), (3, .int v3), (4, .int (v4 + 1)), (5, .int (v5 + 1))] [] (mw M 31 v4.toNatClampNeg v2) (QI Q)) else (vp_in v4 60 ∧ GW xs (d + 1) mX1_value 6 [(0, .ref 29), (1, .int v1), (2, .int v2), (3, .int v3), (4, .int (v4 + 1)), (5, .int (v5 + 1))] [] (mw M 31 v4.toNatClampNeg v3) (QI Q)))) else (vp_in v4 60 ∧ GW xs (d + 1) mX1_value 6 [(0, .ref 29), (1, .int v1), (2, .int v2), (3, .int v3), (4, .int (v4 + 1)), (5, .int (v5 + 1))] [] (mw M 31 v4.toNatClampNeg (M.1 30 v5.toNatClampNeg)) (QI Q))) else GW xs (d + 1) mX1_value 6 [(0, .ref 29), (1, .int v1), (2, .int v2), (3, .int v3), (4, .int v4), (5, .int (v5 + 1))] [] M (QI Q))))) else Q (M.1 31 0) M)) : GW xs (d + 1) mX1_value 6 [(0, .ref 29), (1, .int v1), (2, .int v2), (3, .int v3), (4, .int v4), (5, .int v5)] [] M (QI Q) := by
  refine GW.iload (pc' := 8) dX1_value_6 rfl rfl ?_
  refine GW.aload_n (pc' := 9) dX1_value_8 rfl rfl ?_
  refine GW.getI (pc' := 12) dX1_value_9 rfl fk_X1_24 rfl (by decide) rfl rfl ?_
  refine GW.if_icmpge (pc' := 15) (tgt := 170) dX1_value_12 rfl (by decide) (ite_i (fun c1 => ?_) (fun c1 => ?_))
  · replace h := ite_t h c1
    refine GW.aload_n (pc' := 16) dX1_value_15 rfl rfl ?_
    refine GW.getR (pc' := 19) (t := 30) dX1_value_16 rfl fk_X1_9 rfl (by decide) rfl rfl ?_
    refine GW.iload (pc' := 21) dX1_value_19 rfl rfl ?_
    obtain ⟨b2, h⟩ := h
    refine GW.iaload (pc' := 22) (j := v5.toNatClampNeg) dX1_value_21 rfl rfl b2 rfl ?_
    refine GW.istore (pc' := 24) (lv' := [(0, .ref 29), (1, .int v1), (2, .int v2), (3, .int v3), (4, .int v4), (5, .int v5), (6, .int (M.1 30 v5.toNatClampNeg))]) dX1_value_22 rfl rfl (by decide) rfl ?_
    refine GW.iload (pc' := 26) dX1_value_24 rfl rfl ?_
    refine GW.bipush (pc' := 28) (v := (-33)) dX1_value_26 rfl (by decide) ?_
    refine GW.if_icmpne (pc' := 31) (tgt := 65) dX1_value_28 rfl (by decide) (ite_i (fun c3 => ?_) (fun c3 => ?_))
    · replace h := ite_t h c3
      refine GW.iload (pc' := 33) dX1_value_31 rfl rfl ?_
      refine GW.ifle (pc' := 36) (tgt := 164) dX1_value_33 rfl (by decide) (ite_i (fun c4 => ?_) (fun c4 => ?_))
      · replace h := ite_t h c4
        refine GW.aload_n (pc' := 37) dX1_value_36 rfl rfl ?_
        refine GW.getR (pc' := 40) (t := 31) dX1_value_37 rfl fk_X1_15 rfl (by decide) rfl rfl ?_
        refine GW.iload (pc' := 42) dX1_value_40 rfl rfl ?_
        refine GW.iconst (pc' := 43) (v := 1) dX1_value_42 rfl (by decide) ?_
        refine GW.isub (pc' := 44) dX1_value_43 rfl ?_
        refine GW.aload_n (pc' := 45) dX1_value_44 rfl rfl ?_
        refine GW.getR (pc' := 48) (t := 31) dX1_value_45 rfl fk_X1_15 rfl (by decide) rfl rfl ?_
        refine GW.iload (pc' := 50) dX1_value_48 rfl rfl ?_
        refine GW.iconst (pc' := 51) (v := 1) dX1_value_50 rfl (by decide) ?_
        refine GW.isub (pc' := 52) dX1_value_51 rfl ?_
        obtain ⟨b5, h⟩ := h
        refine GW.iaload (pc' := 53) (j := ((v4 - 1)).toNatClampNeg) dX1_value_52 rfl rfl b5 rfl ?_
        refine GW.ifne (pc' := 56) (tgt := 60) dX1_value_53 rfl (by decide) (ite_i (fun c6 => ?_) (fun c6 => ?_))
        · replace h := ite_t h c6
          refine GW.iconst (pc' := 57) (v := 1) dX1_value_56 rfl (by decide) ?_
          refine GW.goto (tgt := 61) dX1_value_57 (by decide) ?_
          refine GW.iastore (pc' := 62) (j := ((v4 - 1)).toNatClampNeg) dX1_value_61 rfl rfl b5 rfl ?_
          refine GW.goto (tgt := 164) dX1_value_62 (by decide) ?_
          refine GW.iinc (pc' := 167) (lv' := [(0, .ref 29), (1, .int v1), (2, .int v2), (3, .int v3), (4, .int v4), (5, .int (v5 + 1)), (6, .int (M.1 30 v5.toNatClampNeg))]) (v := (v5 + 1)) dX1_value_164 rfl rfl (by decide) rfl rfl rfl ?_
          refine GW.goto (tgt := 6) dX1_value_167 (by decide) ?_
          refine GW.sub (lv' := [(0, .ref 29), (1, .int v1), (2, .int v2), (3, .int v3), (4, .int v4), (5, .int (v5 + 1))]) [0, 1, 2, 3, 4, 5] rfl ?_
          exact h
        · replace h := ite_f h c6
          refine GW.iconst (pc' := 61) (v := 0) dX1_value_60 rfl (by decide) ?_
          refine GW.iastore (pc' := 62) (j := ((v4 - 1)).toNatClampNeg) dX1_value_61 rfl rfl b5 rfl ?_
          refine GW.goto (tgt := 164) dX1_value_62 (by decide) ?_
          refine GW.iinc (pc' := 167) (lv' := [(0, .ref 29), (1, .int v1), (2, .int v2), (3, .int v3), (4, .int v4), (5, .int (v5 + 1)), (6, .int (M.1 30 v5.toNatClampNeg))]) (v := (v5 + 1)) dX1_value_164 rfl rfl (by decide) rfl rfl rfl ?_
          refine GW.goto (tgt := 6) dX1_value_167 (by decide) ?_
          refine GW.sub (lv' := [(0, .ref 29), (1, .int v1), (2, .int v2), (3, .int v3), (4, .int v4), (5, .int (v5 + 1))]) [0, 1, 2, 3, 4, 5] rfl ?_
          exact h
      · replace h := ite_f h c4
        refine GW.iinc (pc' := 167) (lv' := [(0, .ref 29), (1, .int v1), (2, .int v2), (3, .int v3), (4, .int v4), (5, .int (v5 + 1)), (6, .int (M.1 30 v5.toNatClampNeg))]) (v := (v5 + 1)) dX1_value_164 rfl rfl (by decide) rfl rfl rfl ?_
        refine GW.goto (tgt := 6) dX1_value_167 (by decide) ?_
        refine GW.sub (lv' := [(0, .ref 29), (1, .int v1), (2, .int v2), (3, .int v3), (4, .int v4), (5, .int (v5 + 1))]) [0, 1, 2, 3, 4, 5] rfl ?_
        exact h
    · replace h := ite_f h c3
      refine GW.iload (pc' := 67) dX1_value_65 rfl rfl ?_
      refine GW.bipush (pc' := 69) (v := (-3)) dX1_value_67 rfl (by decide) ?_
      refine GW.if_icmpge (pc' := 72) (tgt := 115) dX1_value_69 rfl (by decide) (ite_i (fun c7 => ?_) (fun c7 => ?_))
      · replace h := ite_t h c7
        refine GW.iload (pc' := 74) dX1_value_72 rfl rfl ?_
        refine GW.iconst (pc' := 75) (v := 1) dX1_value_74 rfl (by decide) ?_
        refine GW.if_icmple (pc' := 78) (tgt := 164) dX1_value_75 rfl (by decide) (ite_i (fun c8 => ?_) (fun c8 => ?_))
        · replace h := ite_t h c8
          refine GW.iinc (pc' := 81) (lv' := [(0, .ref 29), (1, .int v1), (2, .int v2), (3, .int v3), (4, .int (v4 + (-1))), (5, .int v5), (6, .int (M.1 30 v5.toNatClampNeg))]) (v := (v4 + (-1))) dX1_value_78 rfl rfl (by decide) rfl rfl rfl ?_
          refine GW.aload_n (pc' := 82) dX1_value_81 rfl rfl ?_
          refine GW.getR (pc' := 85) (t := 31) dX1_value_82 rfl fk_X1_15 rfl (by decide) rfl rfl ?_
          refine GW.iload (pc' := 87) dX1_value_85 rfl rfl ?_
          refine GW.iconst (pc' := 88) (v := 1) dX1_value_87 rfl (by decide) ?_
          refine GW.isub (pc' := 89) dX1_value_88 rfl ?_
          refine GW.iload (pc' := 91) dX1_value_89 rfl rfl ?_
          refine GW.ineg (pc' := 92) dX1_value_91 rfl ?_
          refine GW.aload_n (pc' := 93) dX1_value_92 rfl rfl ?_
          refine GW.getR (pc' := 96) (t := 31) dX1_value_93 rfl fk_X1_15 rfl (by decide) rfl rfl ?_
          refine GW.iload (pc' := 98) dX1_value_96 rfl rfl ?_
          refine GW.iconst (pc' := 99) (v := 1) dX1_value_98 rfl (by decide) ?_
          refine GW.isub (pc' := 100) dX1_value_99 rfl ?_
          obtain ⟨b9, h⟩ := h
          refine GW.iaload (pc' := 101) (j := (((v4 + (-1)) - 1)).toNatClampNeg) dX1_value_100 rfl rfl b9 rfl ?_
          refine GW.aload_n (pc' := 102) dX1_value_101 rfl rfl ?_
          refine GW.getR (pc' := 105) (t := 31) dX1_value_102 rfl fk_X1_15 rfl (by decide) rfl rfl ?_
          refine GW.iload (pc' := 107) dX1_value_105 rfl rfl ?_
          obtain ⟨b10, h⟩ := h
          refine GW.iaload (pc' := 108) (j := ((v4 + (-1))).toNatClampNeg) dX1_value_107 rfl rfl b10 rfl ?_
          refine GW.callS (pc' := 111) (av := [.int (-(M.1 30 v5.toNatClampNeg)), .int (M.1 31 (((v4 + (-1)) - 1)).toNatClampNeg), .int (M.1 31 ((v4 + (-1))).toNatClampNeg)]) (rest := [.int ((v4 + (-1)) - 1), .ref 31]) dX1_value_108 rfl mk_X1_joined lk_X1_38 sk_X1_joined rfl rfl (Nat.le_of_ble_eq_true rfl) (bk_i (MI.mono h (fun r11 M12 h => ?_)))
          refine GW.iastore (pc' := 112) (j := (((v4 + (-1)) - 1)).toNatClampNeg) dX1_value_111 rfl rfl b9 rfl ?_
          refine GW.goto (tgt := 164) dX1_value_112 (by decide) ?_
          refine GW.iinc (pc' := 167) (lv' := [(0, .ref 29), (1, .int v1), (2, .int v2), (3, .int v3), (4, .int (v4 + (-1))), (5, .int (v5 + 1)), (6, .int (M.1 30 v5.toNatClampNeg))]) (v := (v5 + 1)) dX1_value_164 rfl rfl (by decide) rfl rfl rfl ?_
          refine GW.goto (tgt := 6) dX1_value_167 (by decide) ?_
          refine GW.sub (lv' := [(0, .ref 29), (1, .int v1), (2, .int v2), (3, .int v3), (4, .int (v4 + (-1))), (5, .int (v5 + 1))]) [0, 1, 2, 3, 4, 5] rfl ?_
          exact h
        · replace h := ite_f h c8
          refine GW.iinc (pc' := 167) (lv' := [(0, .ref 29), (1, .int v1), (2, .int v2), (3, .int v3), (4, .int v4), (5, .int (v5 + 1)), (6, .int (M.1 30 v5.toNatClampNeg))]) (v := (v5 + 1)) dX1_value_164 rfl rfl (by decide) rfl rfl rfl ?_
          refine GW.goto (tgt := 6) dX1_value_167 (by decide) ?_
          refine GW.sub (lv' := [(0, .ref 29), (1, .int v1), (2, .int v2), (3, .int v3), (4, .int v4), (5, .int (v5 + 1))]) [0, 1, 2, 3, 4, 5] rfl ?_
          exact h
      · replace h := ite_f h c7
        refine GW.iload (pc' := 117) dX1_value_115 rfl rfl ?_
        refine GW.bipush (pc' := 119) (v := 60) dX1_value_117 rfl (by decide) ?_
        refine GW.if_icmpge (pc' := 122) (tgt := 164) dX1_value_119 rfl (by decide) (ite_i (fun c13 => ?_) (fun c13 => ?_))
        · replace h := ite_t h c13
          refine GW.aload_n (pc' := 123) dX1_value_122 rfl rfl ?_
          refine GW.getR (pc' := 126) (t := 31) dX1_value_123 rfl fk_X1_15 rfl (by decide) rfl rfl ?_
          refine GW.iload (pc' := 128) dX1_value_126 rfl rfl ?_
          refine GW.iload (pc' := 130) dX1_value_128 rfl rfl ?_
          refine GW.iflt (pc' := 133) (tgt := 138) dX1_value_130 rfl (by decide) (ite_i (fun c14 => ?_) (fun c14 => ?_))
          · replace h := ite_t h c14
            refine GW.iload (pc' := 140) dX1_value_138 rfl rfl ?_
            refine GW.iconst (pc' := 141) (v := (-1)) dX1_value_140 rfl (by decide) ?_
            refine GW.if_icmpne (pc' := 144) (tgt := 148) dX1_value_141 rfl (by decide) (ite_i (fun c15 => ?_) (fun c15 => ?_))
            · replace h := ite_t h c15
              refine GW.iload_n (pc' := 145) dX1_value_144 rfl rfl ?_
              refine GW.goto (tgt := 160) dX1_value_145 (by decide) ?_
              obtain ⟨b16, h⟩ := h
              refine GW.iastore (pc' := 161) (j := v4.toNatClampNeg) dX1_value_160 rfl rfl b16 rfl ?_
              refine GW.iinc (pc' := 164) (lv' := [(0, .ref 29), (1, .int v1), (2, .int v2), (3, .int v3), (4, .int (v4 + 1)), (5, .int v5), (6, .int (M.1 30 v5.toNatClampNeg))]) (v := (v4 + 1)) dX1_value_161 rfl rfl (by decide) rfl rfl rfl ?_
              refine GW.iinc (pc' := 167) (lv' := [(0, .ref 29), (1, .int v1), (2, .int v2), (3, .int v3), (4, .int (v4 + 1)), (5, .int (v5 + 1)), (6, .int (M.1 30 v5.toNatClampNeg))]) (v := (v5 + 1)) dX1_value_164 rfl rfl (by decide) rfl rfl rfl ?_
              refine GW.goto (tgt := 6) dX1_value_167 (by decide) ?_
              refine GW.sub (lv' := [(0, .ref 29), (1, .int v1), (2, .int v2), (3, .int v3), (4, .int (v4 + 1)), (5, .int (v5 + 1))]) [0, 1, 2, 3, 4, 5] rfl ?_
              exact h
            · replace h := ite_f h c15
              refine GW.iload (pc' := 150) dX1_value_148 rfl rfl ?_
              refine GW.bipush (pc' := 152) (v := (-2)) dX1_value_150 rfl (by decide) ?_
              refine GW.if_icmpne (pc' := 155) (tgt := 159) dX1_value_152 rfl (by decide) (ite_i (fun c17 => ?_) (fun c17 => ?_))
              · replace h := ite_t h c17
                refine GW.iload_n (pc' := 156) dX1_value_155 rfl rfl ?_
                refine GW.goto (tgt := 160) dX1_value_156 (by decide) ?_
                obtain ⟨b18, h⟩ := h
                refine GW.iastore (pc' := 161) (j := v4.toNatClampNeg) dX1_value_160 rfl rfl b18 rfl ?_
                refine GW.iinc (pc' := 164) (lv' := [(0, .ref 29), (1, .int v1), (2, .int v2), (3, .int v3), (4, .int (v4 + 1)), (5, .int v5), (6, .int (M.1 30 v5.toNatClampNeg))]) (v := (v4 + 1)) dX1_value_161 rfl rfl (by decide) rfl rfl rfl ?_
                refine GW.iinc (pc' := 167) (lv' := [(0, .ref 29), (1, .int v1), (2, .int v2), (3, .int v3), (4, .int (v4 + 1)), (5, .int (v5 + 1)), (6, .int (M.1 30 v5.toNatClampNeg))]) (v := (v5 + 1)) dX1_value_164 rfl rfl (by decide) rfl rfl rfl ?_
                refine GW.goto (tgt := 6) dX1_value_167 (by decide) ?_
                refine GW.sub (lv' := [(0, .ref 29), (1, .int v1), (2, .int v2), (3, .int v3), (4, .int (v4 + 1)), (5, .int (v5 + 1))]) [0, 1, 2, 3, 4, 5] rfl ?_
                exact h
              · replace h := ite_f h c17
                refine GW.iload_n (pc' := 160) dX1_value_159 rfl rfl ?_
                obtain ⟨b19, h⟩ := h
                refine GW.iastore (pc' := 161) (j := v4.toNatClampNeg) dX1_value_160 rfl rfl b19 rfl ?_
                refine GW.iinc (pc' := 164) (lv' := [(0, .ref 29), (1, .int v1), (2, .int v2), (3, .int v3), (4, .int (v4 + 1)), (5, .int v5), (6, .int (M.1 30 v5.toNatClampNeg))]) (v := (v4 + 1)) dX1_value_161 rfl rfl (by decide) rfl rfl rfl ?_
                refine GW.iinc (pc' := 167) (lv' := [(0, .ref 29), (1, .int v1), (2, .int v2), (3, .int v3), (4, .int (v4 + 1)), (5, .int (v5 + 1)), (6, .int (M.1 30 v5.toNatClampNeg))]) (v := (v5 + 1)) dX1_value_164 rfl rfl (by decide) rfl rfl rfl ?_
                refine GW.goto (tgt := 6) dX1_value_167 (by decide) ?_
                refine GW.sub (lv' := [(0, .ref 29), (1, .int v1), (2, .int v2), (3, .int v3), (4, .int (v4 + 1)), (5, .int (v5 + 1))]) [0, 1, 2, 3, 4, 5] rfl ?_
                exact h
          · replace h := ite_f h c14
            refine GW.iload (pc' := 135) dX1_value_133 rfl rfl ?_
            refine GW.goto (tgt := 160) dX1_value_135 (by decide) ?_
            obtain ⟨b20, h⟩ := h
            refine GW.iastore (pc' := 161) (j := v4.toNatClampNeg) dX1_value_160 rfl rfl b20 rfl ?_
            refine GW.iinc (pc' := 164) (lv' := [(0, .ref 29), (1, .int v1), (2, .int v2), (3, .int v3), (4, .int (v4 + 1)), (5, .int v5), (6, .int (M.1 30 v5.toNatClampNeg))]) (v := (v4 + 1)) dX1_value_161 rfl rfl (by decide) rfl rfl rfl ?_
            refine GW.iinc (pc' := 167) (lv' := [(0, .ref 29), (1, .int v1), (2, .int v2), (3, .int v3), (4, .int (v4 + 1)), (5, .int (v5 + 1)), (6, .int (M.1 30 v5.toNatClampNeg))]) (v := (v5 + 1)) dX1_value_164 rfl rfl (by decide) rfl rfl rfl ?_
            refine GW.goto (tgt := 6) dX1_value_167 (by decide) ?_
            refine GW.sub (lv' := [(0, .ref 29), (1, .int v1), (2, .int v2), (3, .int v3), (4, .int (v4 + 1)), (5, .int (v5 + 1))]) [0, 1, 2, 3, 4, 5] rfl ?_
            exact h
        · replace h := ite_f h c13
          refine GW.iinc (pc' := 167) (lv' := [(0, .ref 29), (1, .int v1), (2, .int v2), (3, .int v3), (4, .int v4), (5, .int (v5 + 1)), (6, .int (M.1 30 v5.toNatClampNeg))]) (v := (v5 + 1)) dX1_value_164 rfl rfl (by decide) rfl rfl rfl ?_
          refine GW.goto (tgt := 6) dX1_value_167 (by decide) ?_
          refine GW.sub (lv' := [(0, .ref 29), (1, .int v1), (2, .int v2), (3, .int v3), (4, .int v4), (5, .int (v5 + 1))]) [0, 1, 2, 3, 4, 5] rfl ?_
          exact h
  · replace h := ite_f h c1
    refine GW.aload_n (pc' := 171) dX1_value_170 rfl rfl ?_
    refine GW.getR (pc' := 174) (t := 31) dX1_value_171 rfl fk_X1_15 rfl (by decide) rfl rfl ?_
    refine GW.iconst (pc' := 175) (v := 0) dX1_value_174 rfl (by decide) ?_
    refine GW.iaload (pc' := 176) (j := 0) dX1_value_175 rfl rfl (vin (by decide)) (by decide) ?_
    refine GW.iret dX1_value_176 rfl ⟨_, rfl, ?_⟩
    exact h

set_option maxRecDepth 100000 in
set_option maxHeartbeats 4000000 in
theorem wp_X1_value_32 (xs : gX) (d : Nat) (v1 : Int32) (v2 : Int32) (v3 : Int32) (M : Mem) (Q : Int32 → Mem → Prop) (h : GW xs (d + 1) mX1_value 6 [(0, .ref 32), (1, .int v1), (2, .int v2), (3, .int v3), (4, .int 0), (5, .int 0)] [] M (QI Q)) : MI xs (d + 1) mX1_value [.ref 32, .int v1, .int v2, .int v3] M Q := by
  refine MI.intro (lv := [(0, .ref 32), (1, .int v1), (2, .int v2), (3, .int v3)]) mk_X1_value.2.2.2.2 (Nat.le_of_ble_eq_true rfl) rfl ?_
  refine GW.iconst (pc' := 1) (v := 0) dX1_value_0 rfl (by decide) ?_
  refine GW.istore (pc' := 3) (lv' := [(0, .ref 32), (1, .int v1), (2, .int v2), (3, .int v3), (4, .int 0)]) dX1_value_1 rfl rfl (by decide) rfl ?_
  refine GW.iconst (pc' := 4) (v := 0) dX1_value_3 rfl (by decide) ?_
  refine GW.istore (pc' := 6) (lv' := [(0, .ref 32), (1, .int v1), (2, .int v2), (3, .int v3), (4, .int 0), (5, .int 0)]) dX1_value_4 rfl rfl (by decide) rfl ?_
  exact h
set_option maxRecDepth 100000 in
set_option maxHeartbeats 4000000 in
theorem wp_X1_value_32_L6 (xs : gX) (d : Nat) (v1 : Int32) (v2 : Int32) (v3 : Int32) (v4 : Int32) (v5 : Int32) (M : Mem) (Q : Int32 → Mem → Prop) (h : (if v5 < (M.1 32 2) then (vp_in v5 60 ∧ (if (M.1 33 v5.toNatClampNeg) = (-33) then (if 0 < v4 then (vp_in (v4 - 1) 60 ∧ (if (M.1 34 ((v4 - 1)).toNatClampNeg) = 0 then GW xs (d + 1) mX1_value 6 [(0, .ref 32), (1, .int v1), (2, .int v2), (3, .int v3), (4, .int v4), (5, .int (v5 + 1))] [] (mw M 34 ((v4 - 1)).toNatClampNeg 1) (QI Q) else GW xs (d + 1) mX1_value 6 [(0, .ref 32), (1, .int v1), (2, .int v2), (3, .int v3), (4, .int v4), (5, .int (v5 + 1))] [] (mw M 34 ((v4 - 1)).toNatClampNeg 0) (QI Q))) else GW xs (d + 1) mX1_value 6 [(0, .ref 32), (1, .int v1), (2, .int v2), (3, .int v3), (4, .int v4), (5, .int (v5 + 1))] [] M (QI Q)) else (if (M.1 33 v5.toNatClampNeg) < (-3) then (if 1 < v4 then (vp_in ((v4 + (-1)) - 1) 60 ∧ (vp_in (v4 + (-1)) 60 ∧ MI xs d mX1_joined [.int (-(M.1 33 v5.toNatClampNeg)), .int (M.1 34 (((v4 + (-1)) - 1)).toNatClampNeg), .int (M.1 34 ((v4 + (-1))).toNatClampNeg)] M (fun r11 M12 => GW xs (d + 1) mX1_value 6 [(0, .ref 32), (1, .int v1), (2, .int v2), (3, .int v3), (4, .int (v4 + (-1))), (5, .int (v5 + 1))] [] (mw M12 34 (((v4 + (-1)) - 1)).toNatClampNeg r11) (QI Q)))) else GW xs (d + 1) mX1_value 6 [(0, .ref 32), (1, .int v1), (2, .int v2), (3, .int v3), (4, .int v4), (5, .int (v5 + 1))] [] M (QI Q)) else (if v4 < 60 then (if (M.1 33 v5.toNatClampNeg) < 0 then (if (M.1 33 v5.toNatClampNeg) = (-1) then (vp_in v4 60 ∧ GW xs (d + 1) mX1_value 6 [(0, .ref 32), (1, .int v1), (2, .int v2), (3, .int v3), (4, .int (v4 + 1)), (5, .int (v5 + 1))] [] (mw M 34 v4.toNatClampNeg v1) (QI Q)) else (if (M.1 33 v5.toNatClampNeg) = (-2) then (vp_in v4 60 ∧ GW xs (d + 1) mX1_value 6 [(0, .ref 32), (1, .int v1), (2, .int v2), (3, .int v3), (4, .int (v4 + 1)), (5, .int (v5 + 1))] [] (mw M 34 v4.toNatClampNeg v2) (QI Q)) else (vp_in v4 60 ∧ GW xs (d + 1) mX1_value 6 [(0, .ref 32), (1, .int v1), (2, .int v2), (3, .int v3), (4, .int (v4 + 1)), (5, .int (v5 + 1))] [] (mw M 34 v4.toNatClampNeg v3) (QI Q)))) else (vp_in v4 60 ∧ GW xs (d + 1) mX1_value 6 [(0, .ref 32), (1, .int v1), (2, .int v2), (3, .int v3), (4, .int (v4 + 1)), (5, .int (v5 + 1))] [] (mw M 34 v4.toNatClampNeg (M.1 33 v5.toNatClampNeg)) (QI Q))) else GW xs (d + 1) mX1_value 6 [(0, .ref 32), (1, .int v1), (2, .int v2), (3, .int v3), (4, .int v4), (5, .int (v5 + 1))] [] M (QI Q))))) else Q (M.1 34 0) M)) : GW xs (d + 1) mX1_value 6 [(0, .ref 32), (1, .int v1), (2, .int v2), (3, .int v3), (4, .int v4), (5, .int v5)] [] M (QI Q) := by
  refine GW.iload (pc' := 8) dX1_value_6 rfl rfl ?_
  refine GW.aload_n (pc' := 9) dX1_value_8 rfl rfl ?_
  refine GW.getI (pc' := 12) dX1_value_9 rfl fk_X1_24 rfl (by decide) rfl rfl ?_
  refine GW.if_icmpge (pc' := 15) (tgt := 170) dX1_value_12 rfl (by decide) (ite_i (fun c1 => ?_) (fun c1 => ?_))
  · replace h := ite_t h c1
    refine GW.aload_n (pc' := 16) dX1_value_15 rfl rfl ?_
    refine GW.getR (pc' := 19) (t := 33) dX1_value_16 rfl fk_X1_9 rfl (by decide) rfl rfl ?_
    refine GW.iload (pc' := 21) dX1_value_19 rfl rfl ?_
    obtain ⟨b2, h⟩ := h
    refine GW.iaload (pc' := 22) (j := v5.toNatClampNeg) dX1_value_21 rfl rfl b2 rfl ?_
    refine GW.istore (pc' := 24) (lv' := [(0, .ref 32), (1, .int v1), (2, .int v2), (3, .int v3), (4, .int v4), (5, .int v5), (6, .int (M.1 33 v5.toNatClampNeg))]) dX1_value_22 rfl rfl (by decide) rfl ?_
    refine GW.iload (pc' := 26) dX1_value_24 rfl rfl ?_
    refine GW.bipush (pc' := 28) (v := (-33)) dX1_value_26 rfl (by decide) ?_
    refine GW.if_icmpne (pc' := 31) (tgt := 65) dX1_value_28 rfl (by decide) (ite_i (fun c3 => ?_) (fun c3 => ?_))
    · replace h := ite_t h c3
      refine GW.iload (pc' := 33) dX1_value_31 rfl rfl ?_
      refine GW.ifle (pc' := 36) (tgt := 164) dX1_value_33 rfl (by decide) (ite_i (fun c4 => ?_) (fun c4 => ?_))
      · replace h := ite_t h c4
        refine GW.aload_n (pc' := 37) dX1_value_36 rfl rfl ?_
        refine GW.getR (pc' := 40) (t := 34) dX1_value_37 rfl fk_X1_15 rfl (by decide) rfl rfl ?_
        refine GW.iload (pc' := 42) dX1_value_40 rfl rfl ?_
        refine GW.iconst (pc' := 43) (v := 1) dX1_value_42 rfl (by decide) ?_
        refine GW.isub (pc' := 44) dX1_value_43 rfl ?_
        refine GW.aload_n (pc' := 45) dX1_value_44 rfl rfl ?_
        refine GW.getR (pc' := 48) (t := 34) dX1_value_45 rfl fk_X1_15 rfl (by decide) rfl rfl ?_
        refine GW.iload (pc' := 50) dX1_value_48 rfl rfl ?_
        refine GW.iconst (pc' := 51) (v := 1) dX1_value_50 rfl (by decide) ?_
        refine GW.isub (pc' := 52) dX1_value_51 rfl ?_
        obtain ⟨b5, h⟩ := h
        refine GW.iaload (pc' := 53) (j := ((v4 - 1)).toNatClampNeg) dX1_value_52 rfl rfl b5 rfl ?_
        refine GW.ifne (pc' := 56) (tgt := 60) dX1_value_53 rfl (by decide) (ite_i (fun c6 => ?_) (fun c6 => ?_))
        · replace h := ite_t h c6
          refine GW.iconst (pc' := 57) (v := 1) dX1_value_56 rfl (by decide) ?_
          refine GW.goto (tgt := 61) dX1_value_57 (by decide) ?_
          refine GW.iastore (pc' := 62) (j := ((v4 - 1)).toNatClampNeg) dX1_value_61 rfl rfl b5 rfl ?_
          refine GW.goto (tgt := 164) dX1_value_62 (by decide) ?_
          refine GW.iinc (pc' := 167) (lv' := [(0, .ref 32), (1, .int v1), (2, .int v2), (3, .int v3), (4, .int v4), (5, .int (v5 + 1)), (6, .int (M.1 33 v5.toNatClampNeg))]) (v := (v5 + 1)) dX1_value_164 rfl rfl (by decide) rfl rfl rfl ?_
          refine GW.goto (tgt := 6) dX1_value_167 (by decide) ?_
          refine GW.sub (lv' := [(0, .ref 32), (1, .int v1), (2, .int v2), (3, .int v3), (4, .int v4), (5, .int (v5 + 1))]) [0, 1, 2, 3, 4, 5] rfl ?_
          exact h
        · replace h := ite_f h c6
          refine GW.iconst (pc' := 61) (v := 0) dX1_value_60 rfl (by decide) ?_
          refine GW.iastore (pc' := 62) (j := ((v4 - 1)).toNatClampNeg) dX1_value_61 rfl rfl b5 rfl ?_
          refine GW.goto (tgt := 164) dX1_value_62 (by decide) ?_
          refine GW.iinc (pc' := 167) (lv' := [(0, .ref 32), (1, .int v1), (2, .int v2), (3, .int v3), (4, .int v4), (5, .int (v5 + 1)), (6, .int (M.1 33 v5.toNatClampNeg))]) (v := (v5 + 1)) dX1_value_164 rfl rfl (by decide) rfl rfl rfl ?_
          refine GW.goto (tgt := 6) dX1_value_167 (by decide) ?_
          refine GW.sub (lv' := [(0, .ref 32), (1, .int v1), (2, .int v2), (3, .int v3), (4, .int v4), (5, .int (v5 + 1))]) [0, 1, 2, 3, 4, 5] rfl ?_
          exact h
      · replace h := ite_f h c4
        refine GW.iinc (pc' := 167) (lv' := [(0, .ref 32), (1, .int v1), (2, .int v2), (3, .int v3), (4, .int v4), (5, .int (v5 + 1)), (6, .int (M.1 33 v5.toNatClampNeg))]) (v := (v5 + 1)) dX1_value_164 rfl rfl (by decide) rfl rfl rfl ?_
        refine GW.goto (tgt := 6) dX1_value_167 (by decide) ?_
        refine GW.sub (lv' := [(0, .ref 32), (1, .int v1), (2, .int v2), (3, .int v3), (4, .int v4), (5, .int (v5 + 1))]) [0, 1, 2, 3, 4, 5] rfl ?_
        exact h
    · replace h := ite_f h c3
      refine GW.iload (pc' := 67) dX1_value_65 rfl rfl ?_
      refine GW.bipush (pc' := 69) (v := (-3)) dX1_value_67 rfl (by decide) ?_
      refine GW.if_icmpge (pc' := 72) (tgt := 115) dX1_value_69 rfl (by decide) (ite_i (fun c7 => ?_) (fun c7 => ?_))
      · replace h := ite_t h c7
        refine GW.iload (pc' := 74) dX1_value_72 rfl rfl ?_
        refine GW.iconst (pc' := 75) (v := 1) dX1_value_74 rfl (by decide) ?_
        refine GW.if_icmple (pc' := 78) (tgt := 164) dX1_value_75 rfl (by decide) (ite_i (fun c8 => ?_) (fun c8 => ?_))
        · replace h := ite_t h c8
          refine GW.iinc (pc' := 81) (lv' := [(0, .ref 32), (1, .int v1), (2, .int v2), (3, .int v3), (4, .int (v4 + (-1))), (5, .int v5), (6, .int (M.1 33 v5.toNatClampNeg))]) (v := (v4 + (-1))) dX1_value_78 rfl rfl (by decide) rfl rfl rfl ?_
          refine GW.aload_n (pc' := 82) dX1_value_81 rfl rfl ?_
          refine GW.getR (pc' := 85) (t := 34) dX1_value_82 rfl fk_X1_15 rfl (by decide) rfl rfl ?_
          refine GW.iload (pc' := 87) dX1_value_85 rfl rfl ?_
          refine GW.iconst (pc' := 88) (v := 1) dX1_value_87 rfl (by decide) ?_
          refine GW.isub (pc' := 89) dX1_value_88 rfl ?_
          refine GW.iload (pc' := 91) dX1_value_89 rfl rfl ?_
          refine GW.ineg (pc' := 92) dX1_value_91 rfl ?_
          refine GW.aload_n (pc' := 93) dX1_value_92 rfl rfl ?_
          refine GW.getR (pc' := 96) (t := 34) dX1_value_93 rfl fk_X1_15 rfl (by decide) rfl rfl ?_
          refine GW.iload (pc' := 98) dX1_value_96 rfl rfl ?_
          refine GW.iconst (pc' := 99) (v := 1) dX1_value_98 rfl (by decide) ?_
          refine GW.isub (pc' := 100) dX1_value_99 rfl ?_
          obtain ⟨b9, h⟩ := h
          refine GW.iaload (pc' := 101) (j := (((v4 + (-1)) - 1)).toNatClampNeg) dX1_value_100 rfl rfl b9 rfl ?_
          refine GW.aload_n (pc' := 102) dX1_value_101 rfl rfl ?_
          refine GW.getR (pc' := 105) (t := 34) dX1_value_102 rfl fk_X1_15 rfl (by decide) rfl rfl ?_
          refine GW.iload (pc' := 107) dX1_value_105 rfl rfl ?_
          obtain ⟨b10, h⟩ := h
          refine GW.iaload (pc' := 108) (j := ((v4 + (-1))).toNatClampNeg) dX1_value_107 rfl rfl b10 rfl ?_
          refine GW.callS (pc' := 111) (av := [.int (-(M.1 33 v5.toNatClampNeg)), .int (M.1 34 (((v4 + (-1)) - 1)).toNatClampNeg), .int (M.1 34 ((v4 + (-1))).toNatClampNeg)]) (rest := [.int ((v4 + (-1)) - 1), .ref 34]) dX1_value_108 rfl mk_X1_joined lk_X1_38 sk_X1_joined rfl rfl (Nat.le_of_ble_eq_true rfl) (bk_i (MI.mono h (fun r11 M12 h => ?_)))
          refine GW.iastore (pc' := 112) (j := (((v4 + (-1)) - 1)).toNatClampNeg) dX1_value_111 rfl rfl b9 rfl ?_
          refine GW.goto (tgt := 164) dX1_value_112 (by decide) ?_
          refine GW.iinc (pc' := 167) (lv' := [(0, .ref 32), (1, .int v1), (2, .int v2), (3, .int v3), (4, .int (v4 + (-1))), (5, .int (v5 + 1)), (6, .int (M.1 33 v5.toNatClampNeg))]) (v := (v5 + 1)) dX1_value_164 rfl rfl (by decide) rfl rfl rfl ?_
          refine GW.goto (tgt := 6) dX1_value_167 (by decide) ?_
          refine GW.sub (lv' := [(0, .ref 32), (1, .int v1), (2, .int v2), (3, .int v3), (4, .int (v4 + (-1))), (5, .int (v5 + 1))]) [0, 1, 2, 3, 4, 5] rfl ?_
          exact h
        · replace h := ite_f h c8
          refine GW.iinc (pc' := 167) (lv' := [(0, .ref 32), (1, .int v1), (2, .int v2), (3, .int v3), (4, .int v4), (5, .int (v5 + 1)), (6, .int (M.1 33 v5.toNatClampNeg))]) (v := (v5 + 1)) dX1_value_164 rfl rfl (by decide) rfl rfl rfl ?_
          refine GW.goto (tgt := 6) dX1_value_167 (by decide) ?_
          refine GW.sub (lv' := [(0, .ref 32), (1, .int v1), (2, .int v2), (3, .int v3), (4, .int v4), (5, .int (v5 + 1))]) [0, 1, 2, 3, 4, 5] rfl ?_
          exact h
      · replace h := ite_f h c7
        refine GW.iload (pc' := 117) dX1_value_115 rfl rfl ?_
        refine GW.bipush (pc' := 119) (v := 60) dX1_value_117 rfl (by decide) ?_
        refine GW.if_icmpge (pc' := 122) (tgt := 164) dX1_value_119 rfl (by decide) (ite_i (fun c13 => ?_) (fun c13 => ?_))
        · replace h := ite_t h c13
          refine GW.aload_n (pc' := 123) dX1_value_122 rfl rfl ?_
          refine GW.getR (pc' := 126) (t := 34) dX1_value_123 rfl fk_X1_15 rfl (by decide) rfl rfl ?_
          refine GW.iload (pc' := 128) dX1_value_126 rfl rfl ?_
          refine GW.iload (pc' := 130) dX1_value_128 rfl rfl ?_
          refine GW.iflt (pc' := 133) (tgt := 138) dX1_value_130 rfl (by decide) (ite_i (fun c14 => ?_) (fun c14 => ?_))
          · replace h := ite_t h c14
            refine GW.iload (pc' := 140) dX1_value_138 rfl rfl ?_
            refine GW.iconst (pc' := 141) (v := (-1)) dX1_value_140 rfl (by decide) ?_
            refine GW.if_icmpne (pc' := 144) (tgt := 148) dX1_value_141 rfl (by decide) (ite_i (fun c15 => ?_) (fun c15 => ?_))
            · replace h := ite_t h c15
              refine GW.iload_n (pc' := 145) dX1_value_144 rfl rfl ?_
              refine GW.goto (tgt := 160) dX1_value_145 (by decide) ?_
              obtain ⟨b16, h⟩ := h
              refine GW.iastore (pc' := 161) (j := v4.toNatClampNeg) dX1_value_160 rfl rfl b16 rfl ?_
              refine GW.iinc (pc' := 164) (lv' := [(0, .ref 32), (1, .int v1), (2, .int v2), (3, .int v3), (4, .int (v4 + 1)), (5, .int v5), (6, .int (M.1 33 v5.toNatClampNeg))]) (v := (v4 + 1)) dX1_value_161 rfl rfl (by decide) rfl rfl rfl ?_
              refine GW.iinc (pc' := 167) (lv' := [(0, .ref 32), (1, .int v1), (2, .int v2), (3, .int v3), (4, .int (v4 + 1)), (5, .int (v5 + 1)), (6, .int (M.1 33 v5.toNatClampNeg))]) (v := (v5 + 1)) dX1_value_164 rfl rfl (by decide) rfl rfl rfl ?_
              refine GW.goto (tgt := 6) dX1_value_167 (by decide) ?_
              refine GW.sub (lv' := [(0, .ref 32), (1, .int v1), (2, .int v2), (3, .int v3), (4, .int (v4 + 1)), (5, .int (v5 + 1))]) [0, 1, 2, 3, 4, 5] rfl ?_
              exact h
            · replace h := ite_f h c15
              refine GW.iload (pc' := 150) dX1_value_148 rfl rfl ?_
              refine GW.bipush (pc' := 152) (v := (-2)) dX1_value_150 rfl (by decide) ?_
              refine GW.if_icmpne (pc' := 155) (tgt := 159) dX1_value_152 rfl (by decide) (ite_i (fun c17 => ?_) (fun c17 => ?_))
              · replace h := ite_t h c17
                refine GW.iload_n (pc' := 156) dX1_value_155 rfl rfl ?_
                refine GW.goto (tgt := 160) dX1_value_156 (by decide) ?_
                obtain ⟨b18, h⟩ := h
                refine GW.iastore (pc' := 161) (j := v4.toNatClampNeg) dX1_value_160 rfl rfl b18 rfl ?_
                refine GW.iinc (pc' := 164) (lv' := [(0, .ref 32), (1, .int v1), (2, .int v2), (3, .int v3), (4, .int (v4 + 1)), (5, .int v5), (6, .int (M.1 33 v5.toNatClampNeg))]) (v := (v4 + 1)) dX1_value_161 rfl rfl (by decide) rfl rfl rfl ?_
                refine GW.iinc (pc' := 167) (lv' := [(0, .ref 32), (1, .int v1), (2, .int v2), (3, .int v3), (4, .int (v4 + 1)), (5, .int (v5 + 1)), (6, .int (M.1 33 v5.toNatClampNeg))]) (v := (v5 + 1)) dX1_value_164 rfl rfl (by decide) rfl rfl rfl ?_
                refine GW.goto (tgt := 6) dX1_value_167 (by decide) ?_
                refine GW.sub (lv' := [(0, .ref 32), (1, .int v1), (2, .int v2), (3, .int v3), (4, .int (v4 + 1)), (5, .int (v5 + 1))]) [0, 1, 2, 3, 4, 5] rfl ?_
                exact h
              · replace h := ite_f h c17
                refine GW.iload_n (pc' := 160) dX1_value_159 rfl rfl ?_
                obtain ⟨b19, h⟩ := h
                refine GW.iastore (pc' := 161) (j := v4.toNatClampNeg) dX1_value_160 rfl rfl b19 rfl ?_
                refine GW.iinc (pc' := 164) (lv' := [(0, .ref 32), (1, .int v1), (2, .int v2), (3, .int v3), (4, .int (v4 + 1)), (5, .int v5), (6, .int (M.1 33 v5.toNatClampNeg))]) (v := (v4 + 1)) dX1_value_161 rfl rfl (by decide) rfl rfl rfl ?_
                refine GW.iinc (pc' := 167) (lv' := [(0, .ref 32), (1, .int v1), (2, .int v2), (3, .int v3), (4, .int (v4 + 1)), (5, .int (v5 + 1)), (6, .int (M.1 33 v5.toNatClampNeg))]) (v := (v5 + 1)) dX1_value_164 rfl rfl (by decide) rfl rfl rfl ?_
                refine GW.goto (tgt := 6) dX1_value_167 (by decide) ?_
                refine GW.sub (lv' := [(0, .ref 32), (1, .int v1), (2, .int v2), (3, .int v3), (4, .int (v4 + 1)), (5, .int (v5 + 1))]) [0, 1, 2, 3, 4, 5] rfl ?_
                exact h
          · replace h := ite_f h c14
            refine GW.iload (pc' := 135) dX1_value_133 rfl rfl ?_
            refine GW.goto (tgt := 160) dX1_value_135 (by decide) ?_
            obtain ⟨b20, h⟩ := h
            refine GW.iastore (pc' := 161) (j := v4.toNatClampNeg) dX1_value_160 rfl rfl b20 rfl ?_
            refine GW.iinc (pc' := 164) (lv' := [(0, .ref 32), (1, .int v1), (2, .int v2), (3, .int v3), (4, .int (v4 + 1)), (5, .int v5), (6, .int (M.1 33 v5.toNatClampNeg))]) (v := (v4 + 1)) dX1_value_161 rfl rfl (by decide) rfl rfl rfl ?_
            refine GW.iinc (pc' := 167) (lv' := [(0, .ref 32), (1, .int v1), (2, .int v2), (3, .int v3), (4, .int (v4 + 1)), (5, .int (v5 + 1)), (6, .int (M.1 33 v5.toNatClampNeg))]) (v := (v5 + 1)) dX1_value_164 rfl rfl (by decide) rfl rfl rfl ?_
            refine GW.goto (tgt := 6) dX1_value_167 (by decide) ?_
            refine GW.sub (lv' := [(0, .ref 32), (1, .int v1), (2, .int v2), (3, .int v3), (4, .int (v4 + 1)), (5, .int (v5 + 1))]) [0, 1, 2, 3, 4, 5] rfl ?_
            exact h
        · replace h := ite_f h c13
          refine GW.iinc (pc' := 167) (lv' := [(0, .ref 32), (1, .int v1), (2, .int v2), (3, .int v3), (4, .int v4), (5, .int (v5 + 1)), (6, .int (M.1 33 v5.toNatClampNeg))]) (v := (v5 + 1)) dX1_value_164 rfl rfl (by decide) rfl rfl rfl ?_
          refine GW.goto (tgt := 6) dX1_value_167 (by decide) ?_
          refine GW.sub (lv' := [(0, .ref 32), (1, .int v1), (2, .int v2), (3, .int v3), (4, .int v4), (5, .int (v5 + 1))]) [0, 1, 2, 3, 4, 5] rfl ?_
          exact h
  · replace h := ite_f h c1
    refine GW.aload_n (pc' := 171) dX1_value_170 rfl rfl ?_
    refine GW.getR (pc' := 174) (t := 34) dX1_value_171 rfl fk_X1_15 rfl (by decide) rfl rfl ?_
    refine GW.iconst (pc' := 175) (v := 0) dX1_value_174 rfl (by decide) ?_
    refine GW.iaload (pc' := 176) (j := 0) dX1_value_175 rfl rfl (vin (by decide)) (by decide) ?_
    refine GW.iret dX1_value_176 rfl ⟨_, rfl, ?_⟩
    exact h

set_option maxRecDepth 100000 in
set_option maxHeartbeats 4000000 in
theorem wp_X2_become_22_45 (xs : gX) (d : Nat)  (M : Mem) (Q : Mem → Prop) (h : Q (mw (mwA (mwA M 23 (va_cpy (M.1 46) (M.1 23) 0 0 8)) 24 (va_cpy (M.1 47) (M.1 24) 0 0 8)) 22 2 (M.1 45 2))) : MV xs (d + 1) mX2_become [.ref 22, .ref 45] M Q := by
  refine MV.intro (lv := [(0, .ref 22), (1, .ref 45)]) mk_X2_become.2.2.2.2 (Nat.le_of_ble_eq_true rfl) rfl ?_
  refine GW.aload_n (pc' := 1) dX2_become_0 rfl rfl ?_
  refine GW.getR (pc' := 4) (t := 46) dX2_become_1 rfl fk_X2_9 rfl (by decide) rfl rfl ?_
  refine GW.iconst (pc' := 5) (v := 0) dX2_become_4 rfl (by decide) ?_
  refine GW.aload_n (pc' := 6) dX2_become_5 rfl rfl ?_
  refine GW.getR (pc' := 9) (t := 23) dX2_become_6 rfl fk_X2_9 rfl (by decide) rfl rfl ?_
  refine GW.iconst (pc' := 10) (v := 0) dX2_become_9 rfl (by decide) ?_
  refine GW.bipush (pc' := 12) (v := 8) dX2_become_10 rfl (by decide) ?_
  refine GW.copyi (pc' := 15) (sp' := 0) (dp' := 0) (n' := 8) dX2_become_12 rfl ak_X2_62 rfl rfl (by unfold CPK; decide) (by decide) (by decide) (by decide) (Nat.le_of_ble_eq_true rfl) ?_
  refine GW.aload_n (pc' := 16) dX2_become_15 rfl rfl ?_
  refine GW.getR (pc' := 19) (t := 47) dX2_become_16 rfl fk_X2_15 rfl (by decide) rfl rfl ?_
  refine GW.iconst (pc' := 20) (v := 0) dX2_become_19 rfl (by decide) ?_
  refine GW.aload_n (pc' := 21) dX2_become_20 rfl rfl ?_
  refine GW.getR (pc' := 24) (t := 24) dX2_become_21 rfl fk_X2_15 rfl (by decide) rfl rfl ?_
  refine GW.iconst (pc' := 25) (v := 0) dX2_become_24 rfl (by decide) ?_
  refine GW.bipush (pc' := 27) (v := 8) dX2_become_25 rfl (by decide) ?_
  refine GW.copyi (pc' := 30) (sp' := 0) (dp' := 0) (n' := 8) dX2_become_27 rfl ak_X2_62 rfl rfl (by unfold CPK; decide) (by decide) (by decide) (by decide) (Nat.le_of_ble_eq_true rfl) ?_
  refine GW.aload_n (pc' := 31) dX2_become_30 rfl rfl ?_
  refine GW.aload_n (pc' := 32) dX2_become_31 rfl rfl ?_
  refine GW.getI (pc' := 35) dX2_become_32 rfl fk_X2_31 rfl (by decide) rfl rfl ?_
  refine GW.putI (pc' := 38) dX2_become_35 rfl fp_X2_31 rfl (by decide) rfl rfl ⟨rfl, rfl⟩ ?_
  refine GW.vret dX2_become_38 rfl ⟨rfl, ?_⟩
  exact h

set_option maxRecDepth 100000 in
set_option maxHeartbeats 4000000 in
theorem wp_X2_become_45_22 (xs : gX) (d : Nat)  (M : Mem) (Q : Mem → Prop) (h : Q (mw (mwA (mwA M 46 (va_cpy (M.1 23) (M.1 46) 0 0 8)) 47 (va_cpy (M.1 24) (M.1 47) 0 0 8)) 45 2 (M.1 22 2))) : MV xs (d + 1) mX2_become [.ref 45, .ref 22] M Q := by
  refine MV.intro (lv := [(0, .ref 45), (1, .ref 22)]) mk_X2_become.2.2.2.2 (Nat.le_of_ble_eq_true rfl) rfl ?_
  refine GW.aload_n (pc' := 1) dX2_become_0 rfl rfl ?_
  refine GW.getR (pc' := 4) (t := 23) dX2_become_1 rfl fk_X2_9 rfl (by decide) rfl rfl ?_
  refine GW.iconst (pc' := 5) (v := 0) dX2_become_4 rfl (by decide) ?_
  refine GW.aload_n (pc' := 6) dX2_become_5 rfl rfl ?_
  refine GW.getR (pc' := 9) (t := 46) dX2_become_6 rfl fk_X2_9 rfl (by decide) rfl rfl ?_
  refine GW.iconst (pc' := 10) (v := 0) dX2_become_9 rfl (by decide) ?_
  refine GW.bipush (pc' := 12) (v := 8) dX2_become_10 rfl (by decide) ?_
  refine GW.copyi (pc' := 15) (sp' := 0) (dp' := 0) (n' := 8) dX2_become_12 rfl ak_X2_62 rfl rfl (by unfold CPK; decide) (by decide) (by decide) (by decide) (Nat.le_of_ble_eq_true rfl) ?_
  refine GW.aload_n (pc' := 16) dX2_become_15 rfl rfl ?_
  refine GW.getR (pc' := 19) (t := 24) dX2_become_16 rfl fk_X2_15 rfl (by decide) rfl rfl ?_
  refine GW.iconst (pc' := 20) (v := 0) dX2_become_19 rfl (by decide) ?_
  refine GW.aload_n (pc' := 21) dX2_become_20 rfl rfl ?_
  refine GW.getR (pc' := 24) (t := 47) dX2_become_21 rfl fk_X2_15 rfl (by decide) rfl rfl ?_
  refine GW.iconst (pc' := 25) (v := 0) dX2_become_24 rfl (by decide) ?_
  refine GW.bipush (pc' := 27) (v := 8) dX2_become_25 rfl (by decide) ?_
  refine GW.copyi (pc' := 30) (sp' := 0) (dp' := 0) (n' := 8) dX2_become_27 rfl ak_X2_62 rfl rfl (by unfold CPK; decide) (by decide) (by decide) (by decide) (Nat.le_of_ble_eq_true rfl) ?_
  refine GW.aload_n (pc' := 31) dX2_become_30 rfl rfl ?_
  refine GW.aload_n (pc' := 32) dX2_become_31 rfl rfl ?_
  refine GW.getI (pc' := 35) dX2_become_32 rfl fk_X2_31 rfl (by decide) rfl rfl ?_
  refine GW.putI (pc' := 38) dX2_become_35 rfl fp_X2_31 rfl (by decide) rfl rfl ⟨rfl, rfl⟩ ?_
  refine GW.vret dX2_become_38 rfl ⟨rfl, ?_⟩
  exact h

set_option maxRecDepth 100000 in
set_option maxHeartbeats 4000000 in
theorem wp_X2_countRows_22_15 (xs : gX) (d : Nat)  (M : Mem) (Q : Int64 → Mem → Prop) (h : GW xs (d + 3) mX2_countRows 18 [(0, .ref 22), (1, .ref 15), (2, .int 1), (3, .int 0)] [] (ml (mw M 27 0 (-1)) 28 0 1) (QL Q)) : ML xs (d + 3) mX2_countRows [.ref 22, .ref 15] M Q := by
  refine ML.intro (lv := [(0, .ref 22), (1, .ref 15)]) mk_X2_countRows.2.2.2.2 (Nat.le_of_ble_eq_true rfl) rfl ?_
  refine GW.aload_n (pc' := 1) dX2_countRows_0 rfl rfl ?_
  refine GW.getR (pc' := 4) (t := 27) dX2_countRows_1 rfl fk_X2_25 rfl (by decide) rfl rfl ?_
  refine GW.iconst (pc' := 5) (v := 0) dX2_countRows_4 rfl (by decide) ?_
  refine GW.iconst (pc' := 6) (v := (-1)) dX2_countRows_5 rfl (by decide) ?_
  refine GW.iastore (pc' := 7) (j := 0) dX2_countRows_6 rfl rfl (vin (by decide)) (by decide) ?_
  refine GW.aload_n (pc' := 8) dX2_countRows_7 rfl rfl ?_
  refine GW.getR (pc' := 11) (t := 28) dX2_countRows_8 rfl fk_X2_28 rfl (by decide) rfl rfl ?_
  refine GW.iconst (pc' := 12) (v := 0) dX2_countRows_11 rfl (by decide) ?_
  refine GW.lconst (pc' := 13) (v := 1) dX2_countRows_12 rfl (by decide) ?_
  refine GW.lastore (pc' := 14) (j := 0) dX2_countRows_13 rfl rfl (vin (by decide)) (by decide) ?_
  refine GW.iconst (pc' := 15) (v := 1) dX2_countRows_14 rfl (by decide) ?_
  refine GW.istore_n (pc' := 16) (lv' := [(0, .ref 22), (1, .ref 15), (2, .int 1)]) dX2_countRows_15 rfl rfl (by decide) rfl ?_
  refine GW.iconst (pc' := 17) (v := 0) dX2_countRows_16 rfl (by decide) ?_
  refine GW.istore_n (pc' := 18) (lv' := [(0, .ref 22), (1, .ref 15), (2, .int 1), (3, .int 0)]) dX2_countRows_17 rfl rfl (by decide) rfl ?_
  exact h
set_option maxRecDepth 100000 in
set_option maxHeartbeats 4000000 in
theorem wp_X2_countRows_22_15_L18 (xs : gX) (d : Nat) (v2 : Int32) (v3 : Int32) (M : Mem) (Q : Int64 → Mem → Prop) (h : (if v3 < (M.1 22 2) then MI xs (d + 2) mX2_listDays [.ref 22, .ref 15, .int v3] M (fun r2 M3 => GW xs (d + 3) mX2_countRows 37 [(0, .ref 22), (1, .ref 15), (2, .int v2), (3, .int v3), (4, .int r2), (5, .int 0)] [] M3 (QL Q)) else ML xs (d + 2) mX2_waysBefore [.ref 22, .int 73000, .int v2] M (fun r4 M5 => Q r4 M5))) : GW xs (d + 3) mX2_countRows 18 [(0, .ref 22), (1, .ref 15), (2, .int v2), (3, .int v3)] [] M (QL Q) := by
  refine GW.iload_n (pc' := 19) dX2_countRows_18 rfl rfl ?_
  refine GW.aload_n (pc' := 20) dX2_countRows_19 rfl rfl ?_
  refine GW.getI (pc' := 23) dX2_countRows_20 rfl fk_X2_31 rfl (by decide) rfl rfl ?_
  refine GW.if_icmpge (pc' := 26) (tgt := 108) dX2_countRows_23 rfl (by decide) (ite_i (fun c1 => ?_) (fun c1 => ?_))
  · replace h := ite_t h c1
    refine GW.aload_n (pc' := 27) dX2_countRows_26 rfl rfl ?_
    refine GW.aload_n (pc' := 28) dX2_countRows_27 rfl rfl ?_
    refine GW.iload_n (pc' := 29) dX2_countRows_28 rfl rfl ?_
    refine GW.callV (pc' := 32) (k := 22) (av := [.ref 15, .int v3]) (rest := []) dX2_countRows_29 rfl mk_X2_listDays lk_X2_54 vk_X2_listDays ko_22 rfl rfl (Nat.le_of_ble_eq_true rfl) (bk_i (MI.mono h (fun r2 M3 h => ?_)))
    refine GW.istore (pc' := 34) (lv' := [(0, .ref 22), (1, .ref 15), (2, .int v2), (3, .int v3), (4, .int r2)]) dX2_countRows_32 rfl rfl (by decide) rfl ?_
    refine GW.iconst (pc' := 35) (v := 0) dX2_countRows_34 rfl (by decide) ?_
    refine GW.istore (pc' := 37) (lv' := [(0, .ref 22), (1, .ref 15), (2, .int v2), (3, .int v3), (4, .int r2), (5, .int 0)]) dX2_countRows_35 rfl rfl (by decide) rfl ?_
    exact h
  · replace h := ite_f h c1
    refine GW.aload_n (pc' := 109) dX2_countRows_108 rfl rfl ?_
    refine GW.ldc (pc' := 111) (v := 73000) dX2_countRows_109 rfl ck_X2_50 ?_
    refine GW.iload_n (pc' := 112) dX2_countRows_111 rfl rfl ?_
    refine GW.callV (pc' := 115) (k := 22) (av := [.int 73000, .int v2]) (rest := []) dX2_countRows_112 rfl mk_X2_waysBefore lk_X2_58 vk_X2_waysBefore ko_22 rfl rfl (Nat.le_of_ble_eq_true rfl) (bk_l (ML.mono h (fun r4 M5 h => ?_)))
    refine GW.lret dX2_countRows_115 rfl ⟨_, rfl, ?_⟩
    exact h
set_option maxRecDepth 100000 in
set_option maxHeartbeats 4000000 in
theorem wp_X2_countRows_22_15_L37 (xs : gX) (d : Nat) (v2 : Int32) (v3 : Int32) (v4 : Int32) (v5 : Int32) (M : Mem) (Q : Int64 → Mem → Prop) (h : (if v5 < v4 then (vp_in v5 8 ∧ ML xs (d + 2) mX2_waysBefore [.ref 22, .int (M.1 25 v5.toNatClampNeg), .int v2] M (fun r3 M4 => GW xs (d + 3) mX2_countRows 37 [(0, .ref 22), (1, .ref 15), (2, .int v2), (3, .int v3), (4, .int v4), (5, .int (v5 + 1))] [] (ml M4 26 v5.toNatClampNeg r3) (QL Q))) else (CPK 0 0 v4 8 8 ∧ (CPK 0 0 v4 8 8 ∧ GW xs (d + 3) mX2_countRows 18 [(0, .ref 22), (1, .ref 15), (2, .int v4), (3, .int (v3 + 1))] [] (mlA (mwA M 27 (va_cpy (M.1 25) (M.1 27) 0 0 v4.toNatClampNeg)) 28 (va_cpy (M.2 26) (M.2 28) 0 0 v4.toNatClampNeg)) (QL Q))))) : GW xs (d + 3) mX2_countRows 37 [(0, .ref 22), (1, .ref 15), (2, .int v2), (3, .int v3), (4, .int v4), (5, .int v5)] [] M (QL Q) := by
  refine GW.iload (pc' := 39) dX2_countRows_37 rfl rfl ?_
  refine GW.iload (pc' := 41) dX2_countRows_39 rfl rfl ?_
  refine GW.if_icmpge (pc' := 44) (tgt := 69) dX2_countRows_41 rfl (by decide) (ite_i (fun c1 => ?_) (fun c1 => ?_))
  · replace h := ite_t h c1
    refine GW.aload_n (pc' := 45) dX2_countRows_44 rfl rfl ?_
    refine GW.getR (pc' := 48) (t := 26) dX2_countRows_45 rfl fk_X2_21 rfl (by decide) rfl rfl ?_
    refine GW.iload (pc' := 50) dX2_countRows_48 rfl rfl ?_
    refine GW.aload_n (pc' := 51) dX2_countRows_50 rfl rfl ?_
    refine GW.aload_n (pc' := 52) dX2_countRows_51 rfl rfl ?_
    refine GW.getR (pc' := 55) (t := 25) dX2_countRows_52 rfl fk_X2_18 rfl (by decide) rfl rfl ?_
    refine GW.iload (pc' := 57) dX2_countRows_55 rfl rfl ?_
    obtain ⟨b2, h⟩ := h
    refine GW.iaload (pc' := 58) (j := v5.toNatClampNeg) dX2_countRows_57 rfl rfl b2 rfl ?_
    refine GW.iload_n (pc' := 59) dX2_countRows_58 rfl rfl ?_
    refine GW.callV (pc' := 62) (k := 22) (av := [.int (M.1 25 v5.toNatClampNeg), .int v2]) (rest := [.int v5, .ref 26]) dX2_countRows_59 rfl mk_X2_waysBefore lk_X2_58 vk_X2_waysBefore ko_22 rfl rfl (Nat.le_of_ble_eq_true rfl) (bk_l (ML.mono h (fun r3 M4 h => ?_)))
    refine GW.lastore (pc' := 63) (j := v5.toNatClampNeg) dX2_countRows_62 rfl rfl b2 rfl ?_
    refine GW.iinc (pc' := 66) (lv' := [(0, .ref 22), (1, .ref 15), (2, .int v2), (3, .int v3), (4, .int v4), (5, .int (v5 + 1))]) (v := (v5 + 1)) dX2_countRows_63 rfl rfl (by decide) rfl rfl rfl ?_
    refine GW.goto (tgt := 37) dX2_countRows_66 (by decide) ?_
    exact h
  · replace h := ite_f h c1
    refine GW.aload_n (pc' := 70) dX2_countRows_69 rfl rfl ?_
    refine GW.getR (pc' := 73) (t := 25) dX2_countRows_70 rfl fk_X2_18 rfl (by decide) rfl rfl ?_
    refine GW.iconst (pc' := 74) (v := 0) dX2_countRows_73 rfl (by decide) ?_
    refine GW.aload_n (pc' := 75) dX2_countRows_74 rfl rfl ?_
    refine GW.getR (pc' := 78) (t := 27) dX2_countRows_75 rfl fk_X2_25 rfl (by decide) rfl rfl ?_
    refine GW.iconst (pc' := 79) (v := 0) dX2_countRows_78 rfl (by decide) ?_
    refine GW.iload (pc' := 81) dX2_countRows_79 rfl rfl ?_
    obtain ⟨b5, h⟩ := h
    refine GW.copyi (pc' := 84) (sp' := 0) (dp' := 0) (n' := v4.toNatClampNeg) dX2_countRows_81 rfl ak_X2_62 rfl rfl b5 (by decide) (by decide) rfl (Nat.le_of_ble_eq_true rfl) ?_
    refine GW.aload_n (pc' := 85) dX2_countRows_84 rfl rfl ?_
    refine GW.getR (pc' := 88) (t := 26) dX2_countRows_85 rfl fk_X2_21 rfl (by decide) rfl rfl ?_
    refine GW.iconst (pc' := 89) (v := 0) dX2_countRows_88 rfl (by decide) ?_
    refine GW.aload_n (pc' := 90) dX2_countRows_89 rfl rfl ?_
    refine GW.getR (pc' := 93) (t := 28) dX2_countRows_90 rfl fk_X2_28 rfl (by decide) rfl rfl ?_
    refine GW.iconst (pc' := 94) (v := 0) dX2_countRows_93 rfl (by decide) ?_
    refine GW.iload (pc' := 96) dX2_countRows_94 rfl rfl ?_
    obtain ⟨b6, h⟩ := h
    refine GW.copyl (pc' := 99) (sp' := 0) (dp' := 0) (n' := v4.toNatClampNeg) dX2_countRows_96 rfl ak_X2_62 rfl rfl b6 (by decide) (by decide) rfl (Nat.le_of_ble_eq_true rfl) ?_
    refine GW.iload (pc' := 101) dX2_countRows_99 rfl rfl ?_
    refine GW.istore_n (pc' := 102) (lv' := [(0, .ref 22), (1, .ref 15), (2, .int v4), (3, .int v3), (4, .int v4), (5, .int v5)]) dX2_countRows_101 rfl rfl (by decide) rfl ?_
    refine GW.iinc (pc' := 105) (lv' := [(0, .ref 22), (1, .ref 15), (2, .int v4), (3, .int (v3 + 1)), (4, .int v4), (5, .int v5)]) (v := (v3 + 1)) dX2_countRows_102 rfl rfl (by decide) rfl rfl rfl ?_
    refine GW.goto (tgt := 18) dX2_countRows_105 (by decide) ?_
    refine GW.sub (lv' := [(0, .ref 22), (1, .ref 15), (2, .int v4), (3, .int (v3 + 1))]) [0, 1, 2, 3] rfl ?_
    exact h

set_option maxRecDepth 100000 in
set_option maxHeartbeats 4000000 in
theorem wp_X2_greatestOf_22_15 (xs : gX) (d : Nat) (v2 : Int32) (M : Mem) (Q : Int32 → Mem → Prop) (h : GW xs (d + 3) mX2_greatestOf 14 [(0, .ref 22), (1, .ref 15), (2, .int v2), (3, .int (-1)), (4, .int 73000), (5, .int ((M.1 22 2) - 1))] [] M (QI Q)) : MI xs (d + 3) mX2_greatestOf [.ref 22, .ref 15, .int v2] M Q := by
  refine MI.intro (lv := [(0, .ref 22), (1, .ref 15), (2, .int v2)]) mk_X2_greatestOf.2.2.2.2 (Nat.le_of_ble_eq_true rfl) rfl ?_
  refine GW.iconst (pc' := 1) (v := (-1)) dX2_greatestOf_0 rfl (by decide) ?_
  refine GW.istore_n (pc' := 2) (lv' := [(0, .ref 22), (1, .ref 15), (2, .int v2), (3, .int (-1))]) dX2_greatestOf_1 rfl rfl (by decide) rfl ?_
  refine GW.ldc (pc' := 4) (v := 73000) dX2_greatestOf_2 rfl ck_X2_50 ?_
  refine GW.istore (pc' := 6) (lv' := [(0, .ref 22), (1, .ref 15), (2, .int v2), (3, .int (-1)), (4, .int 73000)]) dX2_greatestOf_4 rfl rfl (by decide) rfl ?_
  refine GW.aload_n (pc' := 7) dX2_greatestOf_6 rfl rfl ?_
  refine GW.getI (pc' := 10) dX2_greatestOf_7 rfl fk_X2_31 rfl (by decide) rfl rfl ?_
  refine GW.iconst (pc' := 11) (v := 1) dX2_greatestOf_10 rfl (by decide) ?_
  refine GW.isub (pc' := 12) dX2_greatestOf_11 rfl ?_
  refine GW.istore (pc' := 14) (lv' := [(0, .ref 22), (1, .ref 15), (2, .int v2), (3, .int (-1)), (4, .int 73000), (5, .int ((M.1 22 2) - 1))]) dX2_greatestOf_12 rfl rfl (by decide) rfl ?_
  exact h
set_option maxRecDepth 100000 in
set_option maxHeartbeats 4000000 in
theorem wp_X2_greatestOf_22_15_L14 (xs : gX) (d : Nat) (v2 : Int32) (v3 : Int32) (v4 : Int32) (v5 : Int32) (M : Mem) (Q : Int32 → Mem → Prop) (h : (if v5 < 0 then Q v3 M else MI xs (d + 2) mX2_listDays [.ref 22, .ref 15, .int v5] M (fun r2 M3 => GW xs (d + 3) mX2_greatestOf 30 [(0, .ref 22), (1, .ref 15), (2, .int v2), (3, .int v3), (4, .int v4), (5, .int v5), (6, .int (r2 - 1))] [] M3 (QI Q)))) : GW xs (d + 3) mX2_greatestOf 14 [(0, .ref 22), (1, .ref 15), (2, .int v2), (3, .int v3), (4, .int v4), (5, .int v5)] [] M (QI Q) := by
  refine GW.iload (pc' := 16) dX2_greatestOf_14 rfl rfl ?_
  refine GW.iflt (pc' := 19) (tgt := 88) dX2_greatestOf_16 rfl (by decide) (ite_i (fun c1 => ?_) (fun c1 => ?_))
  · replace h := ite_t h c1
    refine GW.iload_n (pc' := 89) dX2_greatestOf_88 rfl rfl ?_
    refine GW.iret dX2_greatestOf_89 rfl ⟨_, rfl, ?_⟩
    exact h
  · replace h := ite_f h c1
    refine GW.aload_n (pc' := 20) dX2_greatestOf_19 rfl rfl ?_
    refine GW.aload_n (pc' := 21) dX2_greatestOf_20 rfl rfl ?_
    refine GW.iload (pc' := 23) dX2_greatestOf_21 rfl rfl ?_
    refine GW.callV (pc' := 26) (k := 22) (av := [.ref 15, .int v5]) (rest := []) dX2_greatestOf_23 rfl mk_X2_listDays lk_X2_54 vk_X2_listDays ko_22 rfl rfl (Nat.le_of_ble_eq_true rfl) (bk_i (MI.mono h (fun r2 M3 h => ?_)))
    refine GW.iconst (pc' := 27) (v := 1) dX2_greatestOf_26 rfl (by decide) ?_
    refine GW.isub (pc' := 28) dX2_greatestOf_27 rfl ?_
    refine GW.istore (pc' := 30) (lv' := [(0, .ref 22), (1, .ref 15), (2, .int v2), (3, .int v3), (4, .int v4), (5, .int v5), (6, .int (r2 - 1))]) dX2_greatestOf_28 rfl rfl (by decide) rfl ?_
    exact h
set_option maxRecDepth 100000 in
set_option maxHeartbeats 4000000 in
theorem wp_X2_greatestOf_22_15_L30 (xs : gX) (d : Nat) (v2 : Int32) (v3 : Int32) (v4 : Int32) (v5 : Int32) (v6 : Int32) (M : Mem) (Q : Int32 → Mem → Prop) (h : (if v6 < 0 then Q (-1) M else (vp_in v6 8 ∧ (if (M.1 25 v6.toNatClampNeg) < v4 then (if v5 = v2 then GW xs (d + 3) mX2_greatestOf 14 [(0, .ref 22), (1, .ref 15), (2, .int v2), (3, .int (M.1 25 v6.toNatClampNeg)), (4, .int (M.1 25 v6.toNatClampNeg)), (5, .int (v5 + (-1)))] [] M (QI Q) else GW xs (d + 3) mX2_greatestOf 14 [(0, .ref 22), (1, .ref 15), (2, .int v2), (3, .int v3), (4, .int (M.1 25 v6.toNatClampNeg)), (5, .int (v5 + (-1)))] [] M (QI Q)) else GW xs (d + 3) mX2_greatestOf 30 [(0, .ref 22), (1, .ref 15), (2, .int v2), (3, .int v3), (4, .int v4), (5, .int v5), (6, .int (v6 + (-1)))] [] M (QI Q))))) : GW xs (d + 3) mX2_greatestOf 30 [(0, .ref 22), (1, .ref 15), (2, .int v2), (3, .int v3), (4, .int v4), (5, .int v5), (6, .int v6)] [] M (QI Q) := by
  refine GW.iload (pc' := 32) dX2_greatestOf_30 rfl rfl ?_
  refine GW.iflt (pc' := 35) (tgt := 53) dX2_greatestOf_32 rfl (by decide) (ite_i (fun c1 => ?_) (fun c1 => ?_))
  · replace h := ite_t h c1
    refine GW.iload (pc' := 55) dX2_greatestOf_53 rfl rfl ?_
    refine GW.ifge (pc' := 58) (tgt := 60) dX2_greatestOf_55 rfl (by decide) (ite_p c1 ?_)
    refine GW.iconst (pc' := 59) (v := (-1)) dX2_greatestOf_58 rfl (by decide) ?_
    refine GW.iret dX2_greatestOf_59 rfl ⟨_, rfl, ?_⟩
    exact h
  · replace h := ite_f h c1
    refine GW.aload_n (pc' := 36) dX2_greatestOf_35 rfl rfl ?_
    refine GW.getR (pc' := 39) (t := 25) dX2_greatestOf_36 rfl fk_X2_18 rfl (by decide) rfl rfl ?_
    refine GW.iload (pc' := 41) dX2_greatestOf_39 rfl rfl ?_
    obtain ⟨b2, h⟩ := h
    refine GW.iaload (pc' := 42) (j := v6.toNatClampNeg) dX2_greatestOf_41 rfl rfl b2 rfl ?_
    refine GW.iload (pc' := 44) dX2_greatestOf_42 rfl rfl ?_
    refine GW.if_icmplt (pc' := 47) (tgt := 53) dX2_greatestOf_44 rfl (by decide) (ite_i (fun c3 => ?_) (fun c3 => ?_))
    · replace h := ite_t h c3
      refine GW.iload (pc' := 55) dX2_greatestOf_53 rfl rfl ?_
      refine GW.ifge (pc' := 58) (tgt := 60) dX2_greatestOf_55 rfl (by decide) (ite_n c1 ?_)
      refine GW.aload_n (pc' := 61) dX2_greatestOf_60 rfl rfl ?_
      refine GW.getR (pc' := 64) (t := 25) dX2_greatestOf_61 rfl fk_X2_18 rfl (by decide) rfl rfl ?_
      refine GW.iload (pc' := 66) dX2_greatestOf_64 rfl rfl ?_
      refine GW.iaload (pc' := 67) (j := v6.toNatClampNeg) dX2_greatestOf_66 rfl rfl b2 rfl ?_
      refine GW.istore (pc' := 69) (lv' := [(0, .ref 22), (1, .ref 15), (2, .int v2), (3, .int v3), (4, .int (M.1 25 v6.toNatClampNeg)), (5, .int v5), (6, .int v6)]) dX2_greatestOf_67 rfl rfl (by decide) rfl ?_
      refine GW.iload (pc' := 71) dX2_greatestOf_69 rfl rfl ?_
      refine GW.iload_n (pc' := 72) dX2_greatestOf_71 rfl rfl ?_
      refine GW.if_icmpne (pc' := 75) (tgt := 80) dX2_greatestOf_72 rfl (by decide) (ite_i (fun c4 => ?_) (fun c4 => ?_))
      · replace h := ite_t h c4
        refine GW.iload (pc' := 77) dX2_greatestOf_75 rfl rfl ?_
        refine GW.goto (tgt := 81) dX2_greatestOf_77 (by decide) ?_
        refine GW.istore_n (pc' := 82) (lv' := [(0, .ref 22), (1, .ref 15), (2, .int v2), (3, .int (M.1 25 v6.toNatClampNeg)), (4, .int (M.1 25 v6.toNatClampNeg)), (5, .int v5), (6, .int v6)]) dX2_greatestOf_81 rfl rfl (by decide) rfl ?_
        refine GW.iinc (pc' := 85) (lv' := [(0, .ref 22), (1, .ref 15), (2, .int v2), (3, .int (M.1 25 v6.toNatClampNeg)), (4, .int (M.1 25 v6.toNatClampNeg)), (5, .int (v5 + (-1))), (6, .int v6)]) (v := (v5 + (-1))) dX2_greatestOf_82 rfl rfl (by decide) rfl rfl rfl ?_
        refine GW.goto (tgt := 14) dX2_greatestOf_85 (by decide) ?_
        refine GW.sub (lv' := [(0, .ref 22), (1, .ref 15), (2, .int v2), (3, .int (M.1 25 v6.toNatClampNeg)), (4, .int (M.1 25 v6.toNatClampNeg)), (5, .int (v5 + (-1)))]) [0, 1, 2, 3, 4, 5] rfl ?_
        exact h
      · replace h := ite_f h c4
        refine GW.iload_n (pc' := 81) dX2_greatestOf_80 rfl rfl ?_
        refine GW.istore_n (pc' := 82) (lv' := [(0, .ref 22), (1, .ref 15), (2, .int v2), (3, .int v3), (4, .int (M.1 25 v6.toNatClampNeg)), (5, .int v5), (6, .int v6)]) dX2_greatestOf_81 rfl rfl (by decide) rfl ?_
        refine GW.iinc (pc' := 85) (lv' := [(0, .ref 22), (1, .ref 15), (2, .int v2), (3, .int v3), (4, .int (M.1 25 v6.toNatClampNeg)), (5, .int (v5 + (-1))), (6, .int v6)]) (v := (v5 + (-1))) dX2_greatestOf_82 rfl rfl (by decide) rfl rfl rfl ?_
        refine GW.goto (tgt := 14) dX2_greatestOf_85 (by decide) ?_
        refine GW.sub (lv' := [(0, .ref 22), (1, .ref 15), (2, .int v2), (3, .int v3), (4, .int (M.1 25 v6.toNatClampNeg)), (5, .int (v5 + (-1)))]) [0, 1, 2, 3, 4, 5] rfl ?_
        exact h
    · replace h := ite_f h c3
      refine GW.iinc (pc' := 50) (lv' := [(0, .ref 22), (1, .ref 15), (2, .int v2), (3, .int v3), (4, .int v4), (5, .int v5), (6, .int (v6 + (-1)))]) (v := (v6 + (-1))) dX2_greatestOf_47 rfl rfl (by decide) rfl rfl rfl ?_
      refine GW.goto (tgt := 30) dX2_greatestOf_50 (by decide) ?_
      exact h

set_option maxRecDepth 100000 in
set_option maxHeartbeats 4000000 in
theorem wp_X2_leastOf_22_15 (xs : gX) (d : Nat) (v2 : Int32) (M : Mem) (Q : Int32 → Mem → Prop) (h : GW xs (d + 3) mX2_leastOf 8 [(0, .ref 22), (1, .ref 15), (2, .int v2), (3, .int (-1)), (4, .int (-1)), (5, .int 0)] [] M (QI Q)) : MI xs (d + 3) mX2_leastOf [.ref 22, .ref 15, .int v2] M Q := by
  refine MI.intro (lv := [(0, .ref 22), (1, .ref 15), (2, .int v2)]) mk_X2_leastOf.2.2.2.2 (Nat.le_of_ble_eq_true rfl) rfl ?_
  refine GW.iconst (pc' := 1) (v := (-1)) dX2_leastOf_0 rfl (by decide) ?_
  refine GW.istore_n (pc' := 2) (lv' := [(0, .ref 22), (1, .ref 15), (2, .int v2), (3, .int (-1))]) dX2_leastOf_1 rfl rfl (by decide) rfl ?_
  refine GW.iconst (pc' := 3) (v := (-1)) dX2_leastOf_2 rfl (by decide) ?_
  refine GW.istore (pc' := 5) (lv' := [(0, .ref 22), (1, .ref 15), (2, .int v2), (3, .int (-1)), (4, .int (-1))]) dX2_leastOf_3 rfl rfl (by decide) rfl ?_
  refine GW.iconst (pc' := 6) (v := 0) dX2_leastOf_5 rfl (by decide) ?_
  refine GW.istore (pc' := 8) (lv' := [(0, .ref 22), (1, .ref 15), (2, .int v2), (3, .int (-1)), (4, .int (-1)), (5, .int 0)]) dX2_leastOf_6 rfl rfl (by decide) rfl ?_
  exact h
set_option maxRecDepth 100000 in
set_option maxHeartbeats 4000000 in
theorem wp_X2_leastOf_22_15_L8 (xs : gX) (d : Nat) (v2 : Int32) (v3 : Int32) (v4 : Int32) (v5 : Int32) (M : Mem) (Q : Int32 → Mem → Prop) (h : (if v5 < (M.1 22 2) then MI xs (d + 2) mX2_listDays [.ref 22, .ref 15, .int v5] M (fun r2 M3 => GW xs (d + 3) mX2_leastOf 29 [(0, .ref 22), (1, .ref 15), (2, .int v2), (3, .int v3), (4, .int v4), (5, .int v5), (6, .int r2), (7, .int 0)] [] M3 (QI Q)) else Q v3 M)) : GW xs (d + 3) mX2_leastOf 8 [(0, .ref 22), (1, .ref 15), (2, .int v2), (3, .int v3), (4, .int v4), (5, .int v5)] [] M (QI Q) := by
  refine GW.iload (pc' := 10) dX2_leastOf_8 rfl rfl ?_
  refine GW.aload_n (pc' := 11) dX2_leastOf_10 rfl rfl ?_
  refine GW.getI (pc' := 14) dX2_leastOf_11 rfl fk_X2_31 rfl (by decide) rfl rfl ?_
  refine GW.if_icmpge (pc' := 17) (tgt := 91) dX2_leastOf_14 rfl (by decide) (ite_i (fun c1 => ?_) (fun c1 => ?_))
  · replace h := ite_t h c1
    refine GW.aload_n (pc' := 18) dX2_leastOf_17 rfl rfl ?_
    refine GW.aload_n (pc' := 19) dX2_leastOf_18 rfl rfl ?_
    refine GW.iload (pc' := 21) dX2_leastOf_19 rfl rfl ?_
    refine GW.callV (pc' := 24) (k := 22) (av := [.ref 15, .int v5]) (rest := []) dX2_leastOf_21 rfl mk_X2_listDays lk_X2_54 vk_X2_listDays ko_22 rfl rfl (Nat.le_of_ble_eq_true rfl) (bk_i (MI.mono h (fun r2 M3 h => ?_)))
    refine GW.istore (pc' := 26) (lv' := [(0, .ref 22), (1, .ref 15), (2, .int v2), (3, .int v3), (4, .int v4), (5, .int v5), (6, .int r2)]) dX2_leastOf_24 rfl rfl (by decide) rfl ?_
    refine GW.iconst (pc' := 27) (v := 0) dX2_leastOf_26 rfl (by decide) ?_
    refine GW.istore (pc' := 29) (lv' := [(0, .ref 22), (1, .ref 15), (2, .int v2), (3, .int v3), (4, .int v4), (5, .int v5), (6, .int r2), (7, .int 0)]) dX2_leastOf_27 rfl rfl (by decide) rfl ?_
    exact h
  · replace h := ite_f h c1
    refine GW.iload_n (pc' := 92) dX2_leastOf_91 rfl rfl ?_
    refine GW.iret dX2_leastOf_92 rfl ⟨_, rfl, ?_⟩
    exact h
set_option maxRecDepth 100000 in
set_option maxHeartbeats 4000000 in
theorem wp_X2_leastOf_22_15_L29 (xs : gX) (d : Nat) (v2 : Int32) (v3 : Int32) (v4 : Int32) (v5 : Int32) (v6 : Int32) (v7 : Int32) (M : Mem) (Q : Int32 → Mem → Prop) (h : (if v7 < v6 then (vp_in v7 8 ∧ (if v4 < (M.1 25 v7.toNatClampNeg) then (if v5 = v2 then GW xs (d + 3) mX2_leastOf 8 [(0, .ref 22), (1, .ref 15), (2, .int v2), (3, .int (M.1 25 v7.toNatClampNeg)), (4, .int (M.1 25 v7.toNatClampNeg)), (5, .int (v5 + 1))] [] M (QI Q) else GW xs (d + 3) mX2_leastOf 8 [(0, .ref 22), (1, .ref 15), (2, .int v2), (3, .int v3), (4, .int (M.1 25 v7.toNatClampNeg)), (5, .int (v5 + 1))] [] M (QI Q)) else GW xs (d + 3) mX2_leastOf 29 [(0, .ref 22), (1, .ref 15), (2, .int v2), (3, .int v3), (4, .int v4), (5, .int v5), (6, .int v6), (7, .int (v7 + 1))] [] M (QI Q))) else Q (-1) M)) : GW xs (d + 3) mX2_leastOf 29 [(0, .ref 22), (1, .ref 15), (2, .int v2), (3, .int v3), (4, .int v4), (5, .int v5), (6, .int v6), (7, .int v7)] [] M (QI Q) := by
  refine GW.iload (pc' := 31) dX2_leastOf_29 rfl rfl ?_
  refine GW.iload (pc' := 33) dX2_leastOf_31 rfl rfl ?_
  refine GW.if_icmpge (pc' := 36) (tgt := 54) dX2_leastOf_33 rfl (by decide) (ite_i (fun c1 => ?_) (fun c1 => ?_))
  · replace h := ite_t h c1
    refine GW.aload_n (pc' := 37) dX2_leastOf_36 rfl rfl ?_
    refine GW.getR (pc' := 40) (t := 25) dX2_leastOf_37 rfl fk_X2_18 rfl (by decide) rfl rfl ?_
    refine GW.iload (pc' := 42) dX2_leastOf_40 rfl rfl ?_
    obtain ⟨b2, h⟩ := h
    refine GW.iaload (pc' := 43) (j := v7.toNatClampNeg) dX2_leastOf_42 rfl rfl b2 rfl ?_
    refine GW.iload (pc' := 45) dX2_leastOf_43 rfl rfl ?_
    refine GW.if_icmpgt (pc' := 48) (tgt := 54) dX2_leastOf_45 rfl (by decide) (ite_i (fun c3 => ?_) (fun c3 => ?_))
    · replace h := ite_t h c3
      refine GW.iload (pc' := 56) dX2_leastOf_54 rfl rfl ?_
      refine GW.iload (pc' := 58) dX2_leastOf_56 rfl rfl ?_
      refine GW.if_icmplt (pc' := 61) (tgt := 63) dX2_leastOf_58 rfl (by decide) (ite_p c1 ?_)
      refine GW.aload_n (pc' := 64) dX2_leastOf_63 rfl rfl ?_
      refine GW.getR (pc' := 67) (t := 25) dX2_leastOf_64 rfl fk_X2_18 rfl (by decide) rfl rfl ?_
      refine GW.iload (pc' := 69) dX2_leastOf_67 rfl rfl ?_
      refine GW.iaload (pc' := 70) (j := v7.toNatClampNeg) dX2_leastOf_69 rfl rfl b2 rfl ?_
      refine GW.istore (pc' := 72) (lv' := [(0, .ref 22), (1, .ref 15), (2, .int v2), (3, .int v3), (4, .int (M.1 25 v7.toNatClampNeg)), (5, .int v5), (6, .int v6), (7, .int v7)]) dX2_leastOf_70 rfl rfl (by decide) rfl ?_
      refine GW.iload (pc' := 74) dX2_leastOf_72 rfl rfl ?_
      refine GW.iload_n (pc' := 75) dX2_leastOf_74 rfl rfl ?_
      refine GW.if_icmpne (pc' := 78) (tgt := 83) dX2_leastOf_75 rfl (by decide) (ite_i (fun c4 => ?_) (fun c4 => ?_))
      · replace h := ite_t h c4
        refine GW.iload (pc' := 80) dX2_leastOf_78 rfl rfl ?_
        refine GW.goto (tgt := 84) dX2_leastOf_80 (by decide) ?_
        refine GW.istore_n (pc' := 85) (lv' := [(0, .ref 22), (1, .ref 15), (2, .int v2), (3, .int (M.1 25 v7.toNatClampNeg)), (4, .int (M.1 25 v7.toNatClampNeg)), (5, .int v5), (6, .int v6), (7, .int v7)]) dX2_leastOf_84 rfl rfl (by decide) rfl ?_
        refine GW.iinc (pc' := 88) (lv' := [(0, .ref 22), (1, .ref 15), (2, .int v2), (3, .int (M.1 25 v7.toNatClampNeg)), (4, .int (M.1 25 v7.toNatClampNeg)), (5, .int (v5 + 1)), (6, .int v6), (7, .int v7)]) (v := (v5 + 1)) dX2_leastOf_85 rfl rfl (by decide) rfl rfl rfl ?_
        refine GW.goto (tgt := 8) dX2_leastOf_88 (by decide) ?_
        refine GW.sub (lv' := [(0, .ref 22), (1, .ref 15), (2, .int v2), (3, .int (M.1 25 v7.toNatClampNeg)), (4, .int (M.1 25 v7.toNatClampNeg)), (5, .int (v5 + 1))]) [0, 1, 2, 3, 4, 5] rfl ?_
        exact h
      · replace h := ite_f h c4
        refine GW.iload_n (pc' := 84) dX2_leastOf_83 rfl rfl ?_
        refine GW.istore_n (pc' := 85) (lv' := [(0, .ref 22), (1, .ref 15), (2, .int v2), (3, .int v3), (4, .int (M.1 25 v7.toNatClampNeg)), (5, .int v5), (6, .int v6), (7, .int v7)]) dX2_leastOf_84 rfl rfl (by decide) rfl ?_
        refine GW.iinc (pc' := 88) (lv' := [(0, .ref 22), (1, .ref 15), (2, .int v2), (3, .int v3), (4, .int (M.1 25 v7.toNatClampNeg)), (5, .int (v5 + 1)), (6, .int v6), (7, .int v7)]) (v := (v5 + 1)) dX2_leastOf_85 rfl rfl (by decide) rfl rfl rfl ?_
        refine GW.goto (tgt := 8) dX2_leastOf_88 (by decide) ?_
        refine GW.sub (lv' := [(0, .ref 22), (1, .ref 15), (2, .int v2), (3, .int v3), (4, .int (M.1 25 v7.toNatClampNeg)), (5, .int (v5 + 1))]) [0, 1, 2, 3, 4, 5] rfl ?_
        exact h
    · replace h := ite_f h c3
      refine GW.iinc (pc' := 51) (lv' := [(0, .ref 22), (1, .ref 15), (2, .int v2), (3, .int v3), (4, .int v4), (5, .int v5), (6, .int v6), (7, .int (v7 + 1))]) (v := (v7 + 1)) dX2_leastOf_48 rfl rfl (by decide) rfl rfl rfl ?_
      refine GW.goto (tgt := 29) dX2_leastOf_51 (by decide) ?_
      exact h
  · replace h := ite_f h c1
    refine GW.iload (pc' := 56) dX2_leastOf_54 rfl rfl ?_
    refine GW.iload (pc' := 58) dX2_leastOf_56 rfl rfl ?_
    refine GW.if_icmplt (pc' := 61) (tgt := 63) dX2_leastOf_58 rfl (by decide) (ite_n c1 ?_)
    refine GW.iconst (pc' := 62) (v := (-1)) dX2_leastOf_61 rfl (by decide) ?_
    refine GW.iret dX2_leastOf_62 rfl ⟨_, rfl, ?_⟩
    exact h

set_option maxRecDepth 100000 in
set_option maxHeartbeats 4000000 in
theorem wp_X2_listDays_22_15 (xs : gX) (d : Nat) (v2 : Int32) (M : Mem) (Q : Int32 → Mem → Prop) (h : (vp_in v2 8 ∧ GW xs (d + 2) mX2_listDays 34 [(0, .ref 22), (1, .ref 15), (2, .int v2), (3, .int 0), (4, .int (gmin 199 ((M.1 23 v2.toNatClampNeg) + 6))), (5, .int (gmax 0 ((M.1 23 v2.toNatClampNeg) - 6)))] [] M (QI Q))) : MI xs (d + 2) mX2_listDays [.ref 22, .ref 15, .int v2] M Q := by
  refine MI.intro (lv := [(0, .ref 22), (1, .ref 15), (2, .int v2)]) mk_X2_listDays.2.2.2.2 (Nat.le_of_ble_eq_true rfl) rfl ?_
  refine GW.iconst (pc' := 1) (v := 0) dX2_listDays_0 rfl (by decide) ?_
  refine GW.istore_n (pc' := 2) (lv' := [(0, .ref 22), (1, .ref 15), (2, .int v2), (3, .int 0)]) dX2_listDays_1 rfl rfl (by decide) rfl ?_
  refine GW.sipush (pc' := 5) (v := 199) dX2_listDays_2 rfl (by decide) ?_
  refine GW.aload_n (pc' := 6) dX2_listDays_5 rfl rfl ?_
  refine GW.getR (pc' := 9) (t := 23) dX2_listDays_6 rfl fk_X2_9 rfl (by decide) rfl rfl ?_
  refine GW.iload_n (pc' := 10) dX2_listDays_9 rfl rfl ?_
  obtain ⟨b1, h⟩ := h
  refine GW.iaload (pc' := 11) (j := v2.toNatClampNeg) dX2_listDays_10 rfl rfl b1 rfl ?_
  refine GW.bipush (pc' := 13) (v := 6) dX2_listDays_11 rfl (by decide) ?_
  refine GW.iadd (pc' := 14) dX2_listDays_13 rfl ?_
  refine GW.mmin (pc' := 17) dX2_listDays_14 rfl zk_X2_35 (Nat.le_of_ble_eq_true rfl) ?_
  refine GW.istore (pc' := 19) (lv' := [(0, .ref 22), (1, .ref 15), (2, .int v2), (3, .int 0), (4, .int (gmin 199 ((M.1 23 v2.toNatClampNeg) + 6)))]) dX2_listDays_17 rfl rfl (by decide) rfl ?_
  refine GW.iconst (pc' := 20) (v := 0) dX2_listDays_19 rfl (by decide) ?_
  refine GW.aload_n (pc' := 21) dX2_listDays_20 rfl rfl ?_
  refine GW.getR (pc' := 24) (t := 23) dX2_listDays_21 rfl fk_X2_9 rfl (by decide) rfl rfl ?_
  refine GW.iload_n (pc' := 25) dX2_listDays_24 rfl rfl ?_
  refine GW.iaload (pc' := 26) (j := v2.toNatClampNeg) dX2_listDays_25 rfl rfl b1 rfl ?_
  refine GW.bipush (pc' := 28) (v := 6) dX2_listDays_26 rfl (by decide) ?_
  refine GW.isub (pc' := 29) dX2_listDays_28 rfl ?_
  refine GW.mmax (pc' := 32) dX2_listDays_29 rfl zk_X2_41 (Nat.le_of_ble_eq_true rfl) ?_
  refine GW.istore (pc' := 34) (lv' := [(0, .ref 22), (1, .ref 15), (2, .int v2), (3, .int 0), (4, .int (gmin 199 ((M.1 23 v2.toNatClampNeg) + 6))), (5, .int (gmax 0 ((M.1 23 v2.toNatClampNeg) - 6)))]) dX2_listDays_32 rfl rfl (by decide) rfl ?_
  exact h
set_option maxRecDepth 100000 in
set_option maxHeartbeats 4000000 in
theorem wp_X2_listDays_22_15_L34 (xs : gX) (d : Nat) (v2 : Int32) (v3 : Int32) (v4 : Int32) (v5 : Int32) (M : Mem) (Q : Int32 → Mem → Prop) (h : (if v4 < v5 then Q v3 M else (if v3 < 8 then (vp_in v2 8 ∧ MI xs (d + 1) mX6_isNamedAnywhere [.ref 15, .int (M.1 23 v2.toNatClampNeg), .int v5] M (fun r4 M5 => (if r4 = 0 then GW xs (d + 2) mX2_listDays 34 [(0, .ref 22), (1, .ref 15), (2, .int v2), (3, .int v3), (4, .int v4), (5, .int (v5 + 1))] [] M5 (QI Q) else (vp_in v3 8 ∧ GW xs (d + 2) mX2_listDays 34 [(0, .ref 22), (1, .ref 15), (2, .int v2), (3, .int (v3 + 1)), (4, .int v4), (5, .int (v5 + 1))] [] (mw M5 25 v3.toNatClampNeg ((v5 * 365) + (M5.1 24 v2.toNatClampNeg))) (QI Q))))) else GW xs (d + 2) mX2_listDays 34 [(0, .ref 22), (1, .ref 15), (2, .int v2), (3, .int v3), (4, .int v4), (5, .int (v5 + 1))] [] M (QI Q)))) : GW xs (d + 2) mX2_listDays 34 [(0, .ref 22), (1, .ref 15), (2, .int v2), (3, .int v3), (4, .int v4), (5, .int v5)] [] M (QI Q) := by
  refine GW.iload (pc' := 36) dX2_listDays_34 rfl rfl ?_
  refine GW.iload (pc' := 38) dX2_listDays_36 rfl rfl ?_
  refine GW.if_icmpgt (pc' := 41) (tgt := 90) dX2_listDays_38 rfl (by decide) (ite_i (fun c1 => ?_) (fun c1 => ?_))
  · replace h := ite_t h c1
    refine GW.iload_n (pc' := 91) dX2_listDays_90 rfl rfl ?_
    refine GW.iret dX2_listDays_91 rfl ⟨_, rfl, ?_⟩
    exact h
  · replace h := ite_f h c1
    refine GW.iload_n (pc' := 42) dX2_listDays_41 rfl rfl ?_
    refine GW.bipush (pc' := 44) (v := 8) dX2_listDays_42 rfl (by decide) ?_
    refine GW.if_icmpge (pc' := 47) (tgt := 84) dX2_listDays_44 rfl (by decide) (ite_i (fun c2 => ?_) (fun c2 => ?_))
    · replace h := ite_t h c2
      refine GW.aload_n (pc' := 48) dX2_listDays_47 rfl rfl ?_
      refine GW.aload_n (pc' := 49) dX2_listDays_48 rfl rfl ?_
      refine GW.getR (pc' := 52) (t := 23) dX2_listDays_49 rfl fk_X2_9 rfl (by decide) rfl rfl ?_
      refine GW.iload_n (pc' := 53) dX2_listDays_52 rfl rfl ?_
      obtain ⟨b3, h⟩ := h
      refine GW.iaload (pc' := 54) (j := v2.toNatClampNeg) dX2_listDays_53 rfl rfl b3 rfl ?_
      refine GW.iload (pc' := 56) dX2_listDays_54 rfl rfl ?_
      refine GW.callV (pc' := 59) (k := 15) (av := [.int (M.1 23 v2.toNatClampNeg), .int v5]) (rest := []) dX2_listDays_56 rfl mk_X6_isNamedAnywhere lk_X2_44 vk_X6_isNamedAnywhere ko_15 rfl rfl (Nat.le_of_ble_eq_true rfl) (bk_i (MI.mono h (fun r4 M5 h => ?_)))
      refine GW.ifeq (pc' := 62) (tgt := 84) dX2_listDays_59 rfl (by decide) (ite_i (fun c6 => ?_) (fun c6 => ?_))
      · replace h := ite_t h c6
        refine GW.iinc (pc' := 87) (lv' := [(0, .ref 22), (1, .ref 15), (2, .int v2), (3, .int v3), (4, .int v4), (5, .int (v5 + 1))]) (v := (v5 + 1)) dX2_listDays_84 rfl rfl (by decide) rfl rfl rfl ?_
        refine GW.goto (tgt := 34) dX2_listDays_87 (by decide) ?_
        exact h
      · replace h := ite_f h c6
        refine GW.aload_n (pc' := 63) dX2_listDays_62 rfl rfl ?_
        refine GW.getR (pc' := 66) (t := 25) dX2_listDays_63 rfl fk_X2_18 rfl (by decide) rfl rfl ?_
        refine GW.iload_n (pc' := 67) dX2_listDays_66 rfl rfl ?_
        refine GW.iload (pc' := 69) dX2_listDays_67 rfl rfl ?_
        refine GW.sipush (pc' := 72) (v := 365) dX2_listDays_69 rfl (by decide) ?_
        refine GW.imul (pc' := 73) dX2_listDays_72 rfl ?_
        refine GW.aload_n (pc' := 74) dX2_listDays_73 rfl rfl ?_
        refine GW.getR (pc' := 77) (t := 24) dX2_listDays_74 rfl fk_X2_15 rfl (by decide) rfl rfl ?_
        refine GW.iload_n (pc' := 78) dX2_listDays_77 rfl rfl ?_
        refine GW.iaload (pc' := 79) (j := v2.toNatClampNeg) dX2_listDays_78 rfl rfl b3 rfl ?_
        refine GW.iadd (pc' := 80) dX2_listDays_79 rfl ?_
        obtain ⟨b7, h⟩ := h
        refine GW.iastore (pc' := 81) (j := v3.toNatClampNeg) dX2_listDays_80 rfl rfl b7 rfl ?_
        refine GW.iinc (pc' := 84) (lv' := [(0, .ref 22), (1, .ref 15), (2, .int v2), (3, .int (v3 + 1)), (4, .int v4), (5, .int v5)]) (v := (v3 + 1)) dX2_listDays_81 rfl rfl (by decide) rfl rfl rfl ?_
        refine GW.iinc (pc' := 87) (lv' := [(0, .ref 22), (1, .ref 15), (2, .int v2), (3, .int (v3 + 1)), (4, .int v4), (5, .int (v5 + 1))]) (v := (v5 + 1)) dX2_listDays_84 rfl rfl (by decide) rfl rfl rfl ?_
        refine GW.goto (tgt := 34) dX2_listDays_87 (by decide) ?_
        exact h
    · replace h := ite_f h c2
      refine GW.iinc (pc' := 87) (lv' := [(0, .ref 22), (1, .ref 15), (2, .int v2), (3, .int v3), (4, .int v4), (5, .int (v5 + 1))]) (v := (v5 + 1)) dX2_listDays_84 rfl rfl (by decide) rfl rfl rfl ?_
      refine GW.goto (tgt := 34) dX2_listDays_87 (by decide) ?_
      exact h

set_option maxRecDepth 100000 in
set_option maxHeartbeats 4000000 in
theorem wp_X2_mayBe_22_15 (xs : gX) (d : Nat) (v2 : Int32) (v3 : Int32) (M : Mem) (Q : Int32 → Mem → Prop) (h : (if v3 < 0 then Q 0 M else (if v3 < 73000 then (vp_in v2 8 ∧ (if (v3 - v3 / 365 * 365) = (M.1 24 v2.toNatClampNeg) then MI xs (d + 1) mX6_isNamedAnywhere [.ref 15, .int (M.1 23 v2.toNatClampNeg), .int (v3 / 365)] M (fun r5 M6 => (if r5 = 0 then Q 0 M6 else Q 1 M6)) else Q 0 M)) else Q 0 M))) : MI xs (d + 2) mX2_mayBe [.ref 22, .ref 15, .int v2, .int v3] M Q := by
  refine MI.intro (lv := [(0, .ref 22), (1, .ref 15), (2, .int v2), (3, .int v3)]) mk_X2_mayBe.2.2.2.2 (Nat.le_of_ble_eq_true rfl) rfl ?_
  refine GW.iload_n (pc' := 1) dX2_mayBe_0 rfl rfl ?_
  refine GW.ldc (pc' := 3) (v := 73000) dX2_mayBe_1 rfl ck_X2_50 ?_
  refine GW.callS (pc' := 6) (av := [.int v3, .int 73000]) (rest := []) dX2_mayBe_3 rfl mk_X8_isWithin lk_X2_51 sk_X8_isWithin rfl rfl (Nat.le_of_ble_eq_true rfl) (bk_i (MI.intro (lv := [(0, .int v3), (1, .int 73000)]) mk_X8_isWithin.2.2.2.2 (Nat.le_of_ble_eq_true rfl) rfl ?_))
  refine GW.iload_n (pc' := 1) dX8_isWithin_0 rfl rfl ?_
  refine GW.iflt (pc' := 4) (tgt := 13) dX8_isWithin_1 rfl (by decide) (ite_i (fun c1 => ?_) (fun c1 => ?_))
  · replace h := ite_t h c1
    refine GW.iconst (pc' := 14) (v := 0) dX8_isWithin_13 rfl (by decide) ?_
    refine GW.zret dX8_isWithin_14 rfl (by decide) ⟨_, rfl, ?_⟩
    refine GW.ifeq (pc' := 9) (tgt := 45) dX2_mayBe_6 rfl (by decide) (ite_p (by decide) ?_)
    refine GW.iconst (pc' := 46) (v := 0) dX2_mayBe_45 rfl (by decide) ?_
    refine GW.zret dX2_mayBe_46 rfl (by decide) ⟨_, rfl, ?_⟩
    exact h
  · replace h := ite_f h c1
    refine GW.iload_n (pc' := 5) dX8_isWithin_4 rfl rfl ?_
    refine GW.iload_n (pc' := 6) dX8_isWithin_5 rfl rfl ?_
    refine GW.if_icmpge (pc' := 9) (tgt := 13) dX8_isWithin_6 rfl (by decide) (ite_i (fun c2 => ?_) (fun c2 => ?_))
    · replace h := ite_t h c2
      refine GW.iconst (pc' := 10) (v := 1) dX8_isWithin_9 rfl (by decide) ?_
      refine GW.goto (tgt := 14) dX8_isWithin_10 (by decide) ?_
      refine GW.zret dX8_isWithin_14 rfl (by decide) ⟨_, rfl, ?_⟩
      refine GW.ifeq (pc' := 9) (tgt := 45) dX2_mayBe_6 rfl (by decide) (ite_n (by decide) ?_)
      refine GW.iload_n (pc' := 10) dX2_mayBe_9 rfl rfl ?_
      refine GW.sipush (pc' := 13) (v := 365) dX2_mayBe_10 rfl (by decide) ?_
      refine GW.irem (pc' := 14) dX2_mayBe_13 rfl (by decide) ?_
      refine GW.aload_n (pc' := 15) dX2_mayBe_14 rfl rfl ?_
      refine GW.getR (pc' := 18) (t := 24) dX2_mayBe_15 rfl fk_X2_15 rfl (by decide) rfl rfl ?_
      refine GW.iload_n (pc' := 19) dX2_mayBe_18 rfl rfl ?_
      obtain ⟨b3, h⟩ := h
      refine GW.iaload (pc' := 20) (j := v2.toNatClampNeg) dX2_mayBe_19 rfl rfl b3 rfl ?_
      refine GW.if_icmpne (pc' := 23) (tgt := 45) dX2_mayBe_20 rfl (by decide) (ite_i (fun c4 => ?_) (fun c4 => ?_))
      · replace h := ite_t h c4
        refine GW.aload_n (pc' := 24) dX2_mayBe_23 rfl rfl ?_
        refine GW.aload_n (pc' := 25) dX2_mayBe_24 rfl rfl ?_
        refine GW.getR (pc' := 28) (t := 23) dX2_mayBe_25 rfl fk_X2_9 rfl (by decide) rfl rfl ?_
        refine GW.iload_n (pc' := 29) dX2_mayBe_28 rfl rfl ?_
        refine GW.iaload (pc' := 30) (j := v2.toNatClampNeg) dX2_mayBe_29 rfl rfl b3 rfl ?_
        refine GW.iload_n (pc' := 31) dX2_mayBe_30 rfl rfl ?_
        refine GW.sipush (pc' := 34) (v := 365) dX2_mayBe_31 rfl (by decide) ?_
        refine GW.idiv (pc' := 35) dX2_mayBe_34 rfl (by decide) ?_
        refine GW.callV (pc' := 38) (k := 15) (av := [.int (M.1 23 v2.toNatClampNeg), .int (v3 / 365)]) (rest := []) dX2_mayBe_35 rfl mk_X6_isNamedAnywhere lk_X2_44 vk_X6_isNamedAnywhere ko_15 rfl rfl (Nat.le_of_ble_eq_true rfl) (bk_i (MI.mono h (fun r5 M6 h => ?_)))
        refine GW.ifeq (pc' := 41) (tgt := 45) dX2_mayBe_38 rfl (by decide) (ite_i (fun c7 => ?_) (fun c7 => ?_))
        · replace h := ite_t h c7
          refine GW.iconst (pc' := 46) (v := 0) dX2_mayBe_45 rfl (by decide) ?_
          refine GW.zret dX2_mayBe_46 rfl (by decide) ⟨_, rfl, ?_⟩
          exact h
        · replace h := ite_f h c7
          refine GW.iconst (pc' := 42) (v := 1) dX2_mayBe_41 rfl (by decide) ?_
          refine GW.goto (tgt := 46) dX2_mayBe_42 (by decide) ?_
          refine GW.zret dX2_mayBe_46 rfl (by decide) ⟨_, rfl, ?_⟩
          exact h
      · replace h := ite_f h c4
        refine GW.iconst (pc' := 46) (v := 0) dX2_mayBe_45 rfl (by decide) ?_
        refine GW.zret dX2_mayBe_46 rfl (by decide) ⟨_, rfl, ?_⟩
        exact h
    · replace h := ite_f h c2
      refine GW.iconst (pc' := 14) (v := 0) dX8_isWithin_13 rfl (by decide) ?_
      refine GW.zret dX8_isWithin_14 rfl (by decide) ⟨_, rfl, ?_⟩
      refine GW.ifeq (pc' := 9) (tgt := 45) dX2_mayBe_6 rfl (by decide) (ite_p (by decide) ?_)
      refine GW.iconst (pc' := 46) (v := 0) dX2_mayBe_45 rfl (by decide) ?_
      refine GW.zret dX2_mayBe_46 rfl (by decide) ⟨_, rfl, ?_⟩
      exact h

set_option maxRecDepth 100000 in
set_option maxHeartbeats 4000000 in
theorem wp_X2_waysBefore_22 (xs : gX) (d : Nat) (v1 : Int32) (v2 : Int32) (M : Mem) (Q : Int64 → Mem → Prop) (h : GW xs d mX2_waysBefore 5 [(0, .ref 22), (1, .int v1), (2, .int v2), (3, .long 0), (5, .int 0)] [] M (QL Q)) : ML xs d mX2_waysBefore [.ref 22, .int v1, .int v2] M Q := by
  refine ML.intro (lv := [(0, .ref 22), (1, .int v1), (2, .int v2)]) mk_X2_waysBefore.2.2.2.2 (Nat.le_of_ble_eq_true rfl) rfl ?_
  refine GW.lconst (pc' := 1) (v := 0) dX2_waysBefore_0 rfl (by decide) ?_
  refine GW.lstore_n (pc' := 2) (lv' := [(0, .ref 22), (1, .int v1), (2, .int v2), (3, .long 0)]) dX2_waysBefore_1 rfl rfl (by decide) rfl ?_
  refine GW.iconst (pc' := 3) (v := 0) dX2_waysBefore_2 rfl (by decide) ?_
  refine GW.istore (pc' := 5) (lv' := [(0, .ref 22), (1, .int v1), (2, .int v2), (3, .long 0), (5, .int 0)]) dX2_waysBefore_3 rfl rfl (by decide) rfl ?_
  exact h
set_option maxRecDepth 100000 in
set_option maxHeartbeats 4000000 in
theorem wp_X2_waysBefore_22_L5 (xs : gX) (d : Nat) (v1 : Int32) (v2 : Int32) (v3 : Int64) (v5 : Int32) (M : Mem) (Q : Int64 → Mem → Prop) (h : (if v5 < v2 then (vp_in v5 8 ∧ (if (M.1 27 v5.toNatClampNeg) < v1 then GW xs d mX2_waysBefore 5 [(0, .ref 22), (1, .int v1), (2, .int v2), (3, .long (v3 + (M.2 28 v5.toNatClampNeg))), (5, .int (v5 + 1))] [] M (QL Q) else GW xs d mX2_waysBefore 5 [(0, .ref 22), (1, .int v1), (2, .int v2), (3, .long v3), (5, .int (v5 + 1))] [] M (QL Q))) else Q v3 M)) : GW xs d mX2_waysBefore 5 [(0, .ref 22), (1, .int v1), (2, .int v2), (3, .long v3), (5, .int v5)] [] M (QL Q) := by
  refine GW.iload (pc' := 7) dX2_waysBefore_5 rfl rfl ?_
  refine GW.iload_n (pc' := 8) dX2_waysBefore_7 rfl rfl ?_
  refine GW.if_icmpge (pc' := 11) (tgt := 38) dX2_waysBefore_8 rfl (by decide) (ite_i (fun c1 => ?_) (fun c1 => ?_))
  · replace h := ite_t h c1
    refine GW.aload_n (pc' := 12) dX2_waysBefore_11 rfl rfl ?_
    refine GW.getR (pc' := 15) (t := 27) dX2_waysBefore_12 rfl fk_X2_25 rfl (by decide) rfl rfl ?_
    refine GW.iload (pc' := 17) dX2_waysBefore_15 rfl rfl ?_
    obtain ⟨b2, h⟩ := h
    refine GW.iaload (pc' := 18) (j := v5.toNatClampNeg) dX2_waysBefore_17 rfl rfl b2 rfl ?_
    refine GW.iload_n (pc' := 19) dX2_waysBefore_18 rfl rfl ?_
    refine GW.if_icmpge (pc' := 22) (tgt := 32) dX2_waysBefore_19 rfl (by decide) (ite_i (fun c3 => ?_) (fun c3 => ?_))
    · replace h := ite_t h c3
      refine GW.lload_n (pc' := 23) dX2_waysBefore_22 rfl rfl ?_
      refine GW.aload_n (pc' := 24) dX2_waysBefore_23 rfl rfl ?_
      refine GW.getR (pc' := 27) (t := 28) dX2_waysBefore_24 rfl fk_X2_28 rfl (by decide) rfl rfl ?_
      refine GW.iload (pc' := 29) dX2_waysBefore_27 rfl rfl ?_
      refine GW.laload (pc' := 30) (j := v5.toNatClampNeg) dX2_waysBefore_29 rfl rfl b2 rfl ?_
      refine GW.ladd (pc' := 31) dX2_waysBefore_30 rfl ?_
      refine GW.lstore_n (pc' := 32) (lv' := [(0, .ref 22), (1, .int v1), (2, .int v2), (3, .long (v3 + (M.2 28 v5.toNatClampNeg))), (5, .int v5)]) dX2_waysBefore_31 rfl rfl (by decide) rfl ?_
      refine GW.iinc (pc' := 35) (lv' := [(0, .ref 22), (1, .int v1), (2, .int v2), (3, .long (v3 + (M.2 28 v5.toNatClampNeg))), (5, .int (v5 + 1))]) (v := (v5 + 1)) dX2_waysBefore_32 rfl rfl (by decide) rfl rfl rfl ?_
      refine GW.goto (tgt := 5) dX2_waysBefore_35 (by decide) ?_
      exact h
    · replace h := ite_f h c3
      refine GW.iinc (pc' := 35) (lv' := [(0, .ref 22), (1, .int v1), (2, .int v2), (3, .long v3), (5, .int (v5 + 1))]) (v := (v5 + 1)) dX2_waysBefore_32 rfl rfl (by decide) rfl rfl rfl ?_
      refine GW.goto (tgt := 5) dX2_waysBefore_35 (by decide) ?_
      exact h
  · replace h := ite_f h c1
    refine GW.lload_n (pc' := 39) dX2_waysBefore_38 rfl rfl ?_
    refine GW.lret dX2_waysBefore_39 rfl ⟨_, rfl, ?_⟩
    exact h

set_option maxRecDepth 100000 in
set_option maxHeartbeats 4000000 in
theorem wp_X3_add_20 (xs : gX) (d : Nat) (v1 : Int32) (v2 : Int32) (v3 : Int32) (v4 : Int32) (M : Mem) (Q : Mem → Prop) (h : (if (M.1 20 1) < 10 then (vp_in (((M.1 20 1) * 4) + 0) 40 ∧ (vp_in (((M.1 20 1) * 4) + 1) 40 ∧ (vp_in (((M.1 20 1) * 4) + 2) 40 ∧ (vp_in (((M.1 20 1) * 4) + 3) 40 ∧ Q (mw (mw (mw (mw (mw M 21 ((((M.1 20 1) * 4) + 0)).toNatClampNeg v1) 21 ((((M.1 20 1) * 4) + 1)).toNatClampNeg v2) 21 ((((M.1 20 1) * 4) + 2)).toNatClampNeg v3) 21 ((((M.1 20 1) * 4) + 3)).toNatClampNeg v4) 20 1 ((M.1 20 1) + 1)))))) else Q M)) : MV xs d mX3_add [.ref 20, .int v1, .int v2, .int v3, .int v4] M Q := by
  refine MV.intro (lv := [(0, .ref 20), (1, .int v1), (2, .int v2), (3, .int v3), (4, .int v4)]) mk_X3_add.2.2.2.2 (Nat.le_of_ble_eq_true rfl) rfl ?_
  refine GW.aload_n (pc' := 1) dX3_add_0 rfl rfl ?_
  refine GW.getI (pc' := 4) dX3_add_1 rfl fk_X3_15 rfl (by decide) rfl rfl ?_
  refine GW.bipush (pc' := 6) (v := 10) dX3_add_4 rfl (by decide) ?_
  refine GW.if_icmplt (pc' := 9) (tgt := 10) dX3_add_6 rfl (by decide) (ite_i (fun c1 => ?_) (fun c1 => ?_))
  · replace h := ite_t h c1
    refine GW.aload_n (pc' := 11) dX3_add_10 rfl rfl ?_
    refine GW.getR (pc' := 14) (t := 21) dX3_add_11 rfl fk_X3_9 rfl (by decide) rfl rfl ?_
    refine GW.aload_n (pc' := 15) dX3_add_14 rfl rfl ?_
    refine GW.getI (pc' := 18) dX3_add_15 rfl fk_X3_15 rfl (by decide) rfl rfl ?_
    refine GW.iconst (pc' := 19) (v := 4) dX3_add_18 rfl (by decide) ?_
    refine GW.imul (pc' := 20) dX3_add_19 rfl ?_
    refine GW.iconst (pc' := 21) (v := 0) dX3_add_20 rfl (by decide) ?_
    refine GW.iadd (pc' := 22) dX3_add_21 rfl ?_
    refine GW.iload_n (pc' := 23) dX3_add_22 rfl rfl ?_
    obtain ⟨b2, h⟩ := h
    refine GW.iastore (pc' := 24) (j := ((((M.1 20 1) * 4) + 0)).toNatClampNeg) dX3_add_23 rfl rfl b2 rfl ?_
    refine GW.aload_n (pc' := 25) dX3_add_24 rfl rfl ?_
    refine GW.getR (pc' := 28) (t := 21) dX3_add_25 rfl fk_X3_9 rfl (by decide) rfl rfl ?_
    refine GW.aload_n (pc' := 29) dX3_add_28 rfl rfl ?_
    refine GW.getI (pc' := 32) dX3_add_29 rfl fk_X3_15 rfl (by decide) rfl rfl ?_
    refine GW.iconst (pc' := 33) (v := 4) dX3_add_32 rfl (by decide) ?_
    refine GW.imul (pc' := 34) dX3_add_33 rfl ?_
    refine GW.iconst (pc' := 35) (v := 1) dX3_add_34 rfl (by decide) ?_
    refine GW.iadd (pc' := 36) dX3_add_35 rfl ?_
    refine GW.iload_n (pc' := 37) dX3_add_36 rfl rfl ?_
    obtain ⟨b3, h⟩ := h
    refine GW.iastore (pc' := 38) (j := ((((M.1 20 1) * 4) + 1)).toNatClampNeg) dX3_add_37 rfl rfl b3 rfl ?_
    refine GW.aload_n (pc' := 39) dX3_add_38 rfl rfl ?_
    refine GW.getR (pc' := 42) (t := 21) dX3_add_39 rfl fk_X3_9 rfl (by decide) rfl rfl ?_
    refine GW.aload_n (pc' := 43) dX3_add_42 rfl rfl ?_
    refine GW.getI (pc' := 46) dX3_add_43 rfl fk_X3_15 rfl (by decide) rfl rfl ?_
    refine GW.iconst (pc' := 47) (v := 4) dX3_add_46 rfl (by decide) ?_
    refine GW.imul (pc' := 48) dX3_add_47 rfl ?_
    refine GW.iconst (pc' := 49) (v := 2) dX3_add_48 rfl (by decide) ?_
    refine GW.iadd (pc' := 50) dX3_add_49 rfl ?_
    refine GW.iload_n (pc' := 51) dX3_add_50 rfl rfl ?_
    obtain ⟨b4, h⟩ := h
    refine GW.iastore (pc' := 52) (j := ((((M.1 20 1) * 4) + 2)).toNatClampNeg) dX3_add_51 rfl rfl b4 rfl ?_
    refine GW.aload_n (pc' := 53) dX3_add_52 rfl rfl ?_
    refine GW.getR (pc' := 56) (t := 21) dX3_add_53 rfl fk_X3_9 rfl (by decide) rfl rfl ?_
    refine GW.aload_n (pc' := 57) dX3_add_56 rfl rfl ?_
    refine GW.getI (pc' := 60) dX3_add_57 rfl fk_X3_15 rfl (by decide) rfl rfl ?_
    refine GW.iconst (pc' := 61) (v := 4) dX3_add_60 rfl (by decide) ?_
    refine GW.imul (pc' := 62) dX3_add_61 rfl ?_
    refine GW.iconst (pc' := 63) (v := 3) dX3_add_62 rfl (by decide) ?_
    refine GW.iadd (pc' := 64) dX3_add_63 rfl ?_
    refine GW.iload (pc' := 66) dX3_add_64 rfl rfl ?_
    obtain ⟨b5, h⟩ := h
    refine GW.iastore (pc' := 67) (j := ((((M.1 20 1) * 4) + 3)).toNatClampNeg) dX3_add_66 rfl rfl b5 rfl ?_
    refine GW.aload_n (pc' := 68) dX3_add_67 rfl rfl ?_
    refine GW.dup (pc' := 69) dX3_add_68 rfl rfl ?_
    refine GW.getI (pc' := 72) dX3_add_69 rfl fk_X3_15 rfl (by decide) rfl rfl ?_
    refine GW.iconst (pc' := 73) (v := 1) dX3_add_72 rfl (by decide) ?_
    refine GW.iadd (pc' := 74) dX3_add_73 rfl ?_
    refine GW.putI (pc' := 77) dX3_add_74 rfl fp_X3_15 rfl (by decide) rfl rfl ⟨rfl, rfl⟩ ?_
    refine GW.vret dX3_add_77 rfl ⟨rfl, ?_⟩
    exact h
  · replace h := ite_f h c1
    refine GW.vret dX3_add_9 rfl ⟨rfl, ?_⟩
    exact h

set_option maxRecDepth 100000 in
set_option maxHeartbeats 4000000 in
theorem wp_X3_become_20_43 (xs : gX) (d : Nat)  (M : Mem) (Q : Mem → Prop) (h : Q (mw (mwA M 21 (va_cpy (M.1 44) (M.1 21) 0 0 40)) 20 1 (M.1 43 1))) : MV xs (d + 1) mX3_become [.ref 20, .ref 43] M Q := by
  refine MV.intro (lv := [(0, .ref 20), (1, .ref 43)]) mk_X3_become.2.2.2.2 (Nat.le_of_ble_eq_true rfl) rfl ?_
  refine GW.aload_n (pc' := 1) dX3_become_0 rfl rfl ?_
  refine GW.getR (pc' := 4) (t := 44) dX3_become_1 rfl fk_X3_9 rfl (by decide) rfl rfl ?_
  refine GW.iconst (pc' := 5) (v := 0) dX3_become_4 rfl (by decide) ?_
  refine GW.aload_n (pc' := 6) dX3_become_5 rfl rfl ?_
  refine GW.getR (pc' := 9) (t := 21) dX3_become_6 rfl fk_X3_9 rfl (by decide) rfl rfl ?_
  refine GW.iconst (pc' := 10) (v := 0) dX3_become_9 rfl (by decide) ?_
  refine GW.aload_n (pc' := 11) dX3_become_10 rfl rfl ?_
  refine GW.getR (pc' := 14) (t := 21) dX3_become_11 rfl fk_X3_9 rfl (by decide) rfl rfl ?_
  refine GW.alen (pc' := 15) (v := 40) dX3_become_14 rfl rfl (by decide) ?_
  refine GW.copyi (pc' := 18) (sp' := 0) (dp' := 0) (n' := 40) dX3_become_15 rfl ak_X3_30 rfl rfl (by unfold CPK; decide) (by decide) (by decide) (by decide) (Nat.le_of_ble_eq_true rfl) ?_
  refine GW.aload_n (pc' := 19) dX3_become_18 rfl rfl ?_
  refine GW.aload_n (pc' := 20) dX3_become_19 rfl rfl ?_
  refine GW.getI (pc' := 23) dX3_become_20 rfl fk_X3_15 rfl (by decide) rfl rfl ?_
  refine GW.putI (pc' := 26) dX3_become_23 rfl fp_X3_15 rfl (by decide) rfl rfl ⟨rfl, rfl⟩ ?_
  refine GW.vret dX3_become_26 rfl ⟨rfl, ?_⟩
  exact h

set_option maxRecDepth 100000 in
set_option maxHeartbeats 4000000 in
theorem wp_X3_become_43_20 (xs : gX) (d : Nat)  (M : Mem) (Q : Mem → Prop) (h : Q (mw (mwA M 44 (va_cpy (M.1 21) (M.1 44) 0 0 40)) 43 1 (M.1 20 1))) : MV xs (d + 1) mX3_become [.ref 43, .ref 20] M Q := by
  refine MV.intro (lv := [(0, .ref 43), (1, .ref 20)]) mk_X3_become.2.2.2.2 (Nat.le_of_ble_eq_true rfl) rfl ?_
  refine GW.aload_n (pc' := 1) dX3_become_0 rfl rfl ?_
  refine GW.getR (pc' := 4) (t := 21) dX3_become_1 rfl fk_X3_9 rfl (by decide) rfl rfl ?_
  refine GW.iconst (pc' := 5) (v := 0) dX3_become_4 rfl (by decide) ?_
  refine GW.aload_n (pc' := 6) dX3_become_5 rfl rfl ?_
  refine GW.getR (pc' := 9) (t := 44) dX3_become_6 rfl fk_X3_9 rfl (by decide) rfl rfl ?_
  refine GW.iconst (pc' := 10) (v := 0) dX3_become_9 rfl (by decide) ?_
  refine GW.aload_n (pc' := 11) dX3_become_10 rfl rfl ?_
  refine GW.getR (pc' := 14) (t := 44) dX3_become_11 rfl fk_X3_9 rfl (by decide) rfl rfl ?_
  refine GW.alen (pc' := 15) (v := 40) dX3_become_14 rfl rfl (by decide) ?_
  refine GW.copyi (pc' := 18) (sp' := 0) (dp' := 0) (n' := 40) dX3_become_15 rfl ak_X3_30 rfl rfl (by unfold CPK; decide) (by decide) (by decide) (by decide) (Nat.le_of_ble_eq_true rfl) ?_
  refine GW.aload_n (pc' := 19) dX3_become_18 rfl rfl ?_
  refine GW.aload_n (pc' := 20) dX3_become_19 rfl rfl ?_
  refine GW.getI (pc' := 23) dX3_become_20 rfl fk_X3_15 rfl (by decide) rfl rfl ?_
  refine GW.putI (pc' := 26) dX3_become_23 rfl fp_X3_15 rfl (by decide) rfl rfl ⟨rfl, rfl⟩ ?_
  refine GW.vret dX3_become_26 rfl ⟨rfl, ?_⟩
  exact h

set_option maxRecDepth 100000 in
set_option maxHeartbeats 4000000 in
theorem wp_X3_change_20 (xs : gX) (d : Nat) (v1 : Int32) (v2 : Int32) (v3 : Int32) (M : Mem) (Q : Int32 → Mem → Prop) (h : MI xs (d + 1) mX3_fact [.ref 20, .int v1, .int v2] M (fun r1 M2 => (if ((v1 * 4) + v2) < 0 then Q r1 M2 else (if ((v1 * 4) + v2) < 40 then (vp_in ((v1 * 4) + v2) 40 ∧ Q r1 (mw M2 21 (((v1 * 4) + v2)).toNatClampNeg v3)) else Q r1 M2)))) : MI xs (d + 2) mX3_change [.ref 20, .int v1, .int v2, .int v3] M Q := by
  refine MI.intro (lv := [(0, .ref 20), (1, .int v1), (2, .int v2), (3, .int v3)]) mk_X3_change.2.2.2.2 (Nat.le_of_ble_eq_true rfl) rfl ?_
  refine GW.aload_n (pc' := 1) dX3_change_0 rfl rfl ?_
  refine GW.iload_n (pc' := 2) dX3_change_1 rfl rfl ?_
  refine GW.iload_n (pc' := 3) dX3_change_2 rfl rfl ?_
  refine GW.callV (pc' := 6) (k := 20) (av := [.int v1, .int v2]) (rest := []) dX3_change_3 rfl mk_X3_fact lk_X3_23 vk_X3_fact ko_20 rfl rfl (Nat.le_of_ble_eq_true rfl) (bk_i (MI.mono h (fun r1 M2 h => ?_)))
  refine GW.istore (pc' := 8) (lv' := [(0, .ref 20), (1, .int v1), (2, .int v2), (3, .int v3), (4, .int r1)]) dX3_change_6 rfl rfl (by decide) rfl ?_
  refine GW.iload_n (pc' := 9) dX3_change_8 rfl rfl ?_
  refine GW.iconst (pc' := 10) (v := 4) dX3_change_9 rfl (by decide) ?_
  refine GW.imul (pc' := 11) dX3_change_10 rfl ?_
  refine GW.iload_n (pc' := 12) dX3_change_11 rfl rfl ?_
  refine GW.iadd (pc' := 13) dX3_change_12 rfl ?_
  refine GW.istore (pc' := 15) (lv' := [(0, .ref 20), (1, .int v1), (2, .int v2), (3, .int v3), (4, .int r1), (5, .int ((v1 * 4) + v2))]) dX3_change_13 rfl rfl (by decide) rfl ?_
  refine GW.iload (pc' := 17) dX3_change_15 rfl rfl ?_
  refine GW.aload_n (pc' := 18) dX3_change_17 rfl rfl ?_
  refine GW.getR (pc' := 21) (t := 21) dX3_change_18 rfl fk_X3_9 rfl (by decide) rfl rfl ?_
  refine GW.alen (pc' := 22) (v := 40) dX3_change_21 rfl rfl (by decide) ?_
  refine GW.callS (pc' := 25) (av := [.int ((v1 * 4) + v2), .int 40]) (rest := []) dX3_change_22 rfl mk_X8_isWithin lk_X3_19 sk_X8_isWithin rfl rfl (Nat.le_of_ble_eq_true rfl) (bk_i (MI.intro (lv := [(0, .int ((v1 * 4) + v2)), (1, .int 40)]) mk_X8_isWithin.2.2.2.2 (Nat.le_of_ble_eq_true rfl) rfl ?_))
  refine GW.iload_n (pc' := 1) dX8_isWithin_0 rfl rfl ?_
  refine GW.iflt (pc' := 4) (tgt := 13) dX8_isWithin_1 rfl (by decide) (ite_i (fun c3 => ?_) (fun c3 => ?_))
  · replace h := ite_t h c3
    refine GW.iconst (pc' := 14) (v := 0) dX8_isWithin_13 rfl (by decide) ?_
    refine GW.zret dX8_isWithin_14 rfl (by decide) ⟨_, rfl, ?_⟩
    refine GW.ifeq (pc' := 28) (tgt := 36) dX3_change_25 rfl (by decide) (ite_p (by decide) ?_)
    refine GW.iload (pc' := 38) dX3_change_36 rfl rfl ?_
    refine GW.iret dX3_change_38 rfl ⟨_, rfl, ?_⟩
    exact h
  · replace h := ite_f h c3
    refine GW.iload_n (pc' := 5) dX8_isWithin_4 rfl rfl ?_
    refine GW.iload_n (pc' := 6) dX8_isWithin_5 rfl rfl ?_
    refine GW.if_icmpge (pc' := 9) (tgt := 13) dX8_isWithin_6 rfl (by decide) (ite_i (fun c4 => ?_) (fun c4 => ?_))
    · replace h := ite_t h c4
      refine GW.iconst (pc' := 10) (v := 1) dX8_isWithin_9 rfl (by decide) ?_
      refine GW.goto (tgt := 14) dX8_isWithin_10 (by decide) ?_
      refine GW.zret dX8_isWithin_14 rfl (by decide) ⟨_, rfl, ?_⟩
      refine GW.ifeq (pc' := 28) (tgt := 36) dX3_change_25 rfl (by decide) (ite_n (by decide) ?_)
      refine GW.aload_n (pc' := 29) dX3_change_28 rfl rfl ?_
      refine GW.getR (pc' := 32) (t := 21) dX3_change_29 rfl fk_X3_9 rfl (by decide) rfl rfl ?_
      refine GW.iload (pc' := 34) dX3_change_32 rfl rfl ?_
      refine GW.iload_n (pc' := 35) dX3_change_34 rfl rfl ?_
      obtain ⟨b5, h⟩ := h
      refine GW.iastore (pc' := 36) (j := (((v1 * 4) + v2)).toNatClampNeg) dX3_change_35 rfl rfl b5 rfl ?_
      refine GW.iload (pc' := 38) dX3_change_36 rfl rfl ?_
      refine GW.iret dX3_change_38 rfl ⟨_, rfl, ?_⟩
      exact h
    · replace h := ite_f h c4
      refine GW.iconst (pc' := 14) (v := 0) dX8_isWithin_13 rfl (by decide) ?_
      refine GW.zret dX8_isWithin_14 rfl (by decide) ⟨_, rfl, ?_⟩
      refine GW.ifeq (pc' := 28) (tgt := 36) dX3_change_25 rfl (by decide) (ite_p (by decide) ?_)
      refine GW.iload (pc' := 38) dX3_change_36 rfl rfl ?_
      refine GW.iret dX3_change_38 rfl ⟨_, rfl, ?_⟩
      exact h

set_option maxRecDepth 100000 in
set_option maxHeartbeats 4000000 in
theorem wp_X3_fact_20 (xs : gX) (d : Nat) (v1 : Int32) (v2 : Int32) (M : Mem) (Q : Int32 → Mem → Prop) (h : (if ((v1 * 4) + v2) < 0 then Q 0 M else (if ((v1 * 4) + v2) < 40 then (vp_in ((v1 * 4) + v2) 40 ∧ Q (M.1 21 (((v1 * 4) + v2)).toNatClampNeg) M) else Q 0 M))) : MI xs (d + 1) mX3_fact [.ref 20, .int v1, .int v2] M Q := by
  refine MI.intro (lv := [(0, .ref 20), (1, .int v1), (2, .int v2)]) mk_X3_fact.2.2.2.2 (Nat.le_of_ble_eq_true rfl) rfl ?_
  refine GW.iload_n (pc' := 1) dX3_fact_0 rfl rfl ?_
  refine GW.iconst (pc' := 2) (v := 4) dX3_fact_1 rfl (by decide) ?_
  refine GW.imul (pc' := 3) dX3_fact_2 rfl ?_
  refine GW.iload_n (pc' := 4) dX3_fact_3 rfl rfl ?_
  refine GW.iadd (pc' := 5) dX3_fact_4 rfl ?_
  refine GW.istore_n (pc' := 6) (lv' := [(0, .ref 20), (1, .int v1), (2, .int v2), (3, .int ((v1 * 4) + v2))]) dX3_fact_5 rfl rfl (by decide) rfl ?_
  refine GW.iload_n (pc' := 7) dX3_fact_6 rfl rfl ?_
  refine GW.aload_n (pc' := 8) dX3_fact_7 rfl rfl ?_
  refine GW.getR (pc' := 11) (t := 21) dX3_fact_8 rfl fk_X3_9 rfl (by decide) rfl rfl ?_
  refine GW.alen (pc' := 12) (v := 40) dX3_fact_11 rfl rfl (by decide) ?_
  refine GW.callS (pc' := 15) (av := [.int ((v1 * 4) + v2), .int 40]) (rest := []) dX3_fact_12 rfl mk_X8_isWithin lk_X3_19 sk_X8_isWithin rfl rfl (Nat.le_of_ble_eq_true rfl) (bk_i (MI.intro (lv := [(0, .int ((v1 * 4) + v2)), (1, .int 40)]) mk_X8_isWithin.2.2.2.2 (Nat.le_of_ble_eq_true rfl) rfl ?_))
  refine GW.iload_n (pc' := 1) dX8_isWithin_0 rfl rfl ?_
  refine GW.iflt (pc' := 4) (tgt := 13) dX8_isWithin_1 rfl (by decide) (ite_i (fun c1 => ?_) (fun c1 => ?_))
  · replace h := ite_t h c1
    refine GW.iconst (pc' := 14) (v := 0) dX8_isWithin_13 rfl (by decide) ?_
    refine GW.zret dX8_isWithin_14 rfl (by decide) ⟨_, rfl, ?_⟩
    refine GW.ifeq (pc' := 18) (tgt := 27) dX3_fact_15 rfl (by decide) (ite_p (by decide) ?_)
    refine GW.iconst (pc' := 28) (v := 0) dX3_fact_27 rfl (by decide) ?_
    refine GW.iret dX3_fact_28 rfl ⟨_, rfl, ?_⟩
    exact h
  · replace h := ite_f h c1
    refine GW.iload_n (pc' := 5) dX8_isWithin_4 rfl rfl ?_
    refine GW.iload_n (pc' := 6) dX8_isWithin_5 rfl rfl ?_
    refine GW.if_icmpge (pc' := 9) (tgt := 13) dX8_isWithin_6 rfl (by decide) (ite_i (fun c2 => ?_) (fun c2 => ?_))
    · replace h := ite_t h c2
      refine GW.iconst (pc' := 10) (v := 1) dX8_isWithin_9 rfl (by decide) ?_
      refine GW.goto (tgt := 14) dX8_isWithin_10 (by decide) ?_
      refine GW.zret dX8_isWithin_14 rfl (by decide) ⟨_, rfl, ?_⟩
      refine GW.ifeq (pc' := 18) (tgt := 27) dX3_fact_15 rfl (by decide) (ite_n (by decide) ?_)
      refine GW.aload_n (pc' := 19) dX3_fact_18 rfl rfl ?_
      refine GW.getR (pc' := 22) (t := 21) dX3_fact_19 rfl fk_X3_9 rfl (by decide) rfl rfl ?_
      refine GW.iload_n (pc' := 23) dX3_fact_22 rfl rfl ?_
      obtain ⟨b3, h⟩ := h
      refine GW.iaload (pc' := 24) (j := (((v1 * 4) + v2)).toNatClampNeg) dX3_fact_23 rfl rfl b3 rfl ?_
      refine GW.goto (tgt := 28) dX3_fact_24 (by decide) ?_
      refine GW.iret dX3_fact_28 rfl ⟨_, rfl, ?_⟩
      exact h
    · replace h := ite_f h c2
      refine GW.iconst (pc' := 14) (v := 0) dX8_isWithin_13 rfl (by decide) ?_
      refine GW.zret dX8_isWithin_14 rfl (by decide) ⟨_, rfl, ?_⟩
      refine GW.ifeq (pc' := 18) (tgt := 27) dX3_fact_15 rfl (by decide) (ite_p (by decide) ?_)
      refine GW.iconst (pc' := 28) (v := 0) dX3_fact_27 rfl (by decide) ?_
      refine GW.iret dX3_fact_28 rfl ⟨_, rfl, ?_⟩
      exact h

set_option maxRecDepth 100000 in
set_option maxHeartbeats 4000000 in
theorem wp_X3_isOf_20 (xs : gX) (d : Nat) (v1 : Int32) (v2 : Int32) (M : Mem) (Q : Int32 → Mem → Prop) (h : MI xs (d + 1) mX3_fact [.ref 20, .int v1, .int 0] M (fun r1 M2 => GW xs (d + 2) mX3_isOf 10 [(0, .ref 20), (1, .int v1), (2, .int v2), (3, .int r1), (4, .int 0)] [] M2 (QI Q))) : MI xs (d + 2) mX3_isOf [.ref 20, .int v1, .int v2] M Q := by
  refine MI.intro (lv := [(0, .ref 20), (1, .int v1), (2, .int v2)]) mk_X3_isOf.2.2.2.2 (Nat.le_of_ble_eq_true rfl) rfl ?_
  refine GW.aload_n (pc' := 1) dX3_isOf_0 rfl rfl ?_
  refine GW.iload_n (pc' := 2) dX3_isOf_1 rfl rfl ?_
  refine GW.iconst (pc' := 3) (v := 0) dX3_isOf_2 rfl (by decide) ?_
  refine GW.callV (pc' := 6) (k := 20) (av := [.int v1, .int 0]) (rest := []) dX3_isOf_3 rfl mk_X3_fact lk_X3_23 vk_X3_fact ko_20 rfl rfl (Nat.le_of_ble_eq_true rfl) (bk_i (MI.mono h (fun r1 M2 h => ?_)))
  refine GW.istore_n (pc' := 7) (lv' := [(0, .ref 20), (1, .int v1), (2, .int v2), (3, .int r1)]) dX3_isOf_6 rfl rfl (by decide) rfl ?_
  refine GW.iconst (pc' := 8) (v := 0) dX3_isOf_7 rfl (by decide) ?_
  refine GW.istore (pc' := 10) (lv' := [(0, .ref 20), (1, .int v1), (2, .int v2), (3, .int r1), (4, .int 0)]) dX3_isOf_8 rfl rfl (by decide) rfl ?_
  exact h
set_option maxRecDepth 100000 in
set_option maxHeartbeats 4000000 in
theorem wp_X3_isOf_20_L10 (xs : gX) (d : Nat) (v1 : Int32) (v2 : Int32) (v3 : Int32) (v4 : Int32) (M : Mem) (Q : Int32 → Mem → Prop) (h : (if v4 < 7 then (if v3 < 0 then Q 0 M else (if v3 < 7 then (if v3 = v2 then Q 1 M else (vp_in v3 7 ∧ GW xs (d + 2) mX3_isOf 10 [(0, .ref 20), (1, .int v1), (2, .int v2), (3, .int (tbF 2000 v3.toNatClampNeg)), (4, .int (v4 + 1))] [] M (QI Q))) else Q 0 M)) else Q 0 M)) : GW xs (d + 2) mX3_isOf 10 [(0, .ref 20), (1, .int v1), (2, .int v2), (3, .int v3), (4, .int v4)] [] M (QI Q) := by
  refine GW.iload (pc' := 12) dX3_isOf_10 rfl rfl ?_
  refine GW.bipush (pc' := 14) (v := 7) dX3_isOf_12 rfl (by decide) ?_
  refine GW.if_icmpge (pc' := 17) (tgt := 45) dX3_isOf_14 rfl (by decide) (ite_i (fun c1 => ?_) (fun c1 => ?_))
  · replace h := ite_t h c1
    refine GW.iload_n (pc' := 18) dX3_isOf_17 rfl rfl ?_
    refine GW.bipush (pc' := 20) (v := 7) dX3_isOf_18 rfl (by decide) ?_
    refine GW.callS (pc' := 23) (av := [.int v3, .int 7]) (rest := []) dX3_isOf_20 rfl mk_X8_isWithin lk_X3_19 sk_X8_isWithin rfl rfl (Nat.le_of_ble_eq_true rfl) (bk_i (MI.intro (lv := [(0, .int v3), (1, .int 7)]) mk_X8_isWithin.2.2.2.2 (Nat.le_of_ble_eq_true rfl) rfl ?_))
    refine GW.iload_n (pc' := 1) dX8_isWithin_0 rfl rfl ?_
    refine GW.iflt (pc' := 4) (tgt := 13) dX8_isWithin_1 rfl (by decide) (ite_i (fun c2 => ?_) (fun c2 => ?_))
    · replace h := ite_t h c2
      refine GW.iconst (pc' := 14) (v := 0) dX8_isWithin_13 rfl (by decide) ?_
      refine GW.zret dX8_isWithin_14 rfl (by decide) ⟨_, rfl, ?_⟩
      refine GW.ifeq (pc' := 26) (tgt := 45) dX3_isOf_23 rfl (by decide) (ite_p (by decide) ?_)
      refine GW.iconst (pc' := 46) (v := 0) dX3_isOf_45 rfl (by decide) ?_
      refine GW.zret dX3_isOf_46 rfl (by decide) ⟨_, rfl, ?_⟩
      exact h
    · replace h := ite_f h c2
      refine GW.iload_n (pc' := 5) dX8_isWithin_4 rfl rfl ?_
      refine GW.iload_n (pc' := 6) dX8_isWithin_5 rfl rfl ?_
      refine GW.if_icmpge (pc' := 9) (tgt := 13) dX8_isWithin_6 rfl (by decide) (ite_i (fun c3 => ?_) (fun c3 => ?_))
      · replace h := ite_t h c3
        refine GW.iconst (pc' := 10) (v := 1) dX8_isWithin_9 rfl (by decide) ?_
        refine GW.goto (tgt := 14) dX8_isWithin_10 (by decide) ?_
        refine GW.zret dX8_isWithin_14 rfl (by decide) ⟨_, rfl, ?_⟩
        refine GW.ifeq (pc' := 26) (tgt := 45) dX3_isOf_23 rfl (by decide) (ite_n (by decide) ?_)
        refine GW.iload_n (pc' := 27) dX3_isOf_26 rfl rfl ?_
        refine GW.iload_n (pc' := 28) dX3_isOf_27 rfl rfl ?_
        refine GW.if_icmpne (pc' := 31) (tgt := 33) dX3_isOf_28 rfl (by decide) (ite_i (fun c4 => ?_) (fun c4 => ?_))
        · replace h := ite_t h c4
          refine GW.iconst (pc' := 32) (v := 1) dX3_isOf_31 rfl (by decide) ?_
          refine GW.zret dX3_isOf_32 rfl (by decide) ⟨_, rfl, ?_⟩
          exact h
        · replace h := ite_f h c4
          refine GW.gets (pc' := 36) (k := 2000) dX3_isOf_33 rfl (by decide) gk_X3_27 ?_
          refine GW.iload_n (pc' := 37) dX3_isOf_36 rfl rfl ?_
          obtain ⟨b5, h⟩ := h
          refine GW.tload (pc' := 38) (k := 2000) (n := 7) (v := (tbF 2000 v3.toNatClampNeg)) dX3_isOf_37 rfl (by decide) b5 rfl ?_
          refine GW.istore_n (pc' := 39) (lv' := [(0, .ref 20), (1, .int v1), (2, .int v2), (3, .int (tbF 2000 v3.toNatClampNeg)), (4, .int v4)]) dX3_isOf_38 rfl rfl (by decide) rfl ?_
          refine GW.iinc (pc' := 42) (lv' := [(0, .ref 20), (1, .int v1), (2, .int v2), (3, .int (tbF 2000 v3.toNatClampNeg)), (4, .int (v4 + 1))]) (v := (v4 + 1)) dX3_isOf_39 rfl rfl (by decide) rfl rfl rfl ?_
          refine GW.goto (tgt := 10) dX3_isOf_42 (by decide) ?_
          exact h
      · replace h := ite_f h c3
        refine GW.iconst (pc' := 14) (v := 0) dX8_isWithin_13 rfl (by decide) ?_
        refine GW.zret dX8_isWithin_14 rfl (by decide) ⟨_, rfl, ?_⟩
        refine GW.ifeq (pc' := 26) (tgt := 45) dX3_isOf_23 rfl (by decide) (ite_p (by decide) ?_)
        refine GW.iconst (pc' := 46) (v := 0) dX3_isOf_45 rfl (by decide) ?_
        refine GW.zret dX3_isOf_46 rfl (by decide) ⟨_, rfl, ?_⟩
        exact h
  · replace h := ite_f h c1
    refine GW.iconst (pc' := 46) (v := 0) dX3_isOf_45 rfl (by decide) ?_
    refine GW.zret dX3_isOf_46 rfl (by decide) ⟨_, rfl, ?_⟩
    exact h

set_option maxRecDepth 100000 in
set_option maxHeartbeats 4000000 in
theorem wp_X4_isSignOf_3 (xs : gX) (d : Nat) (v1 : Int32) (M : Mem) (Q : Int32 → Mem → Prop) (h : (if (M.1 3 4) < (M.1 3 3) then (if v1 = 0 then (vp_in (M.1 3 4) 60 ∧ (if (M.1 61 ((M.1 3 4)).toNatClampNeg) = 124 then Q 1 M else Q 0 M)) else (if v1 = 1 then (vp_in (M.1 3 4) 60 ∧ (if (M.1 61 ((M.1 3 4)).toNatClampNeg) = 38 then Q 1 M else Q 0 M)) else (if v1 = 2 then (vp_in (M.1 3 4) 60 ∧ (if (M.1 61 ((M.1 3 4)).toNatClampNeg) = 60 then Q 1 M else (if (M.1 61 ((M.1 3 4)).toNatClampNeg) = 61 then Q 1 M else (if (M.1 61 ((M.1 3 4)).toNatClampNeg) = 62 then Q 1 M else Q 0 M)))) else (if v1 = 3 then (vp_in (M.1 3 4) 60 ∧ (if (M.1 61 ((M.1 3 4)).toNatClampNeg) = 43 then Q 1 M else (if (M.1 61 ((M.1 3 4)).toNatClampNeg) = 45 then Q 1 M else Q 0 M))) else (vp_in (M.1 3 4) 60 ∧ (if (M.1 61 ((M.1 3 4)).toNatClampNeg) = 42 then Q 1 M else (if (M.1 61 ((M.1 3 4)).toNatClampNeg) = 47 then Q 1 M else (if (M.1 61 ((M.1 3 4)).toNatClampNeg) = 37 then Q 1 M else Q 0 M)))))))) else Q 0 M)) : MI xs d mX4_isSignOf [.ref 3, .int v1] M Q := by
  refine MI.intro (lv := [(0, .ref 3), (1, .int v1)]) mk_X4_isSignOf.2.2.2.2 (Nat.le_of_ble_eq_true rfl) rfl ?_
  refine GW.aload_n (pc' := 1) dX4_isSignOf_0 rfl rfl ?_
  refine GW.getI (pc' := 4) dX4_isSignOf_1 rfl fk_X4_40 rfl (by decide) rfl rfl ?_
  refine GW.aload_n (pc' := 5) dX4_isSignOf_4 rfl rfl ?_
  refine GW.getI (pc' := 8) dX4_isSignOf_5 rfl fk_X4_30 rfl (by decide) rfl rfl ?_
  refine GW.if_icmplt (pc' := 11) (tgt := 13) dX4_isSignOf_8 rfl (by decide) (ite_i (fun c1 => ?_) (fun c1 => ?_))
  · replace h := ite_t h c1
    refine GW.iload_n (pc' := 14) dX4_isSignOf_13 rfl rfl ?_
    by_cases c2 : v1 = 0
    · replace h := ite_t h c2
      refine GW.tswIn (v := 0) (tgt := 44) dX4_isSignOf_14 (by rw [c2]; rfl) (by decide) (by decide) rfl (by decide) ?_
      refine GW.aload_n (pc' := 45) dX4_isSignOf_44 rfl rfl ?_
      refine GW.getR (pc' := 48) (t := 61) dX4_isSignOf_45 rfl fk_X4_9 rfl (by decide) rfl rfl ?_
      refine GW.aload_n (pc' := 49) dX4_isSignOf_48 rfl rfl ?_
      refine GW.getI (pc' := 52) dX4_isSignOf_49 rfl fk_X4_40 rfl (by decide) rfl rfl ?_
      obtain ⟨b3, h⟩ := h
      refine GW.iaload (pc' := 53) (j := ((M.1 3 4)).toNatClampNeg) dX4_isSignOf_52 rfl rfl b3 rfl ?_
      refine GW.bipush (pc' := 55) (v := 124) dX4_isSignOf_53 rfl (by decide) ?_
      refine GW.if_icmpne (pc' := 58) (tgt := 62) dX4_isSignOf_55 rfl (by decide) (ite_i (fun c4 => ?_) (fun c4 => ?_))
      · replace h := ite_t h c4
        refine GW.iconst (pc' := 59) (v := 1) dX4_isSignOf_58 rfl (by decide) ?_
        refine GW.goto (tgt := 63) dX4_isSignOf_59 (by decide) ?_
        refine GW.zret dX4_isSignOf_63 rfl (by decide) ⟨_, rfl, ?_⟩
        exact h
      · replace h := ite_f h c4
        refine GW.iconst (pc' := 63) (v := 0) dX4_isSignOf_62 rfl (by decide) ?_
        refine GW.zret dX4_isSignOf_63 rfl (by decide) ⟨_, rfl, ?_⟩
        exact h
    · replace h := ite_f h c2
      by_cases c5 : v1 = 1
      · replace h := ite_t h c5
        refine GW.tswIn (v := 1) (tgt := 64) dX4_isSignOf_14 (by rw [c5]; rfl) (by decide) (by decide) rfl (by decide) ?_
        refine GW.aload_n (pc' := 65) dX4_isSignOf_64 rfl rfl ?_
        refine GW.getR (pc' := 68) (t := 61) dX4_isSignOf_65 rfl fk_X4_9 rfl (by decide) rfl rfl ?_
        refine GW.aload_n (pc' := 69) dX4_isSignOf_68 rfl rfl ?_
        refine GW.getI (pc' := 72) dX4_isSignOf_69 rfl fk_X4_40 rfl (by decide) rfl rfl ?_
        obtain ⟨b6, h⟩ := h
        refine GW.iaload (pc' := 73) (j := ((M.1 3 4)).toNatClampNeg) dX4_isSignOf_72 rfl rfl b6 rfl ?_
        refine GW.bipush (pc' := 75) (v := 38) dX4_isSignOf_73 rfl (by decide) ?_
        refine GW.if_icmpne (pc' := 78) (tgt := 82) dX4_isSignOf_75 rfl (by decide) (ite_i (fun c7 => ?_) (fun c7 => ?_))
        · replace h := ite_t h c7
          refine GW.iconst (pc' := 79) (v := 1) dX4_isSignOf_78 rfl (by decide) ?_
          refine GW.goto (tgt := 83) dX4_isSignOf_79 (by decide) ?_
          refine GW.zret dX4_isSignOf_83 rfl (by decide) ⟨_, rfl, ?_⟩
          exact h
        · replace h := ite_f h c7
          refine GW.iconst (pc' := 83) (v := 0) dX4_isSignOf_82 rfl (by decide) ?_
          refine GW.zret dX4_isSignOf_83 rfl (by decide) ⟨_, rfl, ?_⟩
          exact h
      · replace h := ite_f h c5
        by_cases c8 : v1 = 2
        · replace h := ite_t h c8
          refine GW.tswIn (v := 2) (tgt := 84) dX4_isSignOf_14 (by rw [c8]; rfl) (by decide) (by decide) rfl (by decide) ?_
          refine GW.aload_n (pc' := 85) dX4_isSignOf_84 rfl rfl ?_
          refine GW.getR (pc' := 88) (t := 61) dX4_isSignOf_85 rfl fk_X4_9 rfl (by decide) rfl rfl ?_
          refine GW.aload_n (pc' := 89) dX4_isSignOf_88 rfl rfl ?_
          refine GW.getI (pc' := 92) dX4_isSignOf_89 rfl fk_X4_40 rfl (by decide) rfl rfl ?_
          obtain ⟨b9, h⟩ := h
          refine GW.iaload (pc' := 93) (j := ((M.1 3 4)).toNatClampNeg) dX4_isSignOf_92 rfl rfl b9 rfl ?_
          refine GW.bipush (pc' := 95) (v := 60) dX4_isSignOf_93 rfl (by decide) ?_
          refine GW.if_icmpeq (pc' := 98) (tgt := 126) dX4_isSignOf_95 rfl (by decide) (ite_i (fun c10 => ?_) (fun c10 => ?_))
          · replace h := ite_t h c10
            refine GW.iconst (pc' := 127) (v := 1) dX4_isSignOf_126 rfl (by decide) ?_
            refine GW.goto (tgt := 131) dX4_isSignOf_127 (by decide) ?_
            refine GW.zret dX4_isSignOf_131 rfl (by decide) ⟨_, rfl, ?_⟩
            exact h
          · replace h := ite_f h c10
            refine GW.aload_n (pc' := 99) dX4_isSignOf_98 rfl rfl ?_
            refine GW.getR (pc' := 102) (t := 61) dX4_isSignOf_99 rfl fk_X4_9 rfl (by decide) rfl rfl ?_
            refine GW.aload_n (pc' := 103) dX4_isSignOf_102 rfl rfl ?_
            refine GW.getI (pc' := 106) dX4_isSignOf_103 rfl fk_X4_40 rfl (by decide) rfl rfl ?_
            refine GW.iaload (pc' := 107) (j := ((M.1 3 4)).toNatClampNeg) dX4_isSignOf_106 rfl rfl b9 rfl ?_
            refine GW.bipush (pc' := 109) (v := 61) dX4_isSignOf_107 rfl (by decide) ?_
            refine GW.if_icmpeq (pc' := 112) (tgt := 126) dX4_isSignOf_109 rfl (by decide) (ite_i (fun c11 => ?_) (fun c11 => ?_))
            · replace h := ite_t h c11
              refine GW.iconst (pc' := 127) (v := 1) dX4_isSignOf_126 rfl (by decide) ?_
              refine GW.goto (tgt := 131) dX4_isSignOf_127 (by decide) ?_
              refine GW.zret dX4_isSignOf_131 rfl (by decide) ⟨_, rfl, ?_⟩
              exact h
            · replace h := ite_f h c11
              refine GW.aload_n (pc' := 113) dX4_isSignOf_112 rfl rfl ?_
              refine GW.getR (pc' := 116) (t := 61) dX4_isSignOf_113 rfl fk_X4_9 rfl (by decide) rfl rfl ?_
              refine GW.aload_n (pc' := 117) dX4_isSignOf_116 rfl rfl ?_
              refine GW.getI (pc' := 120) dX4_isSignOf_117 rfl fk_X4_40 rfl (by decide) rfl rfl ?_
              refine GW.iaload (pc' := 121) (j := ((M.1 3 4)).toNatClampNeg) dX4_isSignOf_120 rfl rfl b9 rfl ?_
              refine GW.bipush (pc' := 123) (v := 62) dX4_isSignOf_121 rfl (by decide) ?_
              refine GW.if_icmpne (pc' := 126) (tgt := 130) dX4_isSignOf_123 rfl (by decide) (ite_i (fun c12 => ?_) (fun c12 => ?_))
              · replace h := ite_t h c12
                refine GW.iconst (pc' := 127) (v := 1) dX4_isSignOf_126 rfl (by decide) ?_
                refine GW.goto (tgt := 131) dX4_isSignOf_127 (by decide) ?_
                refine GW.zret dX4_isSignOf_131 rfl (by decide) ⟨_, rfl, ?_⟩
                exact h
              · replace h := ite_f h c12
                refine GW.iconst (pc' := 131) (v := 0) dX4_isSignOf_130 rfl (by decide) ?_
                refine GW.zret dX4_isSignOf_131 rfl (by decide) ⟨_, rfl, ?_⟩
                exact h
        · replace h := ite_f h c8
          by_cases c13 : v1 = 3
          · replace h := ite_t h c13
            refine GW.tswIn (v := 3) (tgt := 132) dX4_isSignOf_14 (by rw [c13]; rfl) (by decide) (by decide) rfl (by decide) ?_
            refine GW.aload_n (pc' := 133) dX4_isSignOf_132 rfl rfl ?_
            refine GW.getR (pc' := 136) (t := 61) dX4_isSignOf_133 rfl fk_X4_9 rfl (by decide) rfl rfl ?_
            refine GW.aload_n (pc' := 137) dX4_isSignOf_136 rfl rfl ?_
            refine GW.getI (pc' := 140) dX4_isSignOf_137 rfl fk_X4_40 rfl (by decide) rfl rfl ?_
            obtain ⟨b14, h⟩ := h
            refine GW.iaload (pc' := 141) (j := ((M.1 3 4)).toNatClampNeg) dX4_isSignOf_140 rfl rfl b14 rfl ?_
            refine GW.bipush (pc' := 143) (v := 43) dX4_isSignOf_141 rfl (by decide) ?_
            refine GW.if_icmpeq (pc' := 146) (tgt := 160) dX4_isSignOf_143 rfl (by decide) (ite_i (fun c15 => ?_) (fun c15 => ?_))
            · replace h := ite_t h c15
              refine GW.iconst (pc' := 161) (v := 1) dX4_isSignOf_160 rfl (by decide) ?_
              refine GW.goto (tgt := 165) dX4_isSignOf_161 (by decide) ?_
              refine GW.zret dX4_isSignOf_165 rfl (by decide) ⟨_, rfl, ?_⟩
              exact h
            · replace h := ite_f h c15
              refine GW.aload_n (pc' := 147) dX4_isSignOf_146 rfl rfl ?_
              refine GW.getR (pc' := 150) (t := 61) dX4_isSignOf_147 rfl fk_X4_9 rfl (by decide) rfl rfl ?_
              refine GW.aload_n (pc' := 151) dX4_isSignOf_150 rfl rfl ?_
              refine GW.getI (pc' := 154) dX4_isSignOf_151 rfl fk_X4_40 rfl (by decide) rfl rfl ?_
              refine GW.iaload (pc' := 155) (j := ((M.1 3 4)).toNatClampNeg) dX4_isSignOf_154 rfl rfl b14 rfl ?_
              refine GW.bipush (pc' := 157) (v := 45) dX4_isSignOf_155 rfl (by decide) ?_
              refine GW.if_icmpne (pc' := 160) (tgt := 164) dX4_isSignOf_157 rfl (by decide) (ite_i (fun c16 => ?_) (fun c16 => ?_))
              · replace h := ite_t h c16
                refine GW.iconst (pc' := 161) (v := 1) dX4_isSignOf_160 rfl (by decide) ?_
                refine GW.goto (tgt := 165) dX4_isSignOf_161 (by decide) ?_
                refine GW.zret dX4_isSignOf_165 rfl (by decide) ⟨_, rfl, ?_⟩
                exact h
              · replace h := ite_f h c16
                refine GW.iconst (pc' := 165) (v := 0) dX4_isSignOf_164 rfl (by decide) ?_
                refine GW.zret dX4_isSignOf_165 rfl (by decide) ⟨_, rfl, ?_⟩
                exact h
          · replace h := ite_f h c13
            refine GW.tswOut (tgt := 166) dX4_isSignOf_14 (by have qc2 := lv_neT c2 (rfl : _ = (0 : Int)); have qc5 := lv_neT c5 (rfl : _ = (1 : Int)); have qc8 := lv_neT c8 (rfl : _ = (2 : Int)); have qc13 := lv_neT c13 (rfl : _ = (3 : Int)); omega) (by decide) ?_
            refine GW.aload_n (pc' := 167) dX4_isSignOf_166 rfl rfl ?_
            refine GW.getR (pc' := 170) (t := 61) dX4_isSignOf_167 rfl fk_X4_9 rfl (by decide) rfl rfl ?_
            refine GW.aload_n (pc' := 171) dX4_isSignOf_170 rfl rfl ?_
            refine GW.getI (pc' := 174) dX4_isSignOf_171 rfl fk_X4_40 rfl (by decide) rfl rfl ?_
            obtain ⟨b17, h⟩ := h
            refine GW.iaload (pc' := 175) (j := ((M.1 3 4)).toNatClampNeg) dX4_isSignOf_174 rfl rfl b17 rfl ?_
            refine GW.bipush (pc' := 177) (v := 42) dX4_isSignOf_175 rfl (by decide) ?_
            refine GW.if_icmpeq (pc' := 180) (tgt := 208) dX4_isSignOf_177 rfl (by decide) (ite_i (fun c18 => ?_) (fun c18 => ?_))
            · replace h := ite_t h c18
              refine GW.iconst (pc' := 209) (v := 1) dX4_isSignOf_208 rfl (by decide) ?_
              refine GW.goto (tgt := 213) dX4_isSignOf_209 (by decide) ?_
              refine GW.zret dX4_isSignOf_213 rfl (by decide) ⟨_, rfl, ?_⟩
              exact h
            · replace h := ite_f h c18
              refine GW.aload_n (pc' := 181) dX4_isSignOf_180 rfl rfl ?_
              refine GW.getR (pc' := 184) (t := 61) dX4_isSignOf_181 rfl fk_X4_9 rfl (by decide) rfl rfl ?_
              refine GW.aload_n (pc' := 185) dX4_isSignOf_184 rfl rfl ?_
              refine GW.getI (pc' := 188) dX4_isSignOf_185 rfl fk_X4_40 rfl (by decide) rfl rfl ?_
              refine GW.iaload (pc' := 189) (j := ((M.1 3 4)).toNatClampNeg) dX4_isSignOf_188 rfl rfl b17 rfl ?_
              refine GW.bipush (pc' := 191) (v := 47) dX4_isSignOf_189 rfl (by decide) ?_
              refine GW.if_icmpeq (pc' := 194) (tgt := 208) dX4_isSignOf_191 rfl (by decide) (ite_i (fun c19 => ?_) (fun c19 => ?_))
              · replace h := ite_t h c19
                refine GW.iconst (pc' := 209) (v := 1) dX4_isSignOf_208 rfl (by decide) ?_
                refine GW.goto (tgt := 213) dX4_isSignOf_209 (by decide) ?_
                refine GW.zret dX4_isSignOf_213 rfl (by decide) ⟨_, rfl, ?_⟩
                exact h
              · replace h := ite_f h c19
                refine GW.aload_n (pc' := 195) dX4_isSignOf_194 rfl rfl ?_
                refine GW.getR (pc' := 198) (t := 61) dX4_isSignOf_195 rfl fk_X4_9 rfl (by decide) rfl rfl ?_
                refine GW.aload_n (pc' := 199) dX4_isSignOf_198 rfl rfl ?_
                refine GW.getI (pc' := 202) dX4_isSignOf_199 rfl fk_X4_40 rfl (by decide) rfl rfl ?_
                refine GW.iaload (pc' := 203) (j := ((M.1 3 4)).toNatClampNeg) dX4_isSignOf_202 rfl rfl b17 rfl ?_
                refine GW.bipush (pc' := 205) (v := 37) dX4_isSignOf_203 rfl (by decide) ?_
                refine GW.if_icmpne (pc' := 208) (tgt := 212) dX4_isSignOf_205 rfl (by decide) (ite_i (fun c20 => ?_) (fun c20 => ?_))
                · replace h := ite_t h c20
                  refine GW.iconst (pc' := 209) (v := 1) dX4_isSignOf_208 rfl (by decide) ?_
                  refine GW.goto (tgt := 213) dX4_isSignOf_209 (by decide) ?_
                  refine GW.zret dX4_isSignOf_213 rfl (by decide) ⟨_, rfl, ?_⟩
                  exact h
                · replace h := ite_f h c20
                  refine GW.iconst (pc' := 213) (v := 0) dX4_isSignOf_212 rfl (by decide) ?_
                  refine GW.zret dX4_isSignOf_213 rfl (by decide) ⟨_, rfl, ?_⟩
                  exact h
  · replace h := ite_f h c1
    refine GW.iconst (pc' := 12) (v := 0) dX4_isSignOf_11 rfl (by decide) ?_
    refine GW.zret dX4_isSignOf_12 rfl (by decide) ⟨_, rfl, ?_⟩
    exact h

set_option maxRecDepth 100000 in
set_option maxHeartbeats 4000000 in
theorem wp_X4_readChain_3 (xs : gX) (d : Nat) (v1 : Int32) (v2 : Int32) (M : Mem) (Q : Int32 → Mem → Prop) (h : (if v1 < 5 then MI xs d mX4_readChain [.ref 3, .int (v1 + 1), .int v2] M (fun r2 M3 => (if v1 = 2 then GW xs (d + 1) mX4_readChain 36 [(0, .ref 3), (1, .int v1), (2, .int v2), (3, .int r2), (4, .int 1), (5, .int 0)] [] M3 (QI Q) else GW xs (d + 1) mX4_readChain 36 [(0, .ref 3), (1, .int v1), (2, .int v2), (3, .int r2), (4, .int 60), (5, .int 0)] [] M3 (QI Q))) else MI xs d mX4_readOne [.ref 3, .int v2] M (fun r5 M6 => ((r5 = 0 ∨ r5 = 1) ∧ Q r5 M6)))) : MI xs (d + 1) mX4_readChain [.ref 3, .int v1, .int v2] M Q := by
  refine MI.intro (lv := [(0, .ref 3), (1, .int v1), (2, .int v2)]) mk_X4_readChain.2.2.2.2 (Nat.le_of_ble_eq_true rfl) rfl ?_
  refine GW.iload_n (pc' := 1) dX4_readChain_0 rfl rfl ?_
  refine GW.iconst (pc' := 2) (v := 5) dX4_readChain_1 rfl (by decide) ?_
  refine GW.if_icmplt (pc' := 5) (tgt := 11) dX4_readChain_2 rfl (by decide) (ite_i (fun c1 => ?_) (fun c1 => ?_))
  · replace h := ite_t h c1
    refine GW.aload_n (pc' := 12) dX4_readChain_11 rfl rfl ?_
    refine GW.iload_n (pc' := 13) dX4_readChain_12 rfl rfl ?_
    refine GW.iconst (pc' := 14) (v := 1) dX4_readChain_13 rfl (by decide) ?_
    refine GW.iadd (pc' := 15) dX4_readChain_14 rfl ?_
    refine GW.iload_n (pc' := 16) dX4_readChain_15 rfl rfl ?_
    refine GW.callV (pc' := 19) (k := 3) (av := [.int (v1 + 1), .int v2]) (rest := []) dX4_readChain_16 rfl mk_X4_readChain lk_X4_46 vk_X4_readChain ko_3 rfl rfl (Nat.le_of_ble_eq_true rfl) (bk_i (MI.mono h (fun r2 M3 h => ?_)))
    refine GW.istore_n (pc' := 20) (lv' := [(0, .ref 3), (1, .int v1), (2, .int v2), (3, .int r2)]) dX4_readChain_19 rfl rfl (by decide) rfl ?_
    refine GW.iload_n (pc' := 21) dX4_readChain_20 rfl rfl ?_
    refine GW.iconst (pc' := 22) (v := 2) dX4_readChain_21 rfl (by decide) ?_
    refine GW.if_icmpne (pc' := 25) (tgt := 29) dX4_readChain_22 rfl (by decide) (ite_i (fun c4 => ?_) (fun c4 => ?_))
    · replace h := ite_t h c4
      refine GW.iconst (pc' := 26) (v := 1) dX4_readChain_25 rfl (by decide) ?_
      refine GW.goto (tgt := 31) dX4_readChain_26 (by decide) ?_
      refine GW.istore (pc' := 33) (lv' := [(0, .ref 3), (1, .int v1), (2, .int v2), (3, .int r2), (4, .int 1)]) dX4_readChain_31 rfl rfl (by decide) rfl ?_
      refine GW.iconst (pc' := 34) (v := 0) dX4_readChain_33 rfl (by decide) ?_
      refine GW.istore (pc' := 36) (lv' := [(0, .ref 3), (1, .int v1), (2, .int v2), (3, .int r2), (4, .int 1), (5, .int 0)]) dX4_readChain_34 rfl rfl (by decide) rfl ?_
      exact h
    · replace h := ite_f h c4
      refine GW.bipush (pc' := 31) (v := 60) dX4_readChain_29 rfl (by decide) ?_
      refine GW.istore (pc' := 33) (lv' := [(0, .ref 3), (1, .int v1), (2, .int v2), (3, .int r2), (4, .int 60)]) dX4_readChain_31 rfl rfl (by decide) rfl ?_
      refine GW.iconst (pc' := 34) (v := 0) dX4_readChain_33 rfl (by decide) ?_
      refine GW.istore (pc' := 36) (lv' := [(0, .ref 3), (1, .int v1), (2, .int v2), (3, .int r2), (4, .int 60), (5, .int 0)]) dX4_readChain_34 rfl rfl (by decide) rfl ?_
      exact h
  · replace h := ite_f h c1
    refine GW.aload_n (pc' := 6) dX4_readChain_5 rfl rfl ?_
    refine GW.iload_n (pc' := 7) dX4_readChain_6 rfl rfl ?_
    refine GW.callV (pc' := 10) (k := 3) (av := [.int v2]) (rest := []) dX4_readChain_7 rfl mk_X4_readOne lk_X4_50 vk_X4_readOne ko_3 rfl rfl (Nat.le_of_ble_eq_true rfl) (bk_i (MI.mono h (fun r5 M6 h => ?_)))
    obtain ⟨b7, h⟩ := h
    refine GW.zret dX4_readChain_10 rfl b7 ⟨_, rfl, ?_⟩
    exact h
set_option maxRecDepth 100000 in
set_option maxHeartbeats 4000000 in
theorem wp_X4_readChain_3_L36 (xs : gX) (d : Nat) (v1 : Int32) (v2 : Int32) (v3 : Int32) (v4 : Int32) (v5 : Int32) (M : Mem) (Q : Int32 → Mem → Prop) (h : (if v5 < v4 then (if v3 = 0 then ((v3 = 0 ∨ v3 = 1) ∧ Q v3 M) else MI xs d mX4_isSignOf [.ref 3, .int v1] M (fun r4 M5 => (if r4 = 0 then ((v3 = 0 ∨ v3 = 1) ∧ Q v3 M5) else (vp_in (M5.1 3 4) 60 ∧ MI xs d mX4_readChain [.ref 3, .int (v1 + 1), .int v2] (mw M5 3 4 ((M5.1 3 4) + 1)) (fun r9 M10 => (if (M10.1 3 2) < 60 then (vp_in (M10.1 3 2) 60 ∧ GW xs (d + 1) mX4_readChain 36 [(0, .ref 3), (1, .int v1), (2, .int v2), (3, .int r9), (4, .int v4), (5, .int (v5 + 1))] [] (mw (mw M10 62 ((M10.1 3 2)).toNatClampNeg (-(M5.1 61 ((M5.1 3 4)).toNatClampNeg))) 3 2 ((M10.1 3 2) + 1)) (QI Q)) else GW xs (d + 1) mX4_readChain 36 [(0, .ref 3), (1, .int v1), (2, .int v2), (3, .int r9), (4, .int v4), (5, .int (v5 + 1))] [] M10 (QI Q))))))) else ((v3 = 0 ∨ v3 = 1) ∧ Q v3 M))) : GW xs (d + 1) mX4_readChain 36 [(0, .ref 3), (1, .int v1), (2, .int v2), (3, .int v3), (4, .int v4), (5, .int v5)] [] M (QI Q) := by
  refine GW.iload (pc' := 38) dX4_readChain_36 rfl rfl ?_
  refine GW.iload (pc' := 40) dX4_readChain_38 rfl rfl ?_
  refine GW.if_icmpge (pc' := 43) (tgt := 98) dX4_readChain_40 rfl (by decide) (ite_i (fun c1 => ?_) (fun c1 => ?_))
  · replace h := ite_t h c1
    refine GW.iload_n (pc' := 44) dX4_readChain_43 rfl rfl ?_
    refine GW.ifeq (pc' := 47) (tgt := 98) dX4_readChain_44 rfl (by decide) (ite_i (fun c2 => ?_) (fun c2 => ?_))
    · replace h := ite_t h c2
      refine GW.iload_n (pc' := 99) dX4_readChain_98 rfl rfl ?_
      obtain ⟨b3, h⟩ := h
      refine GW.zret dX4_readChain_99 rfl b3 ⟨_, rfl, ?_⟩
      exact h
    · replace h := ite_f h c2
      refine GW.aload_n (pc' := 48) dX4_readChain_47 rfl rfl ?_
      refine GW.iload_n (pc' := 49) dX4_readChain_48 rfl rfl ?_
      refine GW.callV (pc' := 52) (k := 3) (av := [.int v1]) (rest := []) dX4_readChain_49 rfl mk_X4_isSignOf lk_X4_54 vk_X4_isSignOf ko_3 rfl rfl (Nat.le_of_ble_eq_true rfl) (bk_i (MI.mono h (fun r4 M5 h => ?_)))
      refine GW.ifeq (pc' := 55) (tgt := 98) dX4_readChain_52 rfl (by decide) (ite_i (fun c6 => ?_) (fun c6 => ?_))
      · replace h := ite_t h c6
        refine GW.iload_n (pc' := 99) dX4_readChain_98 rfl rfl ?_
        obtain ⟨b7, h⟩ := h
        refine GW.zret dX4_readChain_99 rfl b7 ⟨_, rfl, ?_⟩
        exact h
      · replace h := ite_f h c6
        refine GW.aload_n (pc' := 56) dX4_readChain_55 rfl rfl ?_
        refine GW.getR (pc' := 59) (t := 61) dX4_readChain_56 rfl fk_X4_9 rfl (by decide) rfl rfl ?_
        refine GW.aload_n (pc' := 60) dX4_readChain_59 rfl rfl ?_
        refine GW.getI (pc' := 63) dX4_readChain_60 rfl fk_X4_40 rfl (by decide) rfl rfl ?_
        obtain ⟨b8, h⟩ := h
        refine GW.iaload (pc' := 64) (j := ((M5.1 3 4)).toNatClampNeg) dX4_readChain_63 rfl rfl b8 rfl ?_
        refine GW.istore (pc' := 66) (lv' := [(0, .ref 3), (1, .int v1), (2, .int v2), (3, .int v3), (4, .int v4), (5, .int v5), (6, .int (M5.1 61 ((M5.1 3 4)).toNatClampNeg))]) dX4_readChain_64 rfl rfl (by decide) rfl ?_
        refine GW.aload_n (pc' := 67) dX4_readChain_66 rfl rfl ?_
        refine GW.dup (pc' := 68) dX4_readChain_67 rfl rfl ?_
        refine GW.getI (pc' := 71) dX4_readChain_68 rfl fk_X4_40 rfl (by decide) rfl rfl ?_
        refine GW.iconst (pc' := 72) (v := 1) dX4_readChain_71 rfl (by decide) ?_
        refine GW.iadd (pc' := 73) dX4_readChain_72 rfl ?_
        refine GW.putI (pc' := 76) dX4_readChain_73 rfl fp_X4_40 rfl (by decide) rfl rfl ⟨rfl, rfl⟩ ?_
        refine GW.aload_n (pc' := 77) dX4_readChain_76 rfl rfl ?_
        refine GW.iload_n (pc' := 78) dX4_readChain_77 rfl rfl ?_
        refine GW.iconst (pc' := 79) (v := 1) dX4_readChain_78 rfl (by decide) ?_
        refine GW.iadd (pc' := 80) dX4_readChain_79 rfl ?_
        refine GW.iload_n (pc' := 81) dX4_readChain_80 rfl rfl ?_
        refine GW.callV (pc' := 84) (k := 3) (av := [.int (v1 + 1), .int v2]) (rest := []) dX4_readChain_81 rfl mk_X4_readChain lk_X4_46 vk_X4_readChain ko_3 rfl rfl (Nat.le_of_ble_eq_true rfl) (bk_i (MI.mono h (fun r9 M10 h => ?_)))
        refine GW.istore_n (pc' := 85) (lv' := [(0, .ref 3), (1, .int v1), (2, .int v2), (3, .int r9), (4, .int v4), (5, .int v5), (6, .int (M5.1 61 ((M5.1 3 4)).toNatClampNeg))]) dX4_readChain_84 rfl rfl (by decide) rfl ?_
        refine GW.aload_n (pc' := 86) dX4_readChain_85 rfl rfl ?_
        refine GW.iload (pc' := 88) dX4_readChain_86 rfl rfl ?_
        refine GW.ineg (pc' := 89) dX4_readChain_88 rfl ?_
        refine GW.callV (pc' := 92) (k := 3) (av := [.int (-(M5.1 61 ((M5.1 3 4)).toNatClampNeg))]) (rest := []) dX4_readChain_89 rfl mk_X4_write lk_X4_57 vk_X4_write ko_3 rfl rfl (Nat.le_of_ble_eq_true rfl) (bk_v (MV.intro (lv := [(0, .ref 3), (1, .int (-(M5.1 61 ((M5.1 3 4)).toNatClampNeg)))]) mk_X4_write.2.2.2.2 (Nat.le_of_ble_eq_true rfl) rfl ?_))
        refine GW.aload_n (pc' := 1) dX4_write_0 rfl rfl ?_
        refine GW.getI (pc' := 4) dX4_write_1 rfl fk_X4_43 rfl (by decide) rfl rfl ?_
        refine GW.bipush (pc' := 6) (v := 60) dX4_write_4 rfl (by decide) ?_
        refine GW.if_icmpge (pc' := 9) (tgt := 29) dX4_write_6 rfl (by decide) (ite_i (fun c11 => ?_) (fun c11 => ?_))
        · replace h := ite_t h c11
          refine GW.aload_n (pc' := 10) dX4_write_9 rfl rfl ?_
          refine GW.getR (pc' := 13) (t := 62) dX4_write_10 rfl fk_X4_15 rfl (by decide) rfl rfl ?_
          refine GW.aload_n (pc' := 14) dX4_write_13 rfl rfl ?_
          refine GW.getI (pc' := 17) dX4_write_14 rfl fk_X4_43 rfl (by decide) rfl rfl ?_
          refine GW.iload_n (pc' := 18) dX4_write_17 rfl rfl ?_
          obtain ⟨b12, h⟩ := h
          refine GW.iastore (pc' := 19) (j := ((M10.1 3 2)).toNatClampNeg) dX4_write_18 rfl rfl b12 rfl ?_
          refine GW.aload_n (pc' := 20) dX4_write_19 rfl rfl ?_
          refine GW.dup (pc' := 21) dX4_write_20 rfl rfl ?_
          refine GW.getI (pc' := 24) dX4_write_21 rfl fk_X4_43 rfl (by decide) rfl rfl ?_
          refine GW.iconst (pc' := 25) (v := 1) dX4_write_24 rfl (by decide) ?_
          refine GW.iadd (pc' := 26) dX4_write_25 rfl ?_
          refine GW.putI (pc' := 29) dX4_write_26 rfl fp_X4_43 rfl (by decide) rfl rfl ⟨rfl, rfl⟩ ?_
          refine GW.vret dX4_write_29 rfl ⟨rfl, ?_⟩
          refine GW.iinc (pc' := 95) (lv' := [(0, .ref 3), (1, .int v1), (2, .int v2), (3, .int r9), (4, .int v4), (5, .int (v5 + 1)), (6, .int (M5.1 61 ((M5.1 3 4)).toNatClampNeg))]) (v := (v5 + 1)) dX4_readChain_92 rfl rfl (by decide) rfl rfl rfl ?_
          refine GW.goto (tgt := 36) dX4_readChain_95 (by decide) ?_
          refine GW.sub (lv' := [(0, .ref 3), (1, .int v1), (2, .int v2), (3, .int r9), (4, .int v4), (5, .int (v5 + 1))]) [0, 1, 2, 3, 4, 5] rfl ?_
          exact h
        · replace h := ite_f h c11
          refine GW.vret dX4_write_29 rfl ⟨rfl, ?_⟩
          refine GW.iinc (pc' := 95) (lv' := [(0, .ref 3), (1, .int v1), (2, .int v2), (3, .int r9), (4, .int v4), (5, .int (v5 + 1)), (6, .int (M5.1 61 ((M5.1 3 4)).toNatClampNeg))]) (v := (v5 + 1)) dX4_readChain_92 rfl rfl (by decide) rfl rfl rfl ?_
          refine GW.goto (tgt := 36) dX4_readChain_95 (by decide) ?_
          refine GW.sub (lv' := [(0, .ref 3), (1, .int v1), (2, .int v2), (3, .int r9), (4, .int v4), (5, .int (v5 + 1))]) [0, 1, 2, 3, 4, 5] rfl ?_
          exact h
  · replace h := ite_f h c1
    refine GW.iload_n (pc' := 99) dX4_readChain_98 rfl rfl ?_
    obtain ⟨b13, h⟩ := h
    refine GW.zret dX4_readChain_99 rfl b13 ⟨_, rfl, ?_⟩
    exact h

set_option maxRecDepth 100000 in
set_option maxHeartbeats 4000000 in
theorem wp_X4_readNumber_3 (xs : gX) (d : Nat)  (M : Mem) (Q : Mem → Prop) (h : GW xs (d + 1) mX4_readNumber 4 [(0, .ref 3), (1, .int 0), (2, .int 0)] [] M (QV Q)) : MV xs (d + 1) mX4_readNumber [.ref 3] M Q := by
  refine MV.intro (lv := [(0, .ref 3)]) mk_X4_readNumber.2.2.2.2 (Nat.le_of_ble_eq_true rfl) rfl ?_
  refine GW.iconst (pc' := 1) (v := 0) dX4_readNumber_0 rfl (by decide) ?_
  refine GW.istore_n (pc' := 2) (lv' := [(0, .ref 3), (1, .int 0)]) dX4_readNumber_1 rfl rfl (by decide) rfl ?_
  refine GW.iconst (pc' := 3) (v := 0) dX4_readNumber_2 rfl (by decide) ?_
  refine GW.istore_n (pc' := 4) (lv' := [(0, .ref 3), (1, .int 0), (2, .int 0)]) dX4_readNumber_3 rfl rfl (by decide) rfl ?_
  exact h
set_option maxRecDepth 100000 in
set_option maxHeartbeats 4000000 in
theorem wp_X4_readNumber_3_L4 (xs : gX) (d : Nat) (v1 : Int32) (v2 : Int32) (M : Mem) (Q : Mem → Prop) (h : (if v2 < 4 then (if (M.1 3 4) < (M.1 3 3) then (vp_in (M.1 3 4) 60 ∧ (if (M.1 61 ((M.1 3 4)).toNatClampNeg) < 48 then (if (M.1 3 2) < 60 then (vp_in (M.1 3 2) 60 ∧ Q (mw (mw M 62 ((M.1 3 2)).toNatClampNeg v1) 3 2 ((M.1 3 2) + 1))) else Q M) else (if 57 < (M.1 61 ((M.1 3 4)).toNatClampNeg) then (if (M.1 3 2) < 60 then (vp_in (M.1 3 2) 60 ∧ Q (mw (mw M 62 ((M.1 3 2)).toNatClampNeg v1) 3 2 ((M.1 3 2) + 1))) else Q M) else GW xs (d + 1) mX4_readNumber 4 [(0, .ref 3), (1, .int (((v1 * 10) + (M.1 61 ((M.1 3 4)).toNatClampNeg)) - 48)), (2, .int (v2 + 1))] [] (mw M 3 4 ((M.1 3 4) + 1)) (QV Q)))) else (if (M.1 3 2) < 60 then (vp_in (M.1 3 2) 60 ∧ Q (mw (mw M 62 ((M.1 3 2)).toNatClampNeg v1) 3 2 ((M.1 3 2) + 1))) else Q M)) else (if (M.1 3 2) < 60 then (vp_in (M.1 3 2) 60 ∧ Q (mw (mw M 62 ((M.1 3 2)).toNatClampNeg v1) 3 2 ((M.1 3 2) + 1))) else Q M))) : GW xs (d + 1) mX4_readNumber 4 [(0, .ref 3), (1, .int v1), (2, .int v2)] [] M (QV Q) := by
  refine GW.iload_n (pc' := 5) dX4_readNumber_4 rfl rfl ?_
  refine GW.iconst (pc' := 6) (v := 4) dX4_readNumber_5 rfl (by decide) ?_
  refine GW.if_icmpge (pc' := 9) (tgt := 69) dX4_readNumber_6 rfl (by decide) (ite_i (fun c1 => ?_) (fun c1 => ?_))
  · replace h := ite_t h c1
    refine GW.aload_n (pc' := 10) dX4_readNumber_9 rfl rfl ?_
    refine GW.getI (pc' := 13) dX4_readNumber_10 rfl fk_X4_40 rfl (by decide) rfl rfl ?_
    refine GW.aload_n (pc' := 14) dX4_readNumber_13 rfl rfl ?_
    refine GW.getI (pc' := 17) dX4_readNumber_14 rfl fk_X4_30 rfl (by decide) rfl rfl ?_
    refine GW.if_icmpge (pc' := 20) (tgt := 69) dX4_readNumber_17 rfl (by decide) (ite_i (fun c2 => ?_) (fun c2 => ?_))
    · replace h := ite_t h c2
      refine GW.aload_n (pc' := 21) dX4_readNumber_20 rfl rfl ?_
      refine GW.getR (pc' := 24) (t := 61) dX4_readNumber_21 rfl fk_X4_9 rfl (by decide) rfl rfl ?_
      refine GW.aload_n (pc' := 25) dX4_readNumber_24 rfl rfl ?_
      refine GW.getI (pc' := 28) dX4_readNumber_25 rfl fk_X4_40 rfl (by decide) rfl rfl ?_
      obtain ⟨b3, h⟩ := h
      refine GW.iaload (pc' := 29) (j := ((M.1 3 4)).toNatClampNeg) dX4_readNumber_28 rfl rfl b3 rfl ?_
      refine GW.callS (pc' := 32) (av := [.int (M.1 61 ((M.1 3 4)).toNatClampNeg)]) (rest := []) dX4_readNumber_29 rfl mk_X4_isDigit lk_X4_61 sk_X4_isDigit rfl rfl (Nat.le_of_ble_eq_true rfl) (bk_i (MI.intro (lv := [(0, .int (M.1 61 ((M.1 3 4)).toNatClampNeg))]) mk_X4_isDigit.2.2.2.2 (Nat.le_of_ble_eq_true rfl) rfl ?_))
      refine GW.iload_n (pc' := 1) dX4_isDigit_0 rfl rfl ?_
      refine GW.bipush (pc' := 3) (v := 48) dX4_isDigit_1 rfl (by decide) ?_
      refine GW.if_icmplt (pc' := 6) (tgt := 16) dX4_isDigit_3 rfl (by decide) (ite_i (fun c4 => ?_) (fun c4 => ?_))
      · replace h := ite_t h c4
        refine GW.iconst (pc' := 17) (v := 0) dX4_isDigit_16 rfl (by decide) ?_
        refine GW.zret dX4_isDigit_17 rfl (by decide) ⟨_, rfl, ?_⟩
        refine GW.ifeq (pc' := 35) (tgt := 69) dX4_readNumber_32 rfl (by decide) (ite_p (by decide) ?_)
        refine GW.aload_n (pc' := 70) dX4_readNumber_69 rfl rfl ?_
        refine GW.iload_n (pc' := 71) dX4_readNumber_70 rfl rfl ?_
        refine GW.callV (pc' := 74) (k := 3) (av := [.int v1]) (rest := []) dX4_readNumber_71 rfl mk_X4_write lk_X4_57 vk_X4_write ko_3 rfl rfl (Nat.le_of_ble_eq_true rfl) (bk_v (MV.intro (lv := [(0, .ref 3), (1, .int v1)]) mk_X4_write.2.2.2.2 (Nat.le_of_ble_eq_true rfl) rfl ?_))
        refine GW.aload_n (pc' := 1) dX4_write_0 rfl rfl ?_
        refine GW.getI (pc' := 4) dX4_write_1 rfl fk_X4_43 rfl (by decide) rfl rfl ?_
        refine GW.bipush (pc' := 6) (v := 60) dX4_write_4 rfl (by decide) ?_
        refine GW.if_icmpge (pc' := 9) (tgt := 29) dX4_write_6 rfl (by decide) (ite_i (fun c5 => ?_) (fun c5 => ?_))
        · replace h := ite_t h c5
          refine GW.aload_n (pc' := 10) dX4_write_9 rfl rfl ?_
          refine GW.getR (pc' := 13) (t := 62) dX4_write_10 rfl fk_X4_15 rfl (by decide) rfl rfl ?_
          refine GW.aload_n (pc' := 14) dX4_write_13 rfl rfl ?_
          refine GW.getI (pc' := 17) dX4_write_14 rfl fk_X4_43 rfl (by decide) rfl rfl ?_
          refine GW.iload_n (pc' := 18) dX4_write_17 rfl rfl ?_
          obtain ⟨b6, h⟩ := h
          refine GW.iastore (pc' := 19) (j := ((M.1 3 2)).toNatClampNeg) dX4_write_18 rfl rfl b6 rfl ?_
          refine GW.aload_n (pc' := 20) dX4_write_19 rfl rfl ?_
          refine GW.dup (pc' := 21) dX4_write_20 rfl rfl ?_
          refine GW.getI (pc' := 24) dX4_write_21 rfl fk_X4_43 rfl (by decide) rfl rfl ?_
          refine GW.iconst (pc' := 25) (v := 1) dX4_write_24 rfl (by decide) ?_
          refine GW.iadd (pc' := 26) dX4_write_25 rfl ?_
          refine GW.putI (pc' := 29) dX4_write_26 rfl fp_X4_43 rfl (by decide) rfl rfl ⟨rfl, rfl⟩ ?_
          refine GW.vret dX4_write_29 rfl ⟨rfl, ?_⟩
          refine GW.vret dX4_readNumber_74 rfl ⟨rfl, ?_⟩
          exact h
        · replace h := ite_f h c5
          refine GW.vret dX4_write_29 rfl ⟨rfl, ?_⟩
          refine GW.vret dX4_readNumber_74 rfl ⟨rfl, ?_⟩
          exact h
      · replace h := ite_f h c4
        refine GW.iload_n (pc' := 7) dX4_isDigit_6 rfl rfl ?_
        refine GW.bipush (pc' := 9) (v := 57) dX4_isDigit_7 rfl (by decide) ?_
        refine GW.if_icmpgt (pc' := 12) (tgt := 16) dX4_isDigit_9 rfl (by decide) (ite_i (fun c7 => ?_) (fun c7 => ?_))
        · replace h := ite_t h c7
          refine GW.iconst (pc' := 17) (v := 0) dX4_isDigit_16 rfl (by decide) ?_
          refine GW.zret dX4_isDigit_17 rfl (by decide) ⟨_, rfl, ?_⟩
          refine GW.ifeq (pc' := 35) (tgt := 69) dX4_readNumber_32 rfl (by decide) (ite_p (by decide) ?_)
          refine GW.aload_n (pc' := 70) dX4_readNumber_69 rfl rfl ?_
          refine GW.iload_n (pc' := 71) dX4_readNumber_70 rfl rfl ?_
          refine GW.callV (pc' := 74) (k := 3) (av := [.int v1]) (rest := []) dX4_readNumber_71 rfl mk_X4_write lk_X4_57 vk_X4_write ko_3 rfl rfl (Nat.le_of_ble_eq_true rfl) (bk_v (MV.intro (lv := [(0, .ref 3), (1, .int v1)]) mk_X4_write.2.2.2.2 (Nat.le_of_ble_eq_true rfl) rfl ?_))
          refine GW.aload_n (pc' := 1) dX4_write_0 rfl rfl ?_
          refine GW.getI (pc' := 4) dX4_write_1 rfl fk_X4_43 rfl (by decide) rfl rfl ?_
          refine GW.bipush (pc' := 6) (v := 60) dX4_write_4 rfl (by decide) ?_
          refine GW.if_icmpge (pc' := 9) (tgt := 29) dX4_write_6 rfl (by decide) (ite_i (fun c8 => ?_) (fun c8 => ?_))
          · replace h := ite_t h c8
            refine GW.aload_n (pc' := 10) dX4_write_9 rfl rfl ?_
            refine GW.getR (pc' := 13) (t := 62) dX4_write_10 rfl fk_X4_15 rfl (by decide) rfl rfl ?_
            refine GW.aload_n (pc' := 14) dX4_write_13 rfl rfl ?_
            refine GW.getI (pc' := 17) dX4_write_14 rfl fk_X4_43 rfl (by decide) rfl rfl ?_
            refine GW.iload_n (pc' := 18) dX4_write_17 rfl rfl ?_
            obtain ⟨b9, h⟩ := h
            refine GW.iastore (pc' := 19) (j := ((M.1 3 2)).toNatClampNeg) dX4_write_18 rfl rfl b9 rfl ?_
            refine GW.aload_n (pc' := 20) dX4_write_19 rfl rfl ?_
            refine GW.dup (pc' := 21) dX4_write_20 rfl rfl ?_
            refine GW.getI (pc' := 24) dX4_write_21 rfl fk_X4_43 rfl (by decide) rfl rfl ?_
            refine GW.iconst (pc' := 25) (v := 1) dX4_write_24 rfl (by decide) ?_
            refine GW.iadd (pc' := 26) dX4_write_25 rfl ?_
            refine GW.putI (pc' := 29) dX4_write_26 rfl fp_X4_43 rfl (by decide) rfl rfl ⟨rfl, rfl⟩ ?_
            refine GW.vret dX4_write_29 rfl ⟨rfl, ?_⟩
            refine GW.vret dX4_readNumber_74 rfl ⟨rfl, ?_⟩
            exact h
          · replace h := ite_f h c8
            refine GW.vret dX4_write_29 rfl ⟨rfl, ?_⟩
            refine GW.vret dX4_readNumber_74 rfl ⟨rfl, ?_⟩
            exact h
        · replace h := ite_f h c7
          refine GW.iconst (pc' := 13) (v := 1) dX4_isDigit_12 rfl (by decide) ?_
          refine GW.goto (tgt := 17) dX4_isDigit_13 (by decide) ?_
          refine GW.zret dX4_isDigit_17 rfl (by decide) ⟨_, rfl, ?_⟩
          refine GW.ifeq (pc' := 35) (tgt := 69) dX4_readNumber_32 rfl (by decide) (ite_n (by decide) ?_)
          refine GW.iload_n (pc' := 36) dX4_readNumber_35 rfl rfl ?_
          refine GW.bipush (pc' := 38) (v := 10) dX4_readNumber_36 rfl (by decide) ?_
          refine GW.imul (pc' := 39) dX4_readNumber_38 rfl ?_
          refine GW.aload_n (pc' := 40) dX4_readNumber_39 rfl rfl ?_
          refine GW.getR (pc' := 43) (t := 61) dX4_readNumber_40 rfl fk_X4_9 rfl (by decide) rfl rfl ?_
          refine GW.aload_n (pc' := 44) dX4_readNumber_43 rfl rfl ?_
          refine GW.getI (pc' := 47) dX4_readNumber_44 rfl fk_X4_40 rfl (by decide) rfl rfl ?_
          refine GW.iaload (pc' := 48) (j := ((M.1 3 4)).toNatClampNeg) dX4_readNumber_47 rfl rfl b3 rfl ?_
          refine GW.iadd (pc' := 49) dX4_readNumber_48 rfl ?_
          refine GW.bipush (pc' := 51) (v := 48) dX4_readNumber_49 rfl (by decide) ?_
          refine GW.isub (pc' := 52) dX4_readNumber_51 rfl ?_
          refine GW.istore_n (pc' := 53) (lv' := [(0, .ref 3), (1, .int (((v1 * 10) + (M.1 61 ((M.1 3 4)).toNatClampNeg)) - 48)), (2, .int v2)]) dX4_readNumber_52 rfl rfl (by decide) rfl ?_
          refine GW.aload_n (pc' := 54) dX4_readNumber_53 rfl rfl ?_
          refine GW.dup (pc' := 55) dX4_readNumber_54 rfl rfl ?_
          refine GW.getI (pc' := 58) dX4_readNumber_55 rfl fk_X4_40 rfl (by decide) rfl rfl ?_
          refine GW.iconst (pc' := 59) (v := 1) dX4_readNumber_58 rfl (by decide) ?_
          refine GW.iadd (pc' := 60) dX4_readNumber_59 rfl ?_
          refine GW.putI (pc' := 63) dX4_readNumber_60 rfl fp_X4_40 rfl (by decide) rfl rfl ⟨rfl, rfl⟩ ?_
          refine GW.iinc (pc' := 66) (lv' := [(0, .ref 3), (1, .int (((v1 * 10) + (M.1 61 ((M.1 3 4)).toNatClampNeg)) - 48)), (2, .int (v2 + 1))]) (v := (v2 + 1)) dX4_readNumber_63 rfl rfl (by decide) rfl rfl rfl ?_
          refine GW.goto (tgt := 4) dX4_readNumber_66 (by decide) ?_
          exact h
    · replace h := ite_f h c2
      refine GW.aload_n (pc' := 70) dX4_readNumber_69 rfl rfl ?_
      refine GW.iload_n (pc' := 71) dX4_readNumber_70 rfl rfl ?_
      refine GW.callV (pc' := 74) (k := 3) (av := [.int v1]) (rest := []) dX4_readNumber_71 rfl mk_X4_write lk_X4_57 vk_X4_write ko_3 rfl rfl (Nat.le_of_ble_eq_true rfl) (bk_v (MV.intro (lv := [(0, .ref 3), (1, .int v1)]) mk_X4_write.2.2.2.2 (Nat.le_of_ble_eq_true rfl) rfl ?_))
      refine GW.aload_n (pc' := 1) dX4_write_0 rfl rfl ?_
      refine GW.getI (pc' := 4) dX4_write_1 rfl fk_X4_43 rfl (by decide) rfl rfl ?_
      refine GW.bipush (pc' := 6) (v := 60) dX4_write_4 rfl (by decide) ?_
      refine GW.if_icmpge (pc' := 9) (tgt := 29) dX4_write_6 rfl (by decide) (ite_i (fun c10 => ?_) (fun c10 => ?_))
      · replace h := ite_t h c10
        refine GW.aload_n (pc' := 10) dX4_write_9 rfl rfl ?_
        refine GW.getR (pc' := 13) (t := 62) dX4_write_10 rfl fk_X4_15 rfl (by decide) rfl rfl ?_
        refine GW.aload_n (pc' := 14) dX4_write_13 rfl rfl ?_
        refine GW.getI (pc' := 17) dX4_write_14 rfl fk_X4_43 rfl (by decide) rfl rfl ?_
        refine GW.iload_n (pc' := 18) dX4_write_17 rfl rfl ?_
        obtain ⟨b11, h⟩ := h
        refine GW.iastore (pc' := 19) (j := ((M.1 3 2)).toNatClampNeg) dX4_write_18 rfl rfl b11 rfl ?_
        refine GW.aload_n (pc' := 20) dX4_write_19 rfl rfl ?_
        refine GW.dup (pc' := 21) dX4_write_20 rfl rfl ?_
        refine GW.getI (pc' := 24) dX4_write_21 rfl fk_X4_43 rfl (by decide) rfl rfl ?_
        refine GW.iconst (pc' := 25) (v := 1) dX4_write_24 rfl (by decide) ?_
        refine GW.iadd (pc' := 26) dX4_write_25 rfl ?_
        refine GW.putI (pc' := 29) dX4_write_26 rfl fp_X4_43 rfl (by decide) rfl rfl ⟨rfl, rfl⟩ ?_
        refine GW.vret dX4_write_29 rfl ⟨rfl, ?_⟩
        refine GW.vret dX4_readNumber_74 rfl ⟨rfl, ?_⟩
        exact h
      · replace h := ite_f h c10
        refine GW.vret dX4_write_29 rfl ⟨rfl, ?_⟩
        refine GW.vret dX4_readNumber_74 rfl ⟨rfl, ?_⟩
        exact h
  · replace h := ite_f h c1
    refine GW.aload_n (pc' := 70) dX4_readNumber_69 rfl rfl ?_
    refine GW.iload_n (pc' := 71) dX4_readNumber_70 rfl rfl ?_
    refine GW.callV (pc' := 74) (k := 3) (av := [.int v1]) (rest := []) dX4_readNumber_71 rfl mk_X4_write lk_X4_57 vk_X4_write ko_3 rfl rfl (Nat.le_of_ble_eq_true rfl) (bk_v (MV.intro (lv := [(0, .ref 3), (1, .int v1)]) mk_X4_write.2.2.2.2 (Nat.le_of_ble_eq_true rfl) rfl ?_))
    refine GW.aload_n (pc' := 1) dX4_write_0 rfl rfl ?_
    refine GW.getI (pc' := 4) dX4_write_1 rfl fk_X4_43 rfl (by decide) rfl rfl ?_
    refine GW.bipush (pc' := 6) (v := 60) dX4_write_4 rfl (by decide) ?_
    refine GW.if_icmpge (pc' := 9) (tgt := 29) dX4_write_6 rfl (by decide) (ite_i (fun c12 => ?_) (fun c12 => ?_))
    · replace h := ite_t h c12
      refine GW.aload_n (pc' := 10) dX4_write_9 rfl rfl ?_
      refine GW.getR (pc' := 13) (t := 62) dX4_write_10 rfl fk_X4_15 rfl (by decide) rfl rfl ?_
      refine GW.aload_n (pc' := 14) dX4_write_13 rfl rfl ?_
      refine GW.getI (pc' := 17) dX4_write_14 rfl fk_X4_43 rfl (by decide) rfl rfl ?_
      refine GW.iload_n (pc' := 18) dX4_write_17 rfl rfl ?_
      obtain ⟨b13, h⟩ := h
      refine GW.iastore (pc' := 19) (j := ((M.1 3 2)).toNatClampNeg) dX4_write_18 rfl rfl b13 rfl ?_
      refine GW.aload_n (pc' := 20) dX4_write_19 rfl rfl ?_
      refine GW.dup (pc' := 21) dX4_write_20 rfl rfl ?_
      refine GW.getI (pc' := 24) dX4_write_21 rfl fk_X4_43 rfl (by decide) rfl rfl ?_
      refine GW.iconst (pc' := 25) (v := 1) dX4_write_24 rfl (by decide) ?_
      refine GW.iadd (pc' := 26) dX4_write_25 rfl ?_
      refine GW.putI (pc' := 29) dX4_write_26 rfl fp_X4_43 rfl (by decide) rfl rfl ⟨rfl, rfl⟩ ?_
      refine GW.vret dX4_write_29 rfl ⟨rfl, ?_⟩
      refine GW.vret dX4_readNumber_74 rfl ⟨rfl, ?_⟩
      exact h
    · replace h := ite_f h c12
      refine GW.vret dX4_write_29 rfl ⟨rfl, ?_⟩
      refine GW.vret dX4_readNumber_74 rfl ⟨rfl, ?_⟩
      exact h

set_option maxRecDepth 100000 in
set_option maxHeartbeats 4000000 in
theorem wp_X4_readOne_3 (xs : gX) (d : Nat) (v1 : Int32) (M : Mem) (Q : Int32 → Mem → Prop) (h : (if (M.1 3 4) < (M.1 3 3) then (vp_in (M.1 3 4) 60 ∧ (if (M.1 61 ((M.1 3 4)).toNatClampNeg) < 48 then MI xs (d + 3) mJ0_indexOf_0f7a4 [.ref (strK (M.1 3 5)), .int (((M.1 61 ((M.1 3 4)).toNatClampNeg).toUInt32 % 65536).toInt32)] M (fun r4 M5 => (if r4 < 0 then (if v1 < 5 then (if (M.1 61 ((M.1 3 4)).toNatClampNeg) = 33 then MI xs (d + 2) mX4_readOne [.ref 3, .int (v1 + 1)] (mw M5 3 4 ((M5.1 3 4) + 1)) (fun r9 M10 => (if (M10.1 3 2) < 60 then (vp_in (M10.1 3 2) 60 ∧ ((r9 = 0 ∨ r9 = 1) ∧ ((r9 = 0 ∨ r9 = 1) ∧ Q r9 (mw (mw M10 62 ((M10.1 3 2)).toNatClampNeg (-33)) 3 2 ((M10.1 3 2) + 1))))) else ((r9 = 0 ∨ r9 = 1) ∧ ((r9 = 0 ∨ r9 = 1) ∧ Q r9 M10)))) else (if (M.1 61 ((M.1 3 4)).toNatClampNeg) = 40 then MI xs (d + 2) mX4_readChain [.ref 3, .int 0, .int (v1 + 1)] (mw M5 3 4 ((M5.1 3 4) + 1)) (fun r18 M19 => (if r18 = 0 then Q 0 M19 else (if (M19.1 3 4) < (M19.1 3 3) then (vp_in (M19.1 3 4) 60 ∧ (if (M19.1 61 ((M19.1 3 4)).toNatClampNeg) = 41 then Q 1 (mw M19 3 4 ((M19.1 3 4) + 1)) else Q 0 M19)) else Q 0 M19))) else Q 0 M5)) else Q 0 M5) else (if (M5.1 3 2) < 60 then (vp_in (M5.1 3 2) 60 ∧ Q 1 (mw (mw (mw M5 3 4 ((M5.1 3 4) + 1)) 62 ((M5.1 3 2)).toNatClampNeg ((-1) - r4)) 3 2 ((M5.1 3 2) + 1))) else Q 1 (mw M5 3 4 ((M5.1 3 4) + 1))))) else (if 57 < (M.1 61 ((M.1 3 4)).toNatClampNeg) then MI xs (d + 3) mJ0_indexOf_0f7a4 [.ref (strK (M.1 3 5)), .int (((M.1 61 ((M.1 3 4)).toNatClampNeg).toUInt32 % 65536).toInt32)] M (fun r27 M28 => (if r27 < 0 then (if v1 < 5 then (if (M.1 61 ((M.1 3 4)).toNatClampNeg) = 33 then MI xs (d + 2) mX4_readOne [.ref 3, .int (v1 + 1)] (mw M28 3 4 ((M28.1 3 4) + 1)) (fun r32 M33 => (if (M33.1 3 2) < 60 then (vp_in (M33.1 3 2) 60 ∧ ((r32 = 0 ∨ r32 = 1) ∧ ((r32 = 0 ∨ r32 = 1) ∧ Q r32 (mw (mw M33 62 ((M33.1 3 2)).toNatClampNeg (-33)) 3 2 ((M33.1 3 2) + 1))))) else ((r32 = 0 ∨ r32 = 1) ∧ ((r32 = 0 ∨ r32 = 1) ∧ Q r32 M33)))) else (if (M.1 61 ((M.1 3 4)).toNatClampNeg) = 40 then MI xs (d + 2) mX4_readChain [.ref 3, .int 0, .int (v1 + 1)] (mw M28 3 4 ((M28.1 3 4) + 1)) (fun r41 M42 => (if r41 = 0 then Q 0 M42 else (if (M42.1 3 4) < (M42.1 3 3) then (vp_in (M42.1 3 4) 60 ∧ (if (M42.1 61 ((M42.1 3 4)).toNatClampNeg) = 41 then Q 1 (mw M42 3 4 ((M42.1 3 4) + 1)) else Q 0 M42)) else Q 0 M42))) else Q 0 M28)) else Q 0 M28) else (if (M28.1 3 2) < 60 then (vp_in (M28.1 3 2) 60 ∧ Q 1 (mw (mw (mw M28 3 4 ((M28.1 3 4) + 1)) 62 ((M28.1 3 2)).toNatClampNeg ((-1) - r27)) 3 2 ((M28.1 3 2) + 1))) else Q 1 (mw M28 3 4 ((M28.1 3 4) + 1))))) else MV xs (d + 3) mX4_readNumber [.ref 3] M (fun M49 => Q 1 M49)))) else Q 0 M)) : MI xs (d + 4) mX4_readOne [.ref 3, .int v1] M Q := by
  refine MI.intro (lv := [(0, .ref 3), (1, .int v1)]) mk_X4_readOne.2.2.2.2 (Nat.le_of_ble_eq_true rfl) rfl ?_
  refine GW.aload_n (pc' := 1) dX4_readOne_0 rfl rfl ?_
  refine GW.getI (pc' := 4) dX4_readOne_1 rfl fk_X4_40 rfl (by decide) rfl rfl ?_
  refine GW.aload_n (pc' := 5) dX4_readOne_4 rfl rfl ?_
  refine GW.getI (pc' := 8) dX4_readOne_5 rfl fk_X4_30 rfl (by decide) rfl rfl ?_
  refine GW.if_icmplt (pc' := 11) (tgt := 13) dX4_readOne_8 rfl (by decide) (ite_i (fun c1 => ?_) (fun c1 => ?_))
  · replace h := ite_t h c1
    refine GW.aload_n (pc' := 14) dX4_readOne_13 rfl rfl ?_
    refine GW.getR (pc' := 17) (t := 61) dX4_readOne_14 rfl fk_X4_9 rfl (by decide) rfl rfl ?_
    refine GW.aload_n (pc' := 18) dX4_readOne_17 rfl rfl ?_
    refine GW.getI (pc' := 21) dX4_readOne_18 rfl fk_X4_40 rfl (by decide) rfl rfl ?_
    obtain ⟨b2, h⟩ := h
    refine GW.iaload (pc' := 22) (j := ((M.1 3 4)).toNatClampNeg) dX4_readOne_21 rfl rfl b2 rfl ?_
    refine GW.istore_n (pc' := 23) (lv' := [(0, .ref 3), (1, .int v1), (2, .int (M.1 61 ((M.1 3 4)).toNatClampNeg))]) dX4_readOne_22 rfl rfl (by decide) rfl ?_
    refine GW.iload_n (pc' := 24) dX4_readOne_23 rfl rfl ?_
    refine GW.callS (pc' := 27) (av := [.int (M.1 61 ((M.1 3 4)).toNatClampNeg)]) (rest := []) dX4_readOne_24 rfl mk_X4_isDigit lk_X4_61 sk_X4_isDigit rfl rfl (Nat.le_of_ble_eq_true rfl) (bk_i (MI.intro (lv := [(0, .int (M.1 61 ((M.1 3 4)).toNatClampNeg))]) mk_X4_isDigit.2.2.2.2 (Nat.le_of_ble_eq_true rfl) rfl ?_))
    refine GW.iload_n (pc' := 1) dX4_isDigit_0 rfl rfl ?_
    refine GW.bipush (pc' := 3) (v := 48) dX4_isDigit_1 rfl (by decide) ?_
    refine GW.if_icmplt (pc' := 6) (tgt := 16) dX4_isDigit_3 rfl (by decide) (ite_i (fun c3 => ?_) (fun c3 => ?_))
    · replace h := ite_t h c3
      refine GW.iconst (pc' := 17) (v := 0) dX4_isDigit_16 rfl (by decide) ?_
      refine GW.zret dX4_isDigit_17 rfl (by decide) ⟨_, rfl, ?_⟩
      refine GW.ifeq (pc' := 30) (tgt := 36) dX4_readOne_27 rfl (by decide) (ite_p (by decide) ?_)
      refine GW.aload_n (pc' := 37) dX4_readOne_36 rfl rfl ?_
      refine GW.getS (pc' := 40) dX4_readOne_37 rfl fk_X4_20 rfl (by decide) rfl ?_
      refine GW.iload_n (pc' := 41) dX4_readOne_40 rfl rfl ?_
      refine GW.i2c (pc' := 42) dX4_readOne_41 rfl ?_
      refine GW.callV (pc' := 45) (k := (strK (M.1 3 5))) (av := [.int (((M.1 61 ((M.1 3 4)).toNatClampNeg).toUInt32 % 65536).toInt32)]) (rest := []) dX4_readOne_42 rfl mk_J0_indexOf_0f7a4 lk_X4_67 vk_J0_indexOf_0f7a4 ko_str rfl rfl (Nat.le_of_ble_eq_true rfl) (bk_i (MI.mono h (fun r4 M5 h => ?_)))
      refine GW.istore_n (pc' := 46) (lv' := [(0, .ref 3), (1, .int v1), (2, .int (M.1 61 ((M.1 3 4)).toNatClampNeg)), (3, .int r4)]) dX4_readOne_45 rfl rfl (by decide) rfl ?_
      refine GW.iload_n (pc' := 47) dX4_readOne_46 rfl rfl ?_
      refine GW.iflt (pc' := 50) (tgt := 69) dX4_readOne_47 rfl (by decide) (ite_i (fun c6 => ?_) (fun c6 => ?_))
      · replace h := ite_t h c6
        refine GW.iload_n (pc' := 70) dX4_readOne_69 rfl rfl ?_
        refine GW.iconst (pc' := 71) (v := 5) dX4_readOne_70 rfl (by decide) ?_
        refine GW.if_icmpge (pc' := 74) (tgt := 86) dX4_readOne_71 rfl (by decide) (ite_i (fun c7 => ?_) (fun c7 => ?_))
        · replace h := ite_t h c7
          refine GW.iload_n (pc' := 75) dX4_readOne_74 rfl rfl ?_
          refine GW.bipush (pc' := 77) (v := 33) dX4_readOne_75 rfl (by decide) ?_
          refine GW.if_icmpeq (pc' := 80) (tgt := 88) dX4_readOne_77 rfl (by decide) (ite_i (fun c8 => ?_) (fun c8 => ?_))
          · replace h := ite_t h c8
            refine GW.aload_n (pc' := 89) dX4_readOne_88 rfl rfl ?_
            refine GW.dup (pc' := 90) dX4_readOne_89 rfl rfl ?_
            refine GW.getI (pc' := 93) dX4_readOne_90 rfl fk_X4_40 rfl (by decide) rfl rfl ?_
            refine GW.iconst (pc' := 94) (v := 1) dX4_readOne_93 rfl (by decide) ?_
            refine GW.iadd (pc' := 95) dX4_readOne_94 rfl ?_
            refine GW.putI (pc' := 98) dX4_readOne_95 rfl fp_X4_40 rfl (by decide) rfl rfl ⟨rfl, rfl⟩ ?_
            refine GW.iload_n (pc' := 99) dX4_readOne_98 rfl rfl ?_
            refine GW.bipush (pc' := 101) (v := 33) dX4_readOne_99 rfl (by decide) ?_
            refine GW.if_icmpne (pc' := 104) (tgt := 114) dX4_readOne_101 rfl (by decide) (ite_p c8 ?_)
            refine GW.aload_n (pc' := 105) dX4_readOne_104 rfl rfl ?_
            refine GW.iload_n (pc' := 106) dX4_readOne_105 rfl rfl ?_
            refine GW.iconst (pc' := 107) (v := 1) dX4_readOne_106 rfl (by decide) ?_
            refine GW.iadd (pc' := 108) dX4_readOne_107 rfl ?_
            refine GW.callV (pc' := 111) (k := 3) (av := [.int (v1 + 1)]) (rest := []) dX4_readOne_108 rfl mk_X4_readNot lk_X4_73 vk_X4_readNot ko_3 rfl rfl (Nat.le_of_ble_eq_true rfl) (bk_i (MI.intro (lv := [(0, .ref 3), (1, .int (v1 + 1))]) mk_X4_readNot.2.2.2.2 (Nat.le_of_ble_eq_true rfl) rfl ?_))
            refine GW.aload_n (pc' := 1) dX4_readNot_0 rfl rfl ?_
            refine GW.iload_n (pc' := 2) dX4_readNot_1 rfl rfl ?_
            refine GW.callV (pc' := 5) (k := 3) (av := [.int (v1 + 1)]) (rest := []) dX4_readNot_2 rfl mk_X4_readOne lk_X4_50 vk_X4_readOne ko_3 rfl rfl (Nat.le_of_ble_eq_true rfl) (bk_i (MI.mono h (fun r9 M10 h => ?_)))
            refine GW.istore_n (pc' := 6) (lv' := [(0, .ref 3), (1, .int (v1 + 1)), (2, .int r9)]) dX4_readNot_5 rfl rfl (by decide) rfl ?_
            refine GW.aload_n (pc' := 7) dX4_readNot_6 rfl rfl ?_
            refine GW.bipush (pc' := 9) (v := (-33)) dX4_readNot_7 rfl (by decide) ?_
            refine GW.callV (pc' := 12) (k := 3) (av := [.int (-33)]) (rest := []) dX4_readNot_9 rfl mk_X4_write lk_X4_57 vk_X4_write ko_3 rfl rfl (Nat.le_of_ble_eq_true rfl) (bk_v (MV.intro (lv := [(0, .ref 3), (1, .int (-33))]) mk_X4_write.2.2.2.2 (Nat.le_of_ble_eq_true rfl) rfl ?_))
            refine GW.aload_n (pc' := 1) dX4_write_0 rfl rfl ?_
            refine GW.getI (pc' := 4) dX4_write_1 rfl fk_X4_43 rfl (by decide) rfl rfl ?_
            refine GW.bipush (pc' := 6) (v := 60) dX4_write_4 rfl (by decide) ?_
            refine GW.if_icmpge (pc' := 9) (tgt := 29) dX4_write_6 rfl (by decide) (ite_i (fun c11 => ?_) (fun c11 => ?_))
            · replace h := ite_t h c11
              refine GW.aload_n (pc' := 10) dX4_write_9 rfl rfl ?_
              refine GW.getR (pc' := 13) (t := 62) dX4_write_10 rfl fk_X4_15 rfl (by decide) rfl rfl ?_
              refine GW.aload_n (pc' := 14) dX4_write_13 rfl rfl ?_
              refine GW.getI (pc' := 17) dX4_write_14 rfl fk_X4_43 rfl (by decide) rfl rfl ?_
              refine GW.iload_n (pc' := 18) dX4_write_17 rfl rfl ?_
              obtain ⟨b12, h⟩ := h
              refine GW.iastore (pc' := 19) (j := ((M10.1 3 2)).toNatClampNeg) dX4_write_18 rfl rfl b12 rfl ?_
              refine GW.aload_n (pc' := 20) dX4_write_19 rfl rfl ?_
              refine GW.dup (pc' := 21) dX4_write_20 rfl rfl ?_
              refine GW.getI (pc' := 24) dX4_write_21 rfl fk_X4_43 rfl (by decide) rfl rfl ?_
              refine GW.iconst (pc' := 25) (v := 1) dX4_write_24 rfl (by decide) ?_
              refine GW.iadd (pc' := 26) dX4_write_25 rfl ?_
              refine GW.putI (pc' := 29) dX4_write_26 rfl fp_X4_43 rfl (by decide) rfl rfl ⟨rfl, rfl⟩ ?_
              refine GW.vret dX4_write_29 rfl ⟨rfl, ?_⟩
              refine GW.iload_n (pc' := 13) dX4_readNot_12 rfl rfl ?_
              obtain ⟨b13, h⟩ := h
              refine GW.zret dX4_readNot_13 rfl b13 ⟨_, rfl, ?_⟩
              refine GW.goto (tgt := 121) dX4_readOne_111 (by decide) ?_
              obtain ⟨b14, h⟩ := h
              refine GW.zret dX4_readOne_121 rfl b14 ⟨_, rfl, ?_⟩
              exact h
            · replace h := ite_f h c11
              refine GW.vret dX4_write_29 rfl ⟨rfl, ?_⟩
              refine GW.iload_n (pc' := 13) dX4_readNot_12 rfl rfl ?_
              obtain ⟨b15, h⟩ := h
              refine GW.zret dX4_readNot_13 rfl b15 ⟨_, rfl, ?_⟩
              refine GW.goto (tgt := 121) dX4_readOne_111 (by decide) ?_
              obtain ⟨b16, h⟩ := h
              refine GW.zret dX4_readOne_121 rfl b16 ⟨_, rfl, ?_⟩
              exact h
          · replace h := ite_f h c8
            refine GW.iload_n (pc' := 81) dX4_readOne_80 rfl rfl ?_
            refine GW.bipush (pc' := 83) (v := 40) dX4_readOne_81 rfl (by decide) ?_
            refine GW.if_icmpeq (pc' := 86) (tgt := 88) dX4_readOne_83 rfl (by decide) (ite_i (fun c17 => ?_) (fun c17 => ?_))
            · replace h := ite_t h c17
              refine GW.aload_n (pc' := 89) dX4_readOne_88 rfl rfl ?_
              refine GW.dup (pc' := 90) dX4_readOne_89 rfl rfl ?_
              refine GW.getI (pc' := 93) dX4_readOne_90 rfl fk_X4_40 rfl (by decide) rfl rfl ?_
              refine GW.iconst (pc' := 94) (v := 1) dX4_readOne_93 rfl (by decide) ?_
              refine GW.iadd (pc' := 95) dX4_readOne_94 rfl ?_
              refine GW.putI (pc' := 98) dX4_readOne_95 rfl fp_X4_40 rfl (by decide) rfl rfl ⟨rfl, rfl⟩ ?_
              refine GW.iload_n (pc' := 99) dX4_readOne_98 rfl rfl ?_
              refine GW.bipush (pc' := 101) (v := 33) dX4_readOne_99 rfl (by decide) ?_
              refine GW.if_icmpne (pc' := 104) (tgt := 114) dX4_readOne_101 rfl (by decide) (ite_n c8 ?_)
              refine GW.aload_n (pc' := 115) dX4_readOne_114 rfl rfl ?_
              refine GW.iload_n (pc' := 116) dX4_readOne_115 rfl rfl ?_
              refine GW.iconst (pc' := 117) (v := 1) dX4_readOne_116 rfl (by decide) ?_
              refine GW.iadd (pc' := 118) dX4_readOne_117 rfl ?_
              refine GW.callV (pc' := 121) (k := 3) (av := [.int (v1 + 1)]) (rest := []) dX4_readOne_118 rfl mk_X4_readBrackets lk_X4_76 vk_X4_readBrackets ko_3 rfl rfl (Nat.le_of_ble_eq_true rfl) (bk_i (MI.intro (lv := [(0, .ref 3), (1, .int (v1 + 1))]) mk_X4_readBrackets.2.2.2.2 (Nat.le_of_ble_eq_true rfl) rfl ?_))
              refine GW.aload_n (pc' := 1) dX4_readBrackets_0 rfl rfl ?_
              refine GW.iconst (pc' := 2) (v := 0) dX4_readBrackets_1 rfl (by decide) ?_
              refine GW.iload_n (pc' := 3) dX4_readBrackets_2 rfl rfl ?_
              refine GW.callV (pc' := 6) (k := 3) (av := [.int 0, .int (v1 + 1)]) (rest := []) dX4_readBrackets_3 rfl mk_X4_readChain lk_X4_46 vk_X4_readChain ko_3 rfl rfl (Nat.le_of_ble_eq_true rfl) (bk_i (MI.mono h (fun r18 M19 h => ?_)))
              refine GW.ifeq (pc' := 9) (tgt := 34) dX4_readBrackets_6 rfl (by decide) (ite_i (fun c20 => ?_) (fun c20 => ?_))
              · replace h := ite_t h c20
                refine GW.iconst (pc' := 35) (v := 0) dX4_readBrackets_34 rfl (by decide) ?_
                refine GW.zret dX4_readBrackets_35 rfl (by decide) ⟨_, rfl, ?_⟩
                refine GW.zret dX4_readOne_121 rfl (by decide) ⟨_, rfl, ?_⟩
                exact h
              · replace h := ite_f h c20
                refine GW.aload_n (pc' := 10) dX4_readBrackets_9 rfl rfl ?_
                refine GW.getI (pc' := 13) dX4_readBrackets_10 rfl fk_X4_40 rfl (by decide) rfl rfl ?_
                refine GW.aload_n (pc' := 14) dX4_readBrackets_13 rfl rfl ?_
                refine GW.getI (pc' := 17) dX4_readBrackets_14 rfl fk_X4_30 rfl (by decide) rfl rfl ?_
                refine GW.if_icmpge (pc' := 20) (tgt := 34) dX4_readBrackets_17 rfl (by decide) (ite_i (fun c21 => ?_) (fun c21 => ?_))
                · replace h := ite_t h c21
                  refine GW.aload_n (pc' := 21) dX4_readBrackets_20 rfl rfl ?_
                  refine GW.getR (pc' := 24) (t := 61) dX4_readBrackets_21 rfl fk_X4_9 rfl (by decide) rfl rfl ?_
                  refine GW.aload_n (pc' := 25) dX4_readBrackets_24 rfl rfl ?_
                  refine GW.getI (pc' := 28) dX4_readBrackets_25 rfl fk_X4_40 rfl (by decide) rfl rfl ?_
                  obtain ⟨b22, h⟩ := h
                  refine GW.iaload (pc' := 29) (j := ((M19.1 3 4)).toNatClampNeg) dX4_readBrackets_28 rfl rfl b22 rfl ?_
                  refine GW.bipush (pc' := 31) (v := 41) dX4_readBrackets_29 rfl (by decide) ?_
                  refine GW.if_icmpeq (pc' := 34) (tgt := 36) dX4_readBrackets_31 rfl (by decide) (ite_i (fun c23 => ?_) (fun c23 => ?_))
                  · replace h := ite_t h c23
                    refine GW.aload_n (pc' := 37) dX4_readBrackets_36 rfl rfl ?_
                    refine GW.dup (pc' := 38) dX4_readBrackets_37 rfl rfl ?_
                    refine GW.getI (pc' := 41) dX4_readBrackets_38 rfl fk_X4_40 rfl (by decide) rfl rfl ?_
                    refine GW.iconst (pc' := 42) (v := 1) dX4_readBrackets_41 rfl (by decide) ?_
                    refine GW.iadd (pc' := 43) dX4_readBrackets_42 rfl ?_
                    refine GW.putI (pc' := 46) dX4_readBrackets_43 rfl fp_X4_40 rfl (by decide) rfl rfl ⟨rfl, rfl⟩ ?_
                    refine GW.iconst (pc' := 47) (v := 1) dX4_readBrackets_46 rfl (by decide) ?_
                    refine GW.zret dX4_readBrackets_47 rfl (by decide) ⟨_, rfl, ?_⟩
                    refine GW.zret dX4_readOne_121 rfl (by decide) ⟨_, rfl, ?_⟩
                    exact h
                  · replace h := ite_f h c23
                    refine GW.iconst (pc' := 35) (v := 0) dX4_readBrackets_34 rfl (by decide) ?_
                    refine GW.zret dX4_readBrackets_35 rfl (by decide) ⟨_, rfl, ?_⟩
                    refine GW.zret dX4_readOne_121 rfl (by decide) ⟨_, rfl, ?_⟩
                    exact h
                · replace h := ite_f h c21
                  refine GW.iconst (pc' := 35) (v := 0) dX4_readBrackets_34 rfl (by decide) ?_
                  refine GW.zret dX4_readBrackets_35 rfl (by decide) ⟨_, rfl, ?_⟩
                  refine GW.zret dX4_readOne_121 rfl (by decide) ⟨_, rfl, ?_⟩
                  exact h
            · replace h := ite_f h c17
              refine GW.iconst (pc' := 87) (v := 0) dX4_readOne_86 rfl (by decide) ?_
              refine GW.zret dX4_readOne_87 rfl (by decide) ⟨_, rfl, ?_⟩
              exact h
        · replace h := ite_f h c7
          refine GW.iconst (pc' := 87) (v := 0) dX4_readOne_86 rfl (by decide) ?_
          refine GW.zret dX4_readOne_87 rfl (by decide) ⟨_, rfl, ?_⟩
          exact h
      · replace h := ite_f h c6
        refine GW.aload_n (pc' := 51) dX4_readOne_50 rfl rfl ?_
        refine GW.dup (pc' := 52) dX4_readOne_51 rfl rfl ?_
        refine GW.getI (pc' := 55) dX4_readOne_52 rfl fk_X4_40 rfl (by decide) rfl rfl ?_
        refine GW.iconst (pc' := 56) (v := 1) dX4_readOne_55 rfl (by decide) ?_
        refine GW.iadd (pc' := 57) dX4_readOne_56 rfl ?_
        refine GW.putI (pc' := 60) dX4_readOne_57 rfl fp_X4_40 rfl (by decide) rfl rfl ⟨rfl, rfl⟩ ?_
        refine GW.aload_n (pc' := 61) dX4_readOne_60 rfl rfl ?_
        refine GW.iconst (pc' := 62) (v := (-1)) dX4_readOne_61 rfl (by decide) ?_
        refine GW.iload_n (pc' := 63) dX4_readOne_62 rfl rfl ?_
        refine GW.isub (pc' := 64) dX4_readOne_63 rfl ?_
        refine GW.callV (pc' := 67) (k := 3) (av := [.int ((-1) - r4)]) (rest := []) dX4_readOne_64 rfl mk_X4_write lk_X4_57 vk_X4_write ko_3 rfl rfl (Nat.le_of_ble_eq_true rfl) (bk_v (MV.intro (lv := [(0, .ref 3), (1, .int ((-1) - r4))]) mk_X4_write.2.2.2.2 (Nat.le_of_ble_eq_true rfl) rfl ?_))
        refine GW.aload_n (pc' := 1) dX4_write_0 rfl rfl ?_
        refine GW.getI (pc' := 4) dX4_write_1 rfl fk_X4_43 rfl (by decide) rfl rfl ?_
        refine GW.bipush (pc' := 6) (v := 60) dX4_write_4 rfl (by decide) ?_
        refine GW.if_icmpge (pc' := 9) (tgt := 29) dX4_write_6 rfl (by decide) (ite_i (fun c24 => ?_) (fun c24 => ?_))
        · replace h := ite_t h c24
          refine GW.aload_n (pc' := 10) dX4_write_9 rfl rfl ?_
          refine GW.getR (pc' := 13) (t := 62) dX4_write_10 rfl fk_X4_15 rfl (by decide) rfl rfl ?_
          refine GW.aload_n (pc' := 14) dX4_write_13 rfl rfl ?_
          refine GW.getI (pc' := 17) dX4_write_14 rfl fk_X4_43 rfl (by decide) rfl rfl ?_
          refine GW.iload_n (pc' := 18) dX4_write_17 rfl rfl ?_
          obtain ⟨b25, h⟩ := h
          refine GW.iastore (pc' := 19) (j := ((M5.1 3 2)).toNatClampNeg) dX4_write_18 rfl rfl b25 rfl ?_
          refine GW.aload_n (pc' := 20) dX4_write_19 rfl rfl ?_
          refine GW.dup (pc' := 21) dX4_write_20 rfl rfl ?_
          refine GW.getI (pc' := 24) dX4_write_21 rfl fk_X4_43 rfl (by decide) rfl rfl ?_
          refine GW.iconst (pc' := 25) (v := 1) dX4_write_24 rfl (by decide) ?_
          refine GW.iadd (pc' := 26) dX4_write_25 rfl ?_
          refine GW.putI (pc' := 29) dX4_write_26 rfl fp_X4_43 rfl (by decide) rfl rfl ⟨rfl, rfl⟩ ?_
          refine GW.vret dX4_write_29 rfl ⟨rfl, ?_⟩
          refine GW.iconst (pc' := 68) (v := 1) dX4_readOne_67 rfl (by decide) ?_
          refine GW.zret dX4_readOne_68 rfl (by decide) ⟨_, rfl, ?_⟩
          exact h
        · replace h := ite_f h c24
          refine GW.vret dX4_write_29 rfl ⟨rfl, ?_⟩
          refine GW.iconst (pc' := 68) (v := 1) dX4_readOne_67 rfl (by decide) ?_
          refine GW.zret dX4_readOne_68 rfl (by decide) ⟨_, rfl, ?_⟩
          exact h
    · replace h := ite_f h c3
      refine GW.iload_n (pc' := 7) dX4_isDigit_6 rfl rfl ?_
      refine GW.bipush (pc' := 9) (v := 57) dX4_isDigit_7 rfl (by decide) ?_
      refine GW.if_icmpgt (pc' := 12) (tgt := 16) dX4_isDigit_9 rfl (by decide) (ite_i (fun c26 => ?_) (fun c26 => ?_))
      · replace h := ite_t h c26
        refine GW.iconst (pc' := 17) (v := 0) dX4_isDigit_16 rfl (by decide) ?_
        refine GW.zret dX4_isDigit_17 rfl (by decide) ⟨_, rfl, ?_⟩
        refine GW.ifeq (pc' := 30) (tgt := 36) dX4_readOne_27 rfl (by decide) (ite_p (by decide) ?_)
        refine GW.aload_n (pc' := 37) dX4_readOne_36 rfl rfl ?_
        refine GW.getS (pc' := 40) dX4_readOne_37 rfl fk_X4_20 rfl (by decide) rfl ?_
        refine GW.iload_n (pc' := 41) dX4_readOne_40 rfl rfl ?_
        refine GW.i2c (pc' := 42) dX4_readOne_41 rfl ?_
        refine GW.callV (pc' := 45) (k := (strK (M.1 3 5))) (av := [.int (((M.1 61 ((M.1 3 4)).toNatClampNeg).toUInt32 % 65536).toInt32)]) (rest := []) dX4_readOne_42 rfl mk_J0_indexOf_0f7a4 lk_X4_67 vk_J0_indexOf_0f7a4 ko_str rfl rfl (Nat.le_of_ble_eq_true rfl) (bk_i (MI.mono h (fun r27 M28 h => ?_)))
        refine GW.istore_n (pc' := 46) (lv' := [(0, .ref 3), (1, .int v1), (2, .int (M.1 61 ((M.1 3 4)).toNatClampNeg)), (3, .int r27)]) dX4_readOne_45 rfl rfl (by decide) rfl ?_
        refine GW.iload_n (pc' := 47) dX4_readOne_46 rfl rfl ?_
        refine GW.iflt (pc' := 50) (tgt := 69) dX4_readOne_47 rfl (by decide) (ite_i (fun c29 => ?_) (fun c29 => ?_))
        · replace h := ite_t h c29
          refine GW.iload_n (pc' := 70) dX4_readOne_69 rfl rfl ?_
          refine GW.iconst (pc' := 71) (v := 5) dX4_readOne_70 rfl (by decide) ?_
          refine GW.if_icmpge (pc' := 74) (tgt := 86) dX4_readOne_71 rfl (by decide) (ite_i (fun c30 => ?_) (fun c30 => ?_))
          · replace h := ite_t h c30
            refine GW.iload_n (pc' := 75) dX4_readOne_74 rfl rfl ?_
            refine GW.bipush (pc' := 77) (v := 33) dX4_readOne_75 rfl (by decide) ?_
            refine GW.if_icmpeq (pc' := 80) (tgt := 88) dX4_readOne_77 rfl (by decide) (ite_i (fun c31 => ?_) (fun c31 => ?_))
            · replace h := ite_t h c31
              refine GW.aload_n (pc' := 89) dX4_readOne_88 rfl rfl ?_
              refine GW.dup (pc' := 90) dX4_readOne_89 rfl rfl ?_
              refine GW.getI (pc' := 93) dX4_readOne_90 rfl fk_X4_40 rfl (by decide) rfl rfl ?_
              refine GW.iconst (pc' := 94) (v := 1) dX4_readOne_93 rfl (by decide) ?_
              refine GW.iadd (pc' := 95) dX4_readOne_94 rfl ?_
              refine GW.putI (pc' := 98) dX4_readOne_95 rfl fp_X4_40 rfl (by decide) rfl rfl ⟨rfl, rfl⟩ ?_
              refine GW.iload_n (pc' := 99) dX4_readOne_98 rfl rfl ?_
              refine GW.bipush (pc' := 101) (v := 33) dX4_readOne_99 rfl (by decide) ?_
              refine GW.if_icmpne (pc' := 104) (tgt := 114) dX4_readOne_101 rfl (by decide) (ite_p c31 ?_)
              refine GW.aload_n (pc' := 105) dX4_readOne_104 rfl rfl ?_
              refine GW.iload_n (pc' := 106) dX4_readOne_105 rfl rfl ?_
              refine GW.iconst (pc' := 107) (v := 1) dX4_readOne_106 rfl (by decide) ?_
              refine GW.iadd (pc' := 108) dX4_readOne_107 rfl ?_
              refine GW.callV (pc' := 111) (k := 3) (av := [.int (v1 + 1)]) (rest := []) dX4_readOne_108 rfl mk_X4_readNot lk_X4_73 vk_X4_readNot ko_3 rfl rfl (Nat.le_of_ble_eq_true rfl) (bk_i (MI.intro (lv := [(0, .ref 3), (1, .int (v1 + 1))]) mk_X4_readNot.2.2.2.2 (Nat.le_of_ble_eq_true rfl) rfl ?_))
              refine GW.aload_n (pc' := 1) dX4_readNot_0 rfl rfl ?_
              refine GW.iload_n (pc' := 2) dX4_readNot_1 rfl rfl ?_
              refine GW.callV (pc' := 5) (k := 3) (av := [.int (v1 + 1)]) (rest := []) dX4_readNot_2 rfl mk_X4_readOne lk_X4_50 vk_X4_readOne ko_3 rfl rfl (Nat.le_of_ble_eq_true rfl) (bk_i (MI.mono h (fun r32 M33 h => ?_)))
              refine GW.istore_n (pc' := 6) (lv' := [(0, .ref 3), (1, .int (v1 + 1)), (2, .int r32)]) dX4_readNot_5 rfl rfl (by decide) rfl ?_
              refine GW.aload_n (pc' := 7) dX4_readNot_6 rfl rfl ?_
              refine GW.bipush (pc' := 9) (v := (-33)) dX4_readNot_7 rfl (by decide) ?_
              refine GW.callV (pc' := 12) (k := 3) (av := [.int (-33)]) (rest := []) dX4_readNot_9 rfl mk_X4_write lk_X4_57 vk_X4_write ko_3 rfl rfl (Nat.le_of_ble_eq_true rfl) (bk_v (MV.intro (lv := [(0, .ref 3), (1, .int (-33))]) mk_X4_write.2.2.2.2 (Nat.le_of_ble_eq_true rfl) rfl ?_))
              refine GW.aload_n (pc' := 1) dX4_write_0 rfl rfl ?_
              refine GW.getI (pc' := 4) dX4_write_1 rfl fk_X4_43 rfl (by decide) rfl rfl ?_
              refine GW.bipush (pc' := 6) (v := 60) dX4_write_4 rfl (by decide) ?_
              refine GW.if_icmpge (pc' := 9) (tgt := 29) dX4_write_6 rfl (by decide) (ite_i (fun c34 => ?_) (fun c34 => ?_))
              · replace h := ite_t h c34
                refine GW.aload_n (pc' := 10) dX4_write_9 rfl rfl ?_
                refine GW.getR (pc' := 13) (t := 62) dX4_write_10 rfl fk_X4_15 rfl (by decide) rfl rfl ?_
                refine GW.aload_n (pc' := 14) dX4_write_13 rfl rfl ?_
                refine GW.getI (pc' := 17) dX4_write_14 rfl fk_X4_43 rfl (by decide) rfl rfl ?_
                refine GW.iload_n (pc' := 18) dX4_write_17 rfl rfl ?_
                obtain ⟨b35, h⟩ := h
                refine GW.iastore (pc' := 19) (j := ((M33.1 3 2)).toNatClampNeg) dX4_write_18 rfl rfl b35 rfl ?_
                refine GW.aload_n (pc' := 20) dX4_write_19 rfl rfl ?_
                refine GW.dup (pc' := 21) dX4_write_20 rfl rfl ?_
                refine GW.getI (pc' := 24) dX4_write_21 rfl fk_X4_43 rfl (by decide) rfl rfl ?_
                refine GW.iconst (pc' := 25) (v := 1) dX4_write_24 rfl (by decide) ?_
                refine GW.iadd (pc' := 26) dX4_write_25 rfl ?_
                refine GW.putI (pc' := 29) dX4_write_26 rfl fp_X4_43 rfl (by decide) rfl rfl ⟨rfl, rfl⟩ ?_
                refine GW.vret dX4_write_29 rfl ⟨rfl, ?_⟩
                refine GW.iload_n (pc' := 13) dX4_readNot_12 rfl rfl ?_
                obtain ⟨b36, h⟩ := h
                refine GW.zret dX4_readNot_13 rfl b36 ⟨_, rfl, ?_⟩
                refine GW.goto (tgt := 121) dX4_readOne_111 (by decide) ?_
                obtain ⟨b37, h⟩ := h
                refine GW.zret dX4_readOne_121 rfl b37 ⟨_, rfl, ?_⟩
                exact h
              · replace h := ite_f h c34
                refine GW.vret dX4_write_29 rfl ⟨rfl, ?_⟩
                refine GW.iload_n (pc' := 13) dX4_readNot_12 rfl rfl ?_
                obtain ⟨b38, h⟩ := h
                refine GW.zret dX4_readNot_13 rfl b38 ⟨_, rfl, ?_⟩
                refine GW.goto (tgt := 121) dX4_readOne_111 (by decide) ?_
                obtain ⟨b39, h⟩ := h
                refine GW.zret dX4_readOne_121 rfl b39 ⟨_, rfl, ?_⟩
                exact h
            · replace h := ite_f h c31
              refine GW.iload_n (pc' := 81) dX4_readOne_80 rfl rfl ?_
              refine GW.bipush (pc' := 83) (v := 40) dX4_readOne_81 rfl (by decide) ?_
              refine GW.if_icmpeq (pc' := 86) (tgt := 88) dX4_readOne_83 rfl (by decide) (ite_i (fun c40 => ?_) (fun c40 => ?_))
              · replace h := ite_t h c40
                refine GW.aload_n (pc' := 89) dX4_readOne_88 rfl rfl ?_
                refine GW.dup (pc' := 90) dX4_readOne_89 rfl rfl ?_
                refine GW.getI (pc' := 93) dX4_readOne_90 rfl fk_X4_40 rfl (by decide) rfl rfl ?_
                refine GW.iconst (pc' := 94) (v := 1) dX4_readOne_93 rfl (by decide) ?_
                refine GW.iadd (pc' := 95) dX4_readOne_94 rfl ?_
                refine GW.putI (pc' := 98) dX4_readOne_95 rfl fp_X4_40 rfl (by decide) rfl rfl ⟨rfl, rfl⟩ ?_
                refine GW.iload_n (pc' := 99) dX4_readOne_98 rfl rfl ?_
                refine GW.bipush (pc' := 101) (v := 33) dX4_readOne_99 rfl (by decide) ?_
                refine GW.if_icmpne (pc' := 104) (tgt := 114) dX4_readOne_101 rfl (by decide) (ite_n c31 ?_)
                refine GW.aload_n (pc' := 115) dX4_readOne_114 rfl rfl ?_
                refine GW.iload_n (pc' := 116) dX4_readOne_115 rfl rfl ?_
                refine GW.iconst (pc' := 117) (v := 1) dX4_readOne_116 rfl (by decide) ?_
                refine GW.iadd (pc' := 118) dX4_readOne_117 rfl ?_
                refine GW.callV (pc' := 121) (k := 3) (av := [.int (v1 + 1)]) (rest := []) dX4_readOne_118 rfl mk_X4_readBrackets lk_X4_76 vk_X4_readBrackets ko_3 rfl rfl (Nat.le_of_ble_eq_true rfl) (bk_i (MI.intro (lv := [(0, .ref 3), (1, .int (v1 + 1))]) mk_X4_readBrackets.2.2.2.2 (Nat.le_of_ble_eq_true rfl) rfl ?_))
                refine GW.aload_n (pc' := 1) dX4_readBrackets_0 rfl rfl ?_
                refine GW.iconst (pc' := 2) (v := 0) dX4_readBrackets_1 rfl (by decide) ?_
                refine GW.iload_n (pc' := 3) dX4_readBrackets_2 rfl rfl ?_
                refine GW.callV (pc' := 6) (k := 3) (av := [.int 0, .int (v1 + 1)]) (rest := []) dX4_readBrackets_3 rfl mk_X4_readChain lk_X4_46 vk_X4_readChain ko_3 rfl rfl (Nat.le_of_ble_eq_true rfl) (bk_i (MI.mono h (fun r41 M42 h => ?_)))
                refine GW.ifeq (pc' := 9) (tgt := 34) dX4_readBrackets_6 rfl (by decide) (ite_i (fun c43 => ?_) (fun c43 => ?_))
                · replace h := ite_t h c43
                  refine GW.iconst (pc' := 35) (v := 0) dX4_readBrackets_34 rfl (by decide) ?_
                  refine GW.zret dX4_readBrackets_35 rfl (by decide) ⟨_, rfl, ?_⟩
                  refine GW.zret dX4_readOne_121 rfl (by decide) ⟨_, rfl, ?_⟩
                  exact h
                · replace h := ite_f h c43
                  refine GW.aload_n (pc' := 10) dX4_readBrackets_9 rfl rfl ?_
                  refine GW.getI (pc' := 13) dX4_readBrackets_10 rfl fk_X4_40 rfl (by decide) rfl rfl ?_
                  refine GW.aload_n (pc' := 14) dX4_readBrackets_13 rfl rfl ?_
                  refine GW.getI (pc' := 17) dX4_readBrackets_14 rfl fk_X4_30 rfl (by decide) rfl rfl ?_
                  refine GW.if_icmpge (pc' := 20) (tgt := 34) dX4_readBrackets_17 rfl (by decide) (ite_i (fun c44 => ?_) (fun c44 => ?_))
                  · replace h := ite_t h c44
                    refine GW.aload_n (pc' := 21) dX4_readBrackets_20 rfl rfl ?_
                    refine GW.getR (pc' := 24) (t := 61) dX4_readBrackets_21 rfl fk_X4_9 rfl (by decide) rfl rfl ?_
                    refine GW.aload_n (pc' := 25) dX4_readBrackets_24 rfl rfl ?_
                    refine GW.getI (pc' := 28) dX4_readBrackets_25 rfl fk_X4_40 rfl (by decide) rfl rfl ?_
                    obtain ⟨b45, h⟩ := h
                    refine GW.iaload (pc' := 29) (j := ((M42.1 3 4)).toNatClampNeg) dX4_readBrackets_28 rfl rfl b45 rfl ?_
                    refine GW.bipush (pc' := 31) (v := 41) dX4_readBrackets_29 rfl (by decide) ?_
                    refine GW.if_icmpeq (pc' := 34) (tgt := 36) dX4_readBrackets_31 rfl (by decide) (ite_i (fun c46 => ?_) (fun c46 => ?_))
                    · replace h := ite_t h c46
                      refine GW.aload_n (pc' := 37) dX4_readBrackets_36 rfl rfl ?_
                      refine GW.dup (pc' := 38) dX4_readBrackets_37 rfl rfl ?_
                      refine GW.getI (pc' := 41) dX4_readBrackets_38 rfl fk_X4_40 rfl (by decide) rfl rfl ?_
                      refine GW.iconst (pc' := 42) (v := 1) dX4_readBrackets_41 rfl (by decide) ?_
                      refine GW.iadd (pc' := 43) dX4_readBrackets_42 rfl ?_
                      refine GW.putI (pc' := 46) dX4_readBrackets_43 rfl fp_X4_40 rfl (by decide) rfl rfl ⟨rfl, rfl⟩ ?_
                      refine GW.iconst (pc' := 47) (v := 1) dX4_readBrackets_46 rfl (by decide) ?_
                      refine GW.zret dX4_readBrackets_47 rfl (by decide) ⟨_, rfl, ?_⟩
                      refine GW.zret dX4_readOne_121 rfl (by decide) ⟨_, rfl, ?_⟩
                      exact h
                    · replace h := ite_f h c46
                      refine GW.iconst (pc' := 35) (v := 0) dX4_readBrackets_34 rfl (by decide) ?_
                      refine GW.zret dX4_readBrackets_35 rfl (by decide) ⟨_, rfl, ?_⟩
                      refine GW.zret dX4_readOne_121 rfl (by decide) ⟨_, rfl, ?_⟩
                      exact h
                  · replace h := ite_f h c44
                    refine GW.iconst (pc' := 35) (v := 0) dX4_readBrackets_34 rfl (by decide) ?_
                    refine GW.zret dX4_readBrackets_35 rfl (by decide) ⟨_, rfl, ?_⟩
                    refine GW.zret dX4_readOne_121 rfl (by decide) ⟨_, rfl, ?_⟩
                    exact h
              · replace h := ite_f h c40
                refine GW.iconst (pc' := 87) (v := 0) dX4_readOne_86 rfl (by decide) ?_
                refine GW.zret dX4_readOne_87 rfl (by decide) ⟨_, rfl, ?_⟩
                exact h
          · replace h := ite_f h c30
            refine GW.iconst (pc' := 87) (v := 0) dX4_readOne_86 rfl (by decide) ?_
            refine GW.zret dX4_readOne_87 rfl (by decide) ⟨_, rfl, ?_⟩
            exact h
        · replace h := ite_f h c29
          refine GW.aload_n (pc' := 51) dX4_readOne_50 rfl rfl ?_
          refine GW.dup (pc' := 52) dX4_readOne_51 rfl rfl ?_
          refine GW.getI (pc' := 55) dX4_readOne_52 rfl fk_X4_40 rfl (by decide) rfl rfl ?_
          refine GW.iconst (pc' := 56) (v := 1) dX4_readOne_55 rfl (by decide) ?_
          refine GW.iadd (pc' := 57) dX4_readOne_56 rfl ?_
          refine GW.putI (pc' := 60) dX4_readOne_57 rfl fp_X4_40 rfl (by decide) rfl rfl ⟨rfl, rfl⟩ ?_
          refine GW.aload_n (pc' := 61) dX4_readOne_60 rfl rfl ?_
          refine GW.iconst (pc' := 62) (v := (-1)) dX4_readOne_61 rfl (by decide) ?_
          refine GW.iload_n (pc' := 63) dX4_readOne_62 rfl rfl ?_
          refine GW.isub (pc' := 64) dX4_readOne_63 rfl ?_
          refine GW.callV (pc' := 67) (k := 3) (av := [.int ((-1) - r27)]) (rest := []) dX4_readOne_64 rfl mk_X4_write lk_X4_57 vk_X4_write ko_3 rfl rfl (Nat.le_of_ble_eq_true rfl) (bk_v (MV.intro (lv := [(0, .ref 3), (1, .int ((-1) - r27))]) mk_X4_write.2.2.2.2 (Nat.le_of_ble_eq_true rfl) rfl ?_))
          refine GW.aload_n (pc' := 1) dX4_write_0 rfl rfl ?_
          refine GW.getI (pc' := 4) dX4_write_1 rfl fk_X4_43 rfl (by decide) rfl rfl ?_
          refine GW.bipush (pc' := 6) (v := 60) dX4_write_4 rfl (by decide) ?_
          refine GW.if_icmpge (pc' := 9) (tgt := 29) dX4_write_6 rfl (by decide) (ite_i (fun c47 => ?_) (fun c47 => ?_))
          · replace h := ite_t h c47
            refine GW.aload_n (pc' := 10) dX4_write_9 rfl rfl ?_
            refine GW.getR (pc' := 13) (t := 62) dX4_write_10 rfl fk_X4_15 rfl (by decide) rfl rfl ?_
            refine GW.aload_n (pc' := 14) dX4_write_13 rfl rfl ?_
            refine GW.getI (pc' := 17) dX4_write_14 rfl fk_X4_43 rfl (by decide) rfl rfl ?_
            refine GW.iload_n (pc' := 18) dX4_write_17 rfl rfl ?_
            obtain ⟨b48, h⟩ := h
            refine GW.iastore (pc' := 19) (j := ((M28.1 3 2)).toNatClampNeg) dX4_write_18 rfl rfl b48 rfl ?_
            refine GW.aload_n (pc' := 20) dX4_write_19 rfl rfl ?_
            refine GW.dup (pc' := 21) dX4_write_20 rfl rfl ?_
            refine GW.getI (pc' := 24) dX4_write_21 rfl fk_X4_43 rfl (by decide) rfl rfl ?_
            refine GW.iconst (pc' := 25) (v := 1) dX4_write_24 rfl (by decide) ?_
            refine GW.iadd (pc' := 26) dX4_write_25 rfl ?_
            refine GW.putI (pc' := 29) dX4_write_26 rfl fp_X4_43 rfl (by decide) rfl rfl ⟨rfl, rfl⟩ ?_
            refine GW.vret dX4_write_29 rfl ⟨rfl, ?_⟩
            refine GW.iconst (pc' := 68) (v := 1) dX4_readOne_67 rfl (by decide) ?_
            refine GW.zret dX4_readOne_68 rfl (by decide) ⟨_, rfl, ?_⟩
            exact h
          · replace h := ite_f h c47
            refine GW.vret dX4_write_29 rfl ⟨rfl, ?_⟩
            refine GW.iconst (pc' := 68) (v := 1) dX4_readOne_67 rfl (by decide) ?_
            refine GW.zret dX4_readOne_68 rfl (by decide) ⟨_, rfl, ?_⟩
            exact h
      · replace h := ite_f h c26
        refine GW.iconst (pc' := 13) (v := 1) dX4_isDigit_12 rfl (by decide) ?_
        refine GW.goto (tgt := 17) dX4_isDigit_13 (by decide) ?_
        refine GW.zret dX4_isDigit_17 rfl (by decide) ⟨_, rfl, ?_⟩
        refine GW.ifeq (pc' := 30) (tgt := 36) dX4_readOne_27 rfl (by decide) (ite_n (by decide) ?_)
        refine GW.aload_n (pc' := 31) dX4_readOne_30 rfl rfl ?_
        refine GW.callV (pc' := 34) (k := 3) (av := []) (rest := []) dX4_readOne_31 rfl mk_X4_readNumber lk_X4_64 vk_X4_readNumber ko_3 rfl rfl (Nat.le_of_ble_eq_true rfl) (bk_v (MV.mono h (fun M49 h => ?_)))
        refine GW.iconst (pc' := 35) (v := 1) dX4_readOne_34 rfl (by decide) ?_
        refine GW.zret dX4_readOne_35 rfl (by decide) ⟨_, rfl, ?_⟩
        exact h
  · replace h := ite_f h c1
    refine GW.iconst (pc' := 12) (v := 0) dX4_readOne_11 rfl (by decide) ?_
    refine GW.zret dX4_readOne_12 rfl (by decide) ⟨_, rfl, ?_⟩
    exact h

set_option maxRecDepth 100000 in
set_option maxHeartbeats 4000000 in
theorem wp_X4_reads_3_35_1001 (xs : gX) (d : Nat) (v2 : Int32) (M : Mem) (Q : Int32 → Mem → Prop) (h : (CPK 0 0 (gmin v2 (gmin 60 60)) 60 60 ∧ MI xs (d + 1) mX4_readChain [.ref 3, .int 0, .int 0] (mw (mw (mw (mwA (mw M 3 3 (gmin v2 (gmin 60 60))) 61 (va_cpy (M.1 35) (M.1 61) 0 0 ((gmin v2 (gmin 60 60))).toNatClampNeg)) 3 5 1) 3 4 0) 3 2 0) (fun r2 M3 => (if r2 = 0 then Q 0 M3 else (if (M3.1 3 4) = (M3.1 3 3) then Q 1 M3 else Q 0 M3))))) : MI xs (d + 2) mX4_reads [.ref 3, .ref 35, .int v2, .ref 1001] M Q := by
  refine MI.intro (lv := [(0, .ref 3), (1, .ref 35), (2, .int v2), (3, .ref 1001)]) mk_X4_reads.2.2.2.2 (Nat.le_of_ble_eq_true rfl) rfl ?_
  refine GW.aload_n (pc' := 1) dX4_reads_0 rfl rfl ?_
  refine GW.iload_n (pc' := 2) dX4_reads_1 rfl rfl ?_
  refine GW.bipush (pc' := 4) (v := 60) dX4_reads_2 rfl (by decide) ?_
  refine GW.aload_n (pc' := 5) dX4_reads_4 rfl rfl ?_
  refine GW.alen (pc' := 6) (v := 60) dX4_reads_5 rfl rfl (by decide) ?_
  refine GW.mmin (pc' := 9) dX4_reads_6 rfl zk_X4_24 (Nat.le_of_ble_eq_true rfl) ?_
  refine GW.mmin (pc' := 12) dX4_reads_9 rfl zk_X4_24 (Nat.le_of_ble_eq_true rfl) ?_
  refine GW.putI (pc' := 15) dX4_reads_12 rfl fp_X4_30 rfl (by decide) rfl rfl ⟨rfl, rfl⟩ ?_
  refine GW.aload_n (pc' := 16) dX4_reads_15 rfl rfl ?_
  refine GW.iconst (pc' := 17) (v := 0) dX4_reads_16 rfl (by decide) ?_
  refine GW.aload_n (pc' := 18) dX4_reads_17 rfl rfl ?_
  refine GW.getR (pc' := 21) (t := 61) dX4_reads_18 rfl fk_X4_9 rfl (by decide) rfl rfl ?_
  refine GW.iconst (pc' := 22) (v := 0) dX4_reads_21 rfl (by decide) ?_
  refine GW.aload_n (pc' := 23) dX4_reads_22 rfl rfl ?_
  refine GW.getI (pc' := 26) dX4_reads_23 rfl fk_X4_30 rfl (by decide) rfl rfl ?_
  obtain ⟨b1, h⟩ := h
  refine GW.copyi (pc' := 29) (sp' := 0) (dp' := 0) (n' := ((gmin v2 (gmin 60 60))).toNatClampNeg) dX4_reads_26 rfl ak_X4_34 rfl rfl b1 (by decide) (by decide) rfl (Nat.le_of_ble_eq_true rfl) ?_
  refine GW.aload_n (pc' := 30) dX4_reads_29 rfl rfl ?_
  refine GW.aload_n (pc' := 31) dX4_reads_30 rfl rfl ?_
  refine GW.putS (pc' := 34) (x := 1) dX4_reads_31 rfl fp_X4_20 rfl (by decide) rfl rfl ?_
  refine GW.aload_n (pc' := 35) dX4_reads_34 rfl rfl ?_
  refine GW.iconst (pc' := 36) (v := 0) dX4_reads_35 rfl (by decide) ?_
  refine GW.putI (pc' := 39) dX4_reads_36 rfl fp_X4_40 rfl (by decide) rfl rfl ⟨rfl, rfl⟩ ?_
  refine GW.aload_n (pc' := 40) dX4_reads_39 rfl rfl ?_
  refine GW.iconst (pc' := 41) (v := 0) dX4_reads_40 rfl (by decide) ?_
  refine GW.putI (pc' := 44) dX4_reads_41 rfl fp_X4_43 rfl (by decide) rfl rfl ⟨rfl, rfl⟩ ?_
  refine GW.aload_n (pc' := 45) dX4_reads_44 rfl rfl ?_
  refine GW.iconst (pc' := 46) (v := 0) dX4_reads_45 rfl (by decide) ?_
  refine GW.iconst (pc' := 47) (v := 0) dX4_reads_46 rfl (by decide) ?_
  refine GW.callV (pc' := 50) (k := 3) (av := [.int 0, .int 0]) (rest := []) dX4_reads_47 rfl mk_X4_readChain lk_X4_46 vk_X4_readChain ko_3 rfl rfl (Nat.le_of_ble_eq_true rfl) (bk_i (MI.mono h (fun r2 M3 h => ?_)))
  refine GW.ifeq (pc' := 53) (tgt := 68) dX4_reads_50 rfl (by decide) (ite_i (fun c4 => ?_) (fun c4 => ?_))
  · replace h := ite_t h c4
    refine GW.iconst (pc' := 69) (v := 0) dX4_reads_68 rfl (by decide) ?_
    refine GW.zret dX4_reads_69 rfl (by decide) ⟨_, rfl, ?_⟩
    exact h
  · replace h := ite_f h c4
    refine GW.aload_n (pc' := 54) dX4_reads_53 rfl rfl ?_
    refine GW.getI (pc' := 57) dX4_reads_54 rfl fk_X4_40 rfl (by decide) rfl rfl ?_
    refine GW.aload_n (pc' := 58) dX4_reads_57 rfl rfl ?_
    refine GW.getI (pc' := 61) dX4_reads_58 rfl fk_X4_30 rfl (by decide) rfl rfl ?_
    refine GW.if_icmpne (pc' := 64) (tgt := 68) dX4_reads_61 rfl (by decide) (ite_i (fun c5 => ?_) (fun c5 => ?_))
    · replace h := ite_t h c5
      refine GW.iconst (pc' := 65) (v := 1) dX4_reads_64 rfl (by decide) ?_
      refine GW.goto (tgt := 69) dX4_reads_65 (by decide) ?_
      refine GW.zret dX4_reads_69 rfl (by decide) ⟨_, rfl, ?_⟩
      exact h
    · replace h := ite_f h c5
      refine GW.iconst (pc' := 69) (v := 0) dX4_reads_68 rfl (by decide) ?_
      refine GW.zret dX4_reads_69 rfl (by decide) ⟨_, rfl, ?_⟩
      exact h

set_option maxRecDepth 100000 in
set_option maxHeartbeats 4000000 in
theorem wp_X4_reads_3_35_1002 (xs : gX) (d : Nat) (v2 : Int32) (M : Mem) (Q : Int32 → Mem → Prop) (h : (CPK 0 0 (gmin v2 (gmin 60 60)) 60 60 ∧ MI xs (d + 1) mX4_readChain [.ref 3, .int 0, .int 0] (mw (mw (mw (mwA (mw M 3 3 (gmin v2 (gmin 60 60))) 61 (va_cpy (M.1 35) (M.1 61) 0 0 ((gmin v2 (gmin 60 60))).toNatClampNeg)) 3 5 2) 3 4 0) 3 2 0) (fun r2 M3 => (if r2 = 0 then Q 0 M3 else (if (M3.1 3 4) = (M3.1 3 3) then Q 1 M3 else Q 0 M3))))) : MI xs (d + 2) mX4_reads [.ref 3, .ref 35, .int v2, .ref 1002] M Q := by
  refine MI.intro (lv := [(0, .ref 3), (1, .ref 35), (2, .int v2), (3, .ref 1002)]) mk_X4_reads.2.2.2.2 (Nat.le_of_ble_eq_true rfl) rfl ?_
  refine GW.aload_n (pc' := 1) dX4_reads_0 rfl rfl ?_
  refine GW.iload_n (pc' := 2) dX4_reads_1 rfl rfl ?_
  refine GW.bipush (pc' := 4) (v := 60) dX4_reads_2 rfl (by decide) ?_
  refine GW.aload_n (pc' := 5) dX4_reads_4 rfl rfl ?_
  refine GW.alen (pc' := 6) (v := 60) dX4_reads_5 rfl rfl (by decide) ?_
  refine GW.mmin (pc' := 9) dX4_reads_6 rfl zk_X4_24 (Nat.le_of_ble_eq_true rfl) ?_
  refine GW.mmin (pc' := 12) dX4_reads_9 rfl zk_X4_24 (Nat.le_of_ble_eq_true rfl) ?_
  refine GW.putI (pc' := 15) dX4_reads_12 rfl fp_X4_30 rfl (by decide) rfl rfl ⟨rfl, rfl⟩ ?_
  refine GW.aload_n (pc' := 16) dX4_reads_15 rfl rfl ?_
  refine GW.iconst (pc' := 17) (v := 0) dX4_reads_16 rfl (by decide) ?_
  refine GW.aload_n (pc' := 18) dX4_reads_17 rfl rfl ?_
  refine GW.getR (pc' := 21) (t := 61) dX4_reads_18 rfl fk_X4_9 rfl (by decide) rfl rfl ?_
  refine GW.iconst (pc' := 22) (v := 0) dX4_reads_21 rfl (by decide) ?_
  refine GW.aload_n (pc' := 23) dX4_reads_22 rfl rfl ?_
  refine GW.getI (pc' := 26) dX4_reads_23 rfl fk_X4_30 rfl (by decide) rfl rfl ?_
  obtain ⟨b1, h⟩ := h
  refine GW.copyi (pc' := 29) (sp' := 0) (dp' := 0) (n' := ((gmin v2 (gmin 60 60))).toNatClampNeg) dX4_reads_26 rfl ak_X4_34 rfl rfl b1 (by decide) (by decide) rfl (Nat.le_of_ble_eq_true rfl) ?_
  refine GW.aload_n (pc' := 30) dX4_reads_29 rfl rfl ?_
  refine GW.aload_n (pc' := 31) dX4_reads_30 rfl rfl ?_
  refine GW.putS (pc' := 34) (x := 2) dX4_reads_31 rfl fp_X4_20 rfl (by decide) rfl rfl ?_
  refine GW.aload_n (pc' := 35) dX4_reads_34 rfl rfl ?_
  refine GW.iconst (pc' := 36) (v := 0) dX4_reads_35 rfl (by decide) ?_
  refine GW.putI (pc' := 39) dX4_reads_36 rfl fp_X4_40 rfl (by decide) rfl rfl ⟨rfl, rfl⟩ ?_
  refine GW.aload_n (pc' := 40) dX4_reads_39 rfl rfl ?_
  refine GW.iconst (pc' := 41) (v := 0) dX4_reads_40 rfl (by decide) ?_
  refine GW.putI (pc' := 44) dX4_reads_41 rfl fp_X4_43 rfl (by decide) rfl rfl ⟨rfl, rfl⟩ ?_
  refine GW.aload_n (pc' := 45) dX4_reads_44 rfl rfl ?_
  refine GW.iconst (pc' := 46) (v := 0) dX4_reads_45 rfl (by decide) ?_
  refine GW.iconst (pc' := 47) (v := 0) dX4_reads_46 rfl (by decide) ?_
  refine GW.callV (pc' := 50) (k := 3) (av := [.int 0, .int 0]) (rest := []) dX4_reads_47 rfl mk_X4_readChain lk_X4_46 vk_X4_readChain ko_3 rfl rfl (Nat.le_of_ble_eq_true rfl) (bk_i (MI.mono h (fun r2 M3 h => ?_)))
  refine GW.ifeq (pc' := 53) (tgt := 68) dX4_reads_50 rfl (by decide) (ite_i (fun c4 => ?_) (fun c4 => ?_))
  · replace h := ite_t h c4
    refine GW.iconst (pc' := 69) (v := 0) dX4_reads_68 rfl (by decide) ?_
    refine GW.zret dX4_reads_69 rfl (by decide) ⟨_, rfl, ?_⟩
    exact h
  · replace h := ite_f h c4
    refine GW.aload_n (pc' := 54) dX4_reads_53 rfl rfl ?_
    refine GW.getI (pc' := 57) dX4_reads_54 rfl fk_X4_40 rfl (by decide) rfl rfl ?_
    refine GW.aload_n (pc' := 58) dX4_reads_57 rfl rfl ?_
    refine GW.getI (pc' := 61) dX4_reads_58 rfl fk_X4_30 rfl (by decide) rfl rfl ?_
    refine GW.if_icmpne (pc' := 64) (tgt := 68) dX4_reads_61 rfl (by decide) (ite_i (fun c5 => ?_) (fun c5 => ?_))
    · replace h := ite_t h c5
      refine GW.iconst (pc' := 65) (v := 1) dX4_reads_64 rfl (by decide) ?_
      refine GW.goto (tgt := 69) dX4_reads_65 (by decide) ?_
      refine GW.zret dX4_reads_69 rfl (by decide) ⟨_, rfl, ?_⟩
      exact h
    · replace h := ite_f h c5
      refine GW.iconst (pc' := 69) (v := 0) dX4_reads_68 rfl (by decide) ?_
      refine GW.zret dX4_reads_69 rfl (by decide) ⟨_, rfl, ?_⟩
      exact h

set_option maxRecDepth 100000 in
set_option maxHeartbeats 4000000 in
theorem wp_X6_add_15 (xs : gX) (d : Nat) (v1 : Int32) (v2 : Int32) (v3 : Int32) (M : Mem) (Q : Mem → Prop) (h : (if (M.1 15 4) < 6 then GW xs d mX6_add 16 [(0, .ref 15), (1, .int v1), (2, .int v2), (3, .int v3), (4, .int (M.1 15 4))] [] M (QV Q) else Q M)) : MV xs d mX6_add [.ref 15, .int v1, .int v2, .int v3] M Q := by
  refine MV.intro (lv := [(0, .ref 15), (1, .int v1), (2, .int v2), (3, .int v3)]) mk_X6_add.2.2.2.2 (Nat.le_of_ble_eq_true rfl) rfl ?_
  refine GW.aload_n (pc' := 1) dX6_add_0 rfl rfl ?_
  refine GW.getI (pc' := 4) dX6_add_1 rfl fk_X6_24 rfl (by decide) rfl rfl ?_
  refine GW.bipush (pc' := 6) (v := 6) dX6_add_4 rfl (by decide) ?_
  refine GW.if_icmplt (pc' := 9) (tgt := 10) dX6_add_6 rfl (by decide) (ite_i (fun c1 => ?_) (fun c1 => ?_))
  · replace h := ite_t h c1
    refine GW.aload_n (pc' := 11) dX6_add_10 rfl rfl ?_
    refine GW.getI (pc' := 14) dX6_add_11 rfl fk_X6_24 rfl (by decide) rfl rfl ?_
    refine GW.istore (pc' := 16) (lv' := [(0, .ref 15), (1, .int v1), (2, .int v2), (3, .int v3), (4, .int (M.1 15 4))]) dX6_add_14 rfl rfl (by decide) rfl ?_
    exact h
  · replace h := ite_f h c1
    refine GW.vret dX6_add_9 rfl ⟨rfl, ?_⟩
    exact h
set_option maxRecDepth 100000 in
set_option maxHeartbeats 4000000 in
theorem wp_X6_add_15_L16 (xs : gX) (d : Nat) (v1 : Int32) (v2 : Int32) (v3 : Int32) (v4 : Int32) (M : Mem) (Q : Mem → Prop) (h : (if 0 < v4 then (vp_in (v4 - 1) 6 ∧ (vp_in (M.1 19 ((v4 - 1)).toNatClampNeg) 6 ∧ (if v1 < (M.1 16 ((M.1 19 ((v4 - 1)).toNatClampNeg)).toNatClampNeg) then (vp_in v4 6 ∧ GW xs d mX6_add 16 [(0, .ref 15), (1, .int v1), (2, .int v2), (3, .int v3), (4, .int (v4 + (-1)))] [] (mw M 19 v4.toNatClampNeg (M.1 19 ((v4 - 1)).toNatClampNeg)) (QV Q)) else (vp_in v4 6 ∧ (vp_in (M.1 15 4) 6 ∧ Q (mw (mw (mw (mw (mw M 19 v4.toNatClampNeg (M.1 15 4)) 16 ((M.1 15 4)).toNatClampNeg v1) 17 ((M.1 15 4)).toNatClampNeg v2) 18 ((M.1 15 4)).toNatClampNeg v3) 15 4 ((M.1 15 4) + 1))))))) else (vp_in v4 6 ∧ (vp_in (M.1 15 4) 6 ∧ Q (mw (mw (mw (mw (mw M 19 v4.toNatClampNeg (M.1 15 4)) 16 ((M.1 15 4)).toNatClampNeg v1) 17 ((M.1 15 4)).toNatClampNeg v2) 18 ((M.1 15 4)).toNatClampNeg v3) 15 4 ((M.1 15 4) + 1)))))) : GW xs d mX6_add 16 [(0, .ref 15), (1, .int v1), (2, .int v2), (3, .int v3), (4, .int v4)] [] M (QV Q) := by
  refine GW.iload (pc' := 18) dX6_add_16 rfl rfl ?_
  refine GW.ifle (pc' := 21) (tgt := 61) dX6_add_18 rfl (by decide) (ite_i (fun c1 => ?_) (fun c1 => ?_))
  · replace h := ite_t h c1
    refine GW.aload_n (pc' := 22) dX6_add_21 rfl rfl ?_
    refine GW.getR (pc' := 25) (t := 16) dX6_add_22 rfl fk_X6_9 rfl (by decide) rfl rfl ?_
    refine GW.aload_n (pc' := 26) dX6_add_25 rfl rfl ?_
    refine GW.getR (pc' := 29) (t := 19) dX6_add_26 rfl fk_X6_21 rfl (by decide) rfl rfl ?_
    refine GW.iload (pc' := 31) dX6_add_29 rfl rfl ?_
    refine GW.iconst (pc' := 32) (v := 1) dX6_add_31 rfl (by decide) ?_
    refine GW.isub (pc' := 33) dX6_add_32 rfl ?_
    obtain ⟨b2, h⟩ := h
    refine GW.iaload (pc' := 34) (j := ((v4 - 1)).toNatClampNeg) dX6_add_33 rfl rfl b2 rfl ?_
    obtain ⟨b3, h⟩ := h
    refine GW.iaload (pc' := 35) (j := ((M.1 19 ((v4 - 1)).toNatClampNeg)).toNatClampNeg) dX6_add_34 rfl rfl b3 rfl ?_
    refine GW.iload_n (pc' := 36) dX6_add_35 rfl rfl ?_
    refine GW.if_icmple (pc' := 39) (tgt := 61) dX6_add_36 rfl (by decide) (ite_i (fun c4 => ?_) (fun c4 => ?_))
    · replace h := ite_t h c4
      refine GW.aload_n (pc' := 40) dX6_add_39 rfl rfl ?_
      refine GW.getR (pc' := 43) (t := 19) dX6_add_40 rfl fk_X6_21 rfl (by decide) rfl rfl ?_
      refine GW.iload (pc' := 45) dX6_add_43 rfl rfl ?_
      refine GW.aload_n (pc' := 46) dX6_add_45 rfl rfl ?_
      refine GW.getR (pc' := 49) (t := 19) dX6_add_46 rfl fk_X6_21 rfl (by decide) rfl rfl ?_
      refine GW.iload (pc' := 51) dX6_add_49 rfl rfl ?_
      refine GW.iconst (pc' := 52) (v := 1) dX6_add_51 rfl (by decide) ?_
      refine GW.isub (pc' := 53) dX6_add_52 rfl ?_
      refine GW.iaload (pc' := 54) (j := ((v4 - 1)).toNatClampNeg) dX6_add_53 rfl rfl b2 rfl ?_
      obtain ⟨b5, h⟩ := h
      refine GW.iastore (pc' := 55) (j := v4.toNatClampNeg) dX6_add_54 rfl rfl b5 rfl ?_
      refine GW.iinc (pc' := 58) (lv' := [(0, .ref 15), (1, .int v1), (2, .int v2), (3, .int v3), (4, .int (v4 + (-1)))]) (v := (v4 + (-1))) dX6_add_55 rfl rfl (by decide) rfl rfl rfl ?_
      refine GW.goto (tgt := 16) dX6_add_58 (by decide) ?_
      exact h
    · replace h := ite_f h c4
      refine GW.aload_n (pc' := 62) dX6_add_61 rfl rfl ?_
      refine GW.getR (pc' := 65) (t := 19) dX6_add_62 rfl fk_X6_21 rfl (by decide) rfl rfl ?_
      refine GW.iload (pc' := 67) dX6_add_65 rfl rfl ?_
      refine GW.aload_n (pc' := 68) dX6_add_67 rfl rfl ?_
      refine GW.getI (pc' := 71) dX6_add_68 rfl fk_X6_24 rfl (by decide) rfl rfl ?_
      obtain ⟨b6, h⟩ := h
      refine GW.iastore (pc' := 72) (j := v4.toNatClampNeg) dX6_add_71 rfl rfl b6 rfl ?_
      refine GW.aload_n (pc' := 73) dX6_add_72 rfl rfl ?_
      refine GW.getR (pc' := 76) (t := 16) dX6_add_73 rfl fk_X6_9 rfl (by decide) rfl rfl ?_
      refine GW.aload_n (pc' := 77) dX6_add_76 rfl rfl ?_
      refine GW.getI (pc' := 80) dX6_add_77 rfl fk_X6_24 rfl (by decide) rfl rfl ?_
      refine GW.iload_n (pc' := 81) dX6_add_80 rfl rfl ?_
      obtain ⟨b7, h⟩ := h
      refine GW.iastore (pc' := 82) (j := ((M.1 15 4)).toNatClampNeg) dX6_add_81 rfl rfl b7 rfl ?_
      refine GW.aload_n (pc' := 83) dX6_add_82 rfl rfl ?_
      refine GW.getR (pc' := 86) (t := 17) dX6_add_83 rfl fk_X6_15 rfl (by decide) rfl rfl ?_
      refine GW.aload_n (pc' := 87) dX6_add_86 rfl rfl ?_
      refine GW.getI (pc' := 90) dX6_add_87 rfl fk_X6_24 rfl (by decide) rfl rfl ?_
      refine GW.iload_n (pc' := 91) dX6_add_90 rfl rfl ?_
      refine GW.iastore (pc' := 92) (j := ((M.1 15 4)).toNatClampNeg) dX6_add_91 rfl rfl b7 rfl ?_
      refine GW.aload_n (pc' := 93) dX6_add_92 rfl rfl ?_
      refine GW.getR (pc' := 96) (t := 18) dX6_add_93 rfl fk_X6_18 rfl (by decide) rfl rfl ?_
      refine GW.aload_n (pc' := 97) dX6_add_96 rfl rfl ?_
      refine GW.getI (pc' := 100) dX6_add_97 rfl fk_X6_24 rfl (by decide) rfl rfl ?_
      refine GW.iload_n (pc' := 101) dX6_add_100 rfl rfl ?_
      refine GW.iastore (pc' := 102) (j := ((M.1 15 4)).toNatClampNeg) dX6_add_101 rfl rfl b7 rfl ?_
      refine GW.aload_n (pc' := 103) dX6_add_102 rfl rfl ?_
      refine GW.dup (pc' := 104) dX6_add_103 rfl rfl ?_
      refine GW.getI (pc' := 107) dX6_add_104 rfl fk_X6_24 rfl (by decide) rfl rfl ?_
      refine GW.iconst (pc' := 108) (v := 1) dX6_add_107 rfl (by decide) ?_
      refine GW.iadd (pc' := 109) dX6_add_108 rfl ?_
      refine GW.putI (pc' := 112) dX6_add_109 rfl fp_X6_24 rfl (by decide) rfl rfl ⟨rfl, rfl⟩ ?_
      refine GW.vret dX6_add_112 rfl ⟨rfl, ?_⟩
      exact h
  · replace h := ite_f h c1
    refine GW.aload_n (pc' := 62) dX6_add_61 rfl rfl ?_
    refine GW.getR (pc' := 65) (t := 19) dX6_add_62 rfl fk_X6_21 rfl (by decide) rfl rfl ?_
    refine GW.iload (pc' := 67) dX6_add_65 rfl rfl ?_
    refine GW.aload_n (pc' := 68) dX6_add_67 rfl rfl ?_
    refine GW.getI (pc' := 71) dX6_add_68 rfl fk_X6_24 rfl (by decide) rfl rfl ?_
    obtain ⟨b8, h⟩ := h
    refine GW.iastore (pc' := 72) (j := v4.toNatClampNeg) dX6_add_71 rfl rfl b8 rfl ?_
    refine GW.aload_n (pc' := 73) dX6_add_72 rfl rfl ?_
    refine GW.getR (pc' := 76) (t := 16) dX6_add_73 rfl fk_X6_9 rfl (by decide) rfl rfl ?_
    refine GW.aload_n (pc' := 77) dX6_add_76 rfl rfl ?_
    refine GW.getI (pc' := 80) dX6_add_77 rfl fk_X6_24 rfl (by decide) rfl rfl ?_
    refine GW.iload_n (pc' := 81) dX6_add_80 rfl rfl ?_
    obtain ⟨b9, h⟩ := h
    refine GW.iastore (pc' := 82) (j := ((M.1 15 4)).toNatClampNeg) dX6_add_81 rfl rfl b9 rfl ?_
    refine GW.aload_n (pc' := 83) dX6_add_82 rfl rfl ?_
    refine GW.getR (pc' := 86) (t := 17) dX6_add_83 rfl fk_X6_15 rfl (by decide) rfl rfl ?_
    refine GW.aload_n (pc' := 87) dX6_add_86 rfl rfl ?_
    refine GW.getI (pc' := 90) dX6_add_87 rfl fk_X6_24 rfl (by decide) rfl rfl ?_
    refine GW.iload_n (pc' := 91) dX6_add_90 rfl rfl ?_
    refine GW.iastore (pc' := 92) (j := ((M.1 15 4)).toNatClampNeg) dX6_add_91 rfl rfl b9 rfl ?_
    refine GW.aload_n (pc' := 93) dX6_add_92 rfl rfl ?_
    refine GW.getR (pc' := 96) (t := 18) dX6_add_93 rfl fk_X6_18 rfl (by decide) rfl rfl ?_
    refine GW.aload_n (pc' := 97) dX6_add_96 rfl rfl ?_
    refine GW.getI (pc' := 100) dX6_add_97 rfl fk_X6_24 rfl (by decide) rfl rfl ?_
    refine GW.iload_n (pc' := 101) dX6_add_100 rfl rfl ?_
    refine GW.iastore (pc' := 102) (j := ((M.1 15 4)).toNatClampNeg) dX6_add_101 rfl rfl b9 rfl ?_
    refine GW.aload_n (pc' := 103) dX6_add_102 rfl rfl ?_
    refine GW.dup (pc' := 104) dX6_add_103 rfl rfl ?_
    refine GW.getI (pc' := 107) dX6_add_104 rfl fk_X6_24 rfl (by decide) rfl rfl ?_
    refine GW.iconst (pc' := 108) (v := 1) dX6_add_107 rfl (by decide) ?_
    refine GW.iadd (pc' := 109) dX6_add_108 rfl ?_
    refine GW.putI (pc' := 112) dX6_add_109 rfl fp_X6_24 rfl (by decide) rfl rfl ⟨rfl, rfl⟩ ?_
    refine GW.vret dX6_add_112 rfl ⟨rfl, ?_⟩
    exact h

set_option maxRecDepth 100000 in
set_option maxHeartbeats 4000000 in
theorem wp_X6_become_15_38 (xs : gX) (d : Nat)  (M : Mem) (Q : Mem → Prop) (h : Q (mw (mwA (mwA (mwA (mwA M 16 (va_cpy (M.1 39) (M.1 16) 0 0 6)) 17 (va_cpy (M.1 40) (M.1 17) 0 0 6)) 18 (va_cpy (M.1 41) (M.1 18) 0 0 6)) 19 (va_cpy (M.1 42) (M.1 19) 0 0 6)) 15 4 (M.1 38 4))) : MV xs (d + 1) mX6_become [.ref 15, .ref 38] M Q := by
  refine MV.intro (lv := [(0, .ref 15), (1, .ref 38)]) mk_X6_become.2.2.2.2 (Nat.le_of_ble_eq_true rfl) rfl ?_
  refine GW.aload_n (pc' := 1) dX6_become_0 rfl rfl ?_
  refine GW.getR (pc' := 4) (t := 39) dX6_become_1 rfl fk_X6_9 rfl (by decide) rfl rfl ?_
  refine GW.iconst (pc' := 5) (v := 0) dX6_become_4 rfl (by decide) ?_
  refine GW.aload_n (pc' := 6) dX6_become_5 rfl rfl ?_
  refine GW.getR (pc' := 9) (t := 16) dX6_become_6 rfl fk_X6_9 rfl (by decide) rfl rfl ?_
  refine GW.iconst (pc' := 10) (v := 0) dX6_become_9 rfl (by decide) ?_
  refine GW.bipush (pc' := 12) (v := 6) dX6_become_10 rfl (by decide) ?_
  refine GW.copyi (pc' := 15) (sp' := 0) (dp' := 0) (n' := 6) dX6_become_12 rfl ak_X6_44 rfl rfl (by unfold CPK; decide) (by decide) (by decide) (by decide) (Nat.le_of_ble_eq_true rfl) ?_
  refine GW.aload_n (pc' := 16) dX6_become_15 rfl rfl ?_
  refine GW.getR (pc' := 19) (t := 40) dX6_become_16 rfl fk_X6_15 rfl (by decide) rfl rfl ?_
  refine GW.iconst (pc' := 20) (v := 0) dX6_become_19 rfl (by decide) ?_
  refine GW.aload_n (pc' := 21) dX6_become_20 rfl rfl ?_
  refine GW.getR (pc' := 24) (t := 17) dX6_become_21 rfl fk_X6_15 rfl (by decide) rfl rfl ?_
  refine GW.iconst (pc' := 25) (v := 0) dX6_become_24 rfl (by decide) ?_
  refine GW.bipush (pc' := 27) (v := 6) dX6_become_25 rfl (by decide) ?_
  refine GW.copyi (pc' := 30) (sp' := 0) (dp' := 0) (n' := 6) dX6_become_27 rfl ak_X6_44 rfl rfl (by unfold CPK; decide) (by decide) (by decide) (by decide) (Nat.le_of_ble_eq_true rfl) ?_
  refine GW.aload_n (pc' := 31) dX6_become_30 rfl rfl ?_
  refine GW.getR (pc' := 34) (t := 41) dX6_become_31 rfl fk_X6_18 rfl (by decide) rfl rfl ?_
  refine GW.iconst (pc' := 35) (v := 0) dX6_become_34 rfl (by decide) ?_
  refine GW.aload_n (pc' := 36) dX6_become_35 rfl rfl ?_
  refine GW.getR (pc' := 39) (t := 18) dX6_become_36 rfl fk_X6_18 rfl (by decide) rfl rfl ?_
  refine GW.iconst (pc' := 40) (v := 0) dX6_become_39 rfl (by decide) ?_
  refine GW.bipush (pc' := 42) (v := 6) dX6_become_40 rfl (by decide) ?_
  refine GW.copyi (pc' := 45) (sp' := 0) (dp' := 0) (n' := 6) dX6_become_42 rfl ak_X6_44 rfl rfl (by unfold CPK; decide) (by decide) (by decide) (by decide) (Nat.le_of_ble_eq_true rfl) ?_
  refine GW.aload_n (pc' := 46) dX6_become_45 rfl rfl ?_
  refine GW.getR (pc' := 49) (t := 42) dX6_become_46 rfl fk_X6_21 rfl (by decide) rfl rfl ?_
  refine GW.iconst (pc' := 50) (v := 0) dX6_become_49 rfl (by decide) ?_
  refine GW.aload_n (pc' := 51) dX6_become_50 rfl rfl ?_
  refine GW.getR (pc' := 54) (t := 19) dX6_become_51 rfl fk_X6_21 rfl (by decide) rfl rfl ?_
  refine GW.iconst (pc' := 55) (v := 0) dX6_become_54 rfl (by decide) ?_
  refine GW.bipush (pc' := 57) (v := 6) dX6_become_55 rfl (by decide) ?_
  refine GW.copyi (pc' := 60) (sp' := 0) (dp' := 0) (n' := 6) dX6_become_57 rfl ak_X6_44 rfl rfl (by unfold CPK; decide) (by decide) (by decide) (by decide) (Nat.le_of_ble_eq_true rfl) ?_
  refine GW.aload_n (pc' := 61) dX6_become_60 rfl rfl ?_
  refine GW.aload_n (pc' := 62) dX6_become_61 rfl rfl ?_
  refine GW.getI (pc' := 65) dX6_become_62 rfl fk_X6_24 rfl (by decide) rfl rfl ?_
  refine GW.putI (pc' := 68) dX6_become_65 rfl fp_X6_24 rfl (by decide) rfl rfl ⟨rfl, rfl⟩ ?_
  refine GW.vret dX6_become_68 rfl ⟨rfl, ?_⟩
  exact h

set_option maxRecDepth 100000 in
set_option maxHeartbeats 4000000 in
theorem wp_X6_become_38_15 (xs : gX) (d : Nat)  (M : Mem) (Q : Mem → Prop) (h : Q (mw (mwA (mwA (mwA (mwA M 39 (va_cpy (M.1 16) (M.1 39) 0 0 6)) 40 (va_cpy (M.1 17) (M.1 40) 0 0 6)) 41 (va_cpy (M.1 18) (M.1 41) 0 0 6)) 42 (va_cpy (M.1 19) (M.1 42) 0 0 6)) 38 4 (M.1 15 4))) : MV xs (d + 1) mX6_become [.ref 38, .ref 15] M Q := by
  refine MV.intro (lv := [(0, .ref 38), (1, .ref 15)]) mk_X6_become.2.2.2.2 (Nat.le_of_ble_eq_true rfl) rfl ?_
  refine GW.aload_n (pc' := 1) dX6_become_0 rfl rfl ?_
  refine GW.getR (pc' := 4) (t := 16) dX6_become_1 rfl fk_X6_9 rfl (by decide) rfl rfl ?_
  refine GW.iconst (pc' := 5) (v := 0) dX6_become_4 rfl (by decide) ?_
  refine GW.aload_n (pc' := 6) dX6_become_5 rfl rfl ?_
  refine GW.getR (pc' := 9) (t := 39) dX6_become_6 rfl fk_X6_9 rfl (by decide) rfl rfl ?_
  refine GW.iconst (pc' := 10) (v := 0) dX6_become_9 rfl (by decide) ?_
  refine GW.bipush (pc' := 12) (v := 6) dX6_become_10 rfl (by decide) ?_
  refine GW.copyi (pc' := 15) (sp' := 0) (dp' := 0) (n' := 6) dX6_become_12 rfl ak_X6_44 rfl rfl (by unfold CPK; decide) (by decide) (by decide) (by decide) (Nat.le_of_ble_eq_true rfl) ?_
  refine GW.aload_n (pc' := 16) dX6_become_15 rfl rfl ?_
  refine GW.getR (pc' := 19) (t := 17) dX6_become_16 rfl fk_X6_15 rfl (by decide) rfl rfl ?_
  refine GW.iconst (pc' := 20) (v := 0) dX6_become_19 rfl (by decide) ?_
  refine GW.aload_n (pc' := 21) dX6_become_20 rfl rfl ?_
  refine GW.getR (pc' := 24) (t := 40) dX6_become_21 rfl fk_X6_15 rfl (by decide) rfl rfl ?_
  refine GW.iconst (pc' := 25) (v := 0) dX6_become_24 rfl (by decide) ?_
  refine GW.bipush (pc' := 27) (v := 6) dX6_become_25 rfl (by decide) ?_
  refine GW.copyi (pc' := 30) (sp' := 0) (dp' := 0) (n' := 6) dX6_become_27 rfl ak_X6_44 rfl rfl (by unfold CPK; decide) (by decide) (by decide) (by decide) (Nat.le_of_ble_eq_true rfl) ?_
  refine GW.aload_n (pc' := 31) dX6_become_30 rfl rfl ?_
  refine GW.getR (pc' := 34) (t := 18) dX6_become_31 rfl fk_X6_18 rfl (by decide) rfl rfl ?_
  refine GW.iconst (pc' := 35) (v := 0) dX6_become_34 rfl (by decide) ?_
  refine GW.aload_n (pc' := 36) dX6_become_35 rfl rfl ?_
  refine GW.getR (pc' := 39) (t := 41) dX6_become_36 rfl fk_X6_18 rfl (by decide) rfl rfl ?_
  refine GW.iconst (pc' := 40) (v := 0) dX6_become_39 rfl (by decide) ?_
  refine GW.bipush (pc' := 42) (v := 6) dX6_become_40 rfl (by decide) ?_
  refine GW.copyi (pc' := 45) (sp' := 0) (dp' := 0) (n' := 6) dX6_become_42 rfl ak_X6_44 rfl rfl (by unfold CPK; decide) (by decide) (by decide) (by decide) (Nat.le_of_ble_eq_true rfl) ?_
  refine GW.aload_n (pc' := 46) dX6_become_45 rfl rfl ?_
  refine GW.getR (pc' := 49) (t := 19) dX6_become_46 rfl fk_X6_21 rfl (by decide) rfl rfl ?_
  refine GW.iconst (pc' := 50) (v := 0) dX6_become_49 rfl (by decide) ?_
  refine GW.aload_n (pc' := 51) dX6_become_50 rfl rfl ?_
  refine GW.getR (pc' := 54) (t := 42) dX6_become_51 rfl fk_X6_21 rfl (by decide) rfl rfl ?_
  refine GW.iconst (pc' := 55) (v := 0) dX6_become_54 rfl (by decide) ?_
  refine GW.bipush (pc' := 57) (v := 6) dX6_become_55 rfl (by decide) ?_
  refine GW.copyi (pc' := 60) (sp' := 0) (dp' := 0) (n' := 6) dX6_become_57 rfl ak_X6_44 rfl rfl (by unfold CPK; decide) (by decide) (by decide) (by decide) (Nat.le_of_ble_eq_true rfl) ?_
  refine GW.aload_n (pc' := 61) dX6_become_60 rfl rfl ?_
  refine GW.aload_n (pc' := 62) dX6_become_61 rfl rfl ?_
  refine GW.getI (pc' := 65) dX6_become_62 rfl fk_X6_24 rfl (by decide) rfl rfl ?_
  refine GW.putI (pc' := 68) dX6_become_65 rfl fp_X6_24 rfl (by decide) rfl rfl ⟨rfl, rfl⟩ ?_
  refine GW.vret dX6_become_68 rfl ⟨rfl, ?_⟩
  exact h

set_option maxRecDepth 100000 in
set_option maxHeartbeats 4000000 in
theorem wp_X6_dateOf_15 (xs : gX) (d : Nat) (v1 : Int32) (v2 : Int32) (M : Mem) (Q : Int32 → Mem → Prop) (h : MI xs d mX6_nameOf [.ref 15, .int v1, .int (v2 / 365)] M (fun r1 M2 => Q ((r1 * 1000) + (v2 - v2 / 365 * 365)) M2)) : MI xs (d + 1) mX6_dateOf [.ref 15, .int v1, .int v2] M Q := by
  refine MI.intro (lv := [(0, .ref 15), (1, .int v1), (2, .int v2)]) mk_X6_dateOf.2.2.2.2 (Nat.le_of_ble_eq_true rfl) rfl ?_
  refine GW.aload_n (pc' := 1) dX6_dateOf_0 rfl rfl ?_
  refine GW.iload_n (pc' := 2) dX6_dateOf_1 rfl rfl ?_
  refine GW.iload_n (pc' := 3) dX6_dateOf_2 rfl rfl ?_
  refine GW.sipush (pc' := 6) (v := 365) dX6_dateOf_3 rfl (by decide) ?_
  refine GW.idiv (pc' := 7) dX6_dateOf_6 rfl (by decide) ?_
  refine GW.callV (pc' := 10) (k := 15) (av := [.int v1, .int (v2 / 365)]) (rest := []) dX6_dateOf_7 rfl mk_X6_nameOf lk_X6_32 vk_X6_nameOf ko_15 rfl rfl (Nat.le_of_ble_eq_true rfl) (bk_i (MI.mono h (fun r1 M2 h => ?_)))
  refine GW.sipush (pc' := 13) (v := 1000) dX6_dateOf_10 rfl (by decide) ?_
  refine GW.imul (pc' := 14) dX6_dateOf_13 rfl ?_
  refine GW.iload_n (pc' := 15) dX6_dateOf_14 rfl rfl ?_
  refine GW.sipush (pc' := 18) (v := 365) dX6_dateOf_15 rfl (by decide) ?_
  refine GW.irem (pc' := 19) dX6_dateOf_18 rfl (by decide) ?_
  refine GW.iadd (pc' := 20) dX6_dateOf_19 rfl ?_
  refine GW.iret dX6_dateOf_20 rfl ⟨_, rfl, ?_⟩
  exact h

set_option maxRecDepth 100000 in
set_option maxHeartbeats 4000000 in
theorem wp_X6_isFree_15 (xs : gX) (d : Nat) (v1 : Int32) (v2 : Int32) (v3 : Int32) (M : Mem) (Q : Int32 → Mem → Prop) (h : GW xs (d + 1) mX6_isFree 3 [(0, .ref 15), (1, .int v1), (2, .int v2), (3, .int v3), (4, .int 0)] [] M (QI Q)) : MI xs (d + 1) mX6_isFree [.ref 15, .int v1, .int v2, .int v3] M Q := by
  refine MI.intro (lv := [(0, .ref 15), (1, .int v1), (2, .int v2), (3, .int v3)]) mk_X6_isFree.2.2.2.2 (Nat.le_of_ble_eq_true rfl) rfl ?_
  refine GW.iconst (pc' := 1) (v := 0) dX6_isFree_0 rfl (by decide) ?_
  refine GW.istore (pc' := 3) (lv' := [(0, .ref 15), (1, .int v1), (2, .int v2), (3, .int v3), (4, .int 0)]) dX6_isFree_1 rfl rfl (by decide) rfl ?_
  exact h
set_option maxRecDepth 100000 in
set_option maxHeartbeats 4000000 in
theorem wp_X6_isFree_15_L3 (xs : gX) (d : Nat) (v1 : Int32) (v2 : Int32) (v3 : Int32) (v4 : Int32) (M : Mem) (Q : Int32 → Mem → Prop) (h : (if v4 < (M.1 15 4) then (vp_in v4 6 ∧ (if (M.1 16 v4.toNatClampNeg) = v1 then (if (M.1 17 v4.toNatClampNeg) = v2 then Q 0 M else (if (M.1 18 v4.toNatClampNeg) = v2 then Q 0 M else (if (M.1 17 v4.toNatClampNeg) = v3 then Q 0 M else (if (M.1 18 v4.toNatClampNeg) = v3 then Q 0 M else GW xs (d + 1) mX6_isFree 3 [(0, .ref 15), (1, .int v1), (2, .int v2), (3, .int v3), (4, .int (v4 + 1))] [] M (QI Q))))) else GW xs (d + 1) mX6_isFree 3 [(0, .ref 15), (1, .int v1), (2, .int v2), (3, .int v3), (4, .int (v4 + 1))] [] M (QI Q))) else Q 1 M)) : GW xs (d + 1) mX6_isFree 3 [(0, .ref 15), (1, .int v1), (2, .int v2), (3, .int v3), (4, .int v4)] [] M (QI Q) := by
  refine GW.iload (pc' := 5) dX6_isFree_3 rfl rfl ?_
  refine GW.aload_n (pc' := 6) dX6_isFree_5 rfl rfl ?_
  refine GW.getI (pc' := 9) dX6_isFree_6 rfl fk_X6_24 rfl (by decide) rfl rfl ?_
  refine GW.if_icmpge (pc' := 12) (tgt := 51) dX6_isFree_9 rfl (by decide) (ite_i (fun c1 => ?_) (fun c1 => ?_))
  · replace h := ite_t h c1
    refine GW.aload_n (pc' := 13) dX6_isFree_12 rfl rfl ?_
    refine GW.getR (pc' := 16) (t := 16) dX6_isFree_13 rfl fk_X6_9 rfl (by decide) rfl rfl ?_
    refine GW.iload (pc' := 18) dX6_isFree_16 rfl rfl ?_
    obtain ⟨b2, h⟩ := h
    refine GW.iaload (pc' := 19) (j := v4.toNatClampNeg) dX6_isFree_18 rfl rfl b2 rfl ?_
    refine GW.iload_n (pc' := 20) dX6_isFree_19 rfl rfl ?_
    refine GW.if_icmpne (pc' := 23) (tgt := 45) dX6_isFree_20 rfl (by decide) (ite_i (fun c3 => ?_) (fun c3 => ?_))
    · replace h := ite_t h c3
      refine GW.aload_n (pc' := 24) dX6_isFree_23 rfl rfl ?_
      refine GW.iload (pc' := 26) dX6_isFree_24 rfl rfl ?_
      refine GW.iload_n (pc' := 27) dX6_isFree_26 rfl rfl ?_
      refine GW.callV (pc' := 30) (k := 15) (av := [.int v4, .int v2]) (rest := []) dX6_isFree_27 rfl mk_X6_hasPart lk_X6_28 vk_X6_hasPart ko_15 rfl rfl (Nat.le_of_ble_eq_true rfl) (bk_i (MI.intro (lv := [(0, .ref 15), (1, .int v4), (2, .int v2)]) mk_X6_hasPart.2.2.2.2 (Nat.le_of_ble_eq_true rfl) rfl ?_))
      refine GW.aload_n (pc' := 1) dX6_hasPart_0 rfl rfl ?_
      refine GW.getR (pc' := 4) (t := 17) dX6_hasPart_1 rfl fk_X6_15 rfl (by decide) rfl rfl ?_
      refine GW.iload_n (pc' := 5) dX6_hasPart_4 rfl rfl ?_
      refine GW.iaload (pc' := 6) (j := v4.toNatClampNeg) dX6_hasPart_5 rfl rfl b2 rfl ?_
      refine GW.iload_n (pc' := 7) dX6_hasPart_6 rfl rfl ?_
      refine GW.if_icmpeq (pc' := 10) (tgt := 20) dX6_hasPart_7 rfl (by decide) (ite_i (fun c4 => ?_) (fun c4 => ?_))
      · replace h := ite_t h c4
        refine GW.iconst (pc' := 21) (v := 1) dX6_hasPart_20 rfl (by decide) ?_
        refine GW.goto (tgt := 25) dX6_hasPart_21 (by decide) ?_
        refine GW.zret dX6_hasPart_25 rfl (by decide) ⟨_, rfl, ?_⟩
        refine GW.ifne (pc' := 33) (tgt := 43) dX6_isFree_30 rfl (by decide) (ite_n (by decide) ?_)
        refine GW.iconst (pc' := 44) (v := 0) dX6_isFree_43 rfl (by decide) ?_
        refine GW.zret dX6_isFree_44 rfl (by decide) ⟨_, rfl, ?_⟩
        exact h
      · replace h := ite_f h c4
        refine GW.aload_n (pc' := 11) dX6_hasPart_10 rfl rfl ?_
        refine GW.getR (pc' := 14) (t := 18) dX6_hasPart_11 rfl fk_X6_18 rfl (by decide) rfl rfl ?_
        refine GW.iload_n (pc' := 15) dX6_hasPart_14 rfl rfl ?_
        refine GW.iaload (pc' := 16) (j := v4.toNatClampNeg) dX6_hasPart_15 rfl rfl b2 rfl ?_
        refine GW.iload_n (pc' := 17) dX6_hasPart_16 rfl rfl ?_
        refine GW.if_icmpne (pc' := 20) (tgt := 24) dX6_hasPart_17 rfl (by decide) (ite_i (fun c5 => ?_) (fun c5 => ?_))
        · replace h := ite_t h c5
          refine GW.iconst (pc' := 21) (v := 1) dX6_hasPart_20 rfl (by decide) ?_
          refine GW.goto (tgt := 25) dX6_hasPart_21 (by decide) ?_
          refine GW.zret dX6_hasPart_25 rfl (by decide) ⟨_, rfl, ?_⟩
          refine GW.ifne (pc' := 33) (tgt := 43) dX6_isFree_30 rfl (by decide) (ite_n (by decide) ?_)
          refine GW.iconst (pc' := 44) (v := 0) dX6_isFree_43 rfl (by decide) ?_
          refine GW.zret dX6_isFree_44 rfl (by decide) ⟨_, rfl, ?_⟩
          exact h
        · replace h := ite_f h c5
          refine GW.iconst (pc' := 25) (v := 0) dX6_hasPart_24 rfl (by decide) ?_
          refine GW.zret dX6_hasPart_25 rfl (by decide) ⟨_, rfl, ?_⟩
          refine GW.ifne (pc' := 33) (tgt := 43) dX6_isFree_30 rfl (by decide) (ite_p (by decide) ?_)
          refine GW.aload_n (pc' := 34) dX6_isFree_33 rfl rfl ?_
          refine GW.iload (pc' := 36) dX6_isFree_34 rfl rfl ?_
          refine GW.iload_n (pc' := 37) dX6_isFree_36 rfl rfl ?_
          refine GW.callV (pc' := 40) (k := 15) (av := [.int v4, .int v3]) (rest := []) dX6_isFree_37 rfl mk_X6_hasPart lk_X6_28 vk_X6_hasPart ko_15 rfl rfl (Nat.le_of_ble_eq_true rfl) (bk_i (MI.intro (lv := [(0, .ref 15), (1, .int v4), (2, .int v3)]) mk_X6_hasPart.2.2.2.2 (Nat.le_of_ble_eq_true rfl) rfl ?_))
          refine GW.aload_n (pc' := 1) dX6_hasPart_0 rfl rfl ?_
          refine GW.getR (pc' := 4) (t := 17) dX6_hasPart_1 rfl fk_X6_15 rfl (by decide) rfl rfl ?_
          refine GW.iload_n (pc' := 5) dX6_hasPart_4 rfl rfl ?_
          refine GW.iaload (pc' := 6) (j := v4.toNatClampNeg) dX6_hasPart_5 rfl rfl b2 rfl ?_
          refine GW.iload_n (pc' := 7) dX6_hasPart_6 rfl rfl ?_
          refine GW.if_icmpeq (pc' := 10) (tgt := 20) dX6_hasPart_7 rfl (by decide) (ite_i (fun c6 => ?_) (fun c6 => ?_))
          · replace h := ite_t h c6
            refine GW.iconst (pc' := 21) (v := 1) dX6_hasPart_20 rfl (by decide) ?_
            refine GW.goto (tgt := 25) dX6_hasPart_21 (by decide) ?_
            refine GW.zret dX6_hasPart_25 rfl (by decide) ⟨_, rfl, ?_⟩
            refine GW.ifeq (pc' := 43) (tgt := 45) dX6_isFree_40 rfl (by decide) (ite_n (by decide) ?_)
            refine GW.iconst (pc' := 44) (v := 0) dX6_isFree_43 rfl (by decide) ?_
            refine GW.zret dX6_isFree_44 rfl (by decide) ⟨_, rfl, ?_⟩
            exact h
          · replace h := ite_f h c6
            refine GW.aload_n (pc' := 11) dX6_hasPart_10 rfl rfl ?_
            refine GW.getR (pc' := 14) (t := 18) dX6_hasPart_11 rfl fk_X6_18 rfl (by decide) rfl rfl ?_
            refine GW.iload_n (pc' := 15) dX6_hasPart_14 rfl rfl ?_
            refine GW.iaload (pc' := 16) (j := v4.toNatClampNeg) dX6_hasPart_15 rfl rfl b2 rfl ?_
            refine GW.iload_n (pc' := 17) dX6_hasPart_16 rfl rfl ?_
            refine GW.if_icmpne (pc' := 20) (tgt := 24) dX6_hasPart_17 rfl (by decide) (ite_i (fun c7 => ?_) (fun c7 => ?_))
            · replace h := ite_t h c7
              refine GW.iconst (pc' := 21) (v := 1) dX6_hasPart_20 rfl (by decide) ?_
              refine GW.goto (tgt := 25) dX6_hasPart_21 (by decide) ?_
              refine GW.zret dX6_hasPart_25 rfl (by decide) ⟨_, rfl, ?_⟩
              refine GW.ifeq (pc' := 43) (tgt := 45) dX6_isFree_40 rfl (by decide) (ite_n (by decide) ?_)
              refine GW.iconst (pc' := 44) (v := 0) dX6_isFree_43 rfl (by decide) ?_
              refine GW.zret dX6_isFree_44 rfl (by decide) ⟨_, rfl, ?_⟩
              exact h
            · replace h := ite_f h c7
              refine GW.iconst (pc' := 25) (v := 0) dX6_hasPart_24 rfl (by decide) ?_
              refine GW.zret dX6_hasPart_25 rfl (by decide) ⟨_, rfl, ?_⟩
              refine GW.ifeq (pc' := 43) (tgt := 45) dX6_isFree_40 rfl (by decide) (ite_p (by decide) ?_)
              refine GW.iinc (pc' := 48) (lv' := [(0, .ref 15), (1, .int v1), (2, .int v2), (3, .int v3), (4, .int (v4 + 1))]) (v := (v4 + 1)) dX6_isFree_45 rfl rfl (by decide) rfl rfl rfl ?_
              refine GW.goto (tgt := 3) dX6_isFree_48 (by decide) ?_
              exact h
    · replace h := ite_f h c3
      refine GW.iinc (pc' := 48) (lv' := [(0, .ref 15), (1, .int v1), (2, .int v2), (3, .int v3), (4, .int (v4 + 1))]) (v := (v4 + 1)) dX6_isFree_45 rfl rfl (by decide) rfl rfl rfl ?_
      refine GW.goto (tgt := 3) dX6_isFree_48 (by decide) ?_
      exact h
  · replace h := ite_f h c1
    refine GW.iconst (pc' := 52) (v := 1) dX6_isFree_51 rfl (by decide) ?_
    refine GW.zret dX6_isFree_52 rfl (by decide) ⟨_, rfl, ?_⟩
    exact h

set_option maxRecDepth 100000 in
set_option maxHeartbeats 4000000 in
theorem wp_X6_isNamedAnywhere_15 (xs : gX) (d : Nat) (v1 : Int32) (v2 : Int32) (M : Mem) (Q : Int32 → Mem → Prop) (h : GW xs (d + 1) mX6_isNamedAnywhere 2 [(0, .ref 15), (1, .int v1), (2, .int v2), (3, .int 0)] [] M (QI Q)) : MI xs (d + 1) mX6_isNamedAnywhere [.ref 15, .int v1, .int v2] M Q := by
  refine MI.intro (lv := [(0, .ref 15), (1, .int v1), (2, .int v2)]) mk_X6_isNamedAnywhere.2.2.2.2 (Nat.le_of_ble_eq_true rfl) rfl ?_
  refine GW.iconst (pc' := 1) (v := 0) dX6_isNamedAnywhere_0 rfl (by decide) ?_
  refine GW.istore_n (pc' := 2) (lv' := [(0, .ref 15), (1, .int v1), (2, .int v2), (3, .int 0)]) dX6_isNamedAnywhere_1 rfl rfl (by decide) rfl ?_
  exact h
set_option maxRecDepth 100000 in
set_option maxHeartbeats 4000000 in
theorem wp_X6_isNamedAnywhere_15_L2 (xs : gX) (d : Nat) (v1 : Int32) (v2 : Int32) (v3 : Int32) (M : Mem) (Q : Int32 → Mem → Prop) (h : (if v3 < 4 then MI xs d mX6_nameOf [.ref 15, .int v3, .int v2] M (fun r2 M3 => (if r2 = v1 then Q 1 M3 else GW xs (d + 1) mX6_isNamedAnywhere 2 [(0, .ref 15), (1, .int v1), (2, .int v2), (3, .int (v3 + 1))] [] M3 (QI Q))) else Q 0 M)) : GW xs (d + 1) mX6_isNamedAnywhere 2 [(0, .ref 15), (1, .int v1), (2, .int v2), (3, .int v3)] [] M (QI Q) := by
  refine GW.iload_n (pc' := 3) dX6_isNamedAnywhere_2 rfl rfl ?_
  refine GW.iconst (pc' := 4) (v := 4) dX6_isNamedAnywhere_3 rfl (by decide) ?_
  refine GW.if_icmpge (pc' := 7) (tgt := 25) dX6_isNamedAnywhere_4 rfl (by decide) (ite_i (fun c1 => ?_) (fun c1 => ?_))
  · replace h := ite_t h c1
    refine GW.aload_n (pc' := 8) dX6_isNamedAnywhere_7 rfl rfl ?_
    refine GW.iload_n (pc' := 9) dX6_isNamedAnywhere_8 rfl rfl ?_
    refine GW.iload_n (pc' := 10) dX6_isNamedAnywhere_9 rfl rfl ?_
    refine GW.callV (pc' := 13) (k := 15) (av := [.int v3, .int v2]) (rest := []) dX6_isNamedAnywhere_10 rfl mk_X6_nameOf lk_X6_32 vk_X6_nameOf ko_15 rfl rfl (Nat.le_of_ble_eq_true rfl) (bk_i (MI.mono h (fun r2 M3 h => ?_)))
    refine GW.iload_n (pc' := 14) dX6_isNamedAnywhere_13 rfl rfl ?_
    refine GW.if_icmpne (pc' := 17) (tgt := 19) dX6_isNamedAnywhere_14 rfl (by decide) (ite_i (fun c4 => ?_) (fun c4 => ?_))
    · replace h := ite_t h c4
      refine GW.iconst (pc' := 18) (v := 1) dX6_isNamedAnywhere_17 rfl (by decide) ?_
      refine GW.zret dX6_isNamedAnywhere_18 rfl (by decide) ⟨_, rfl, ?_⟩
      exact h
    · replace h := ite_f h c4
      refine GW.iinc (pc' := 22) (lv' := [(0, .ref 15), (1, .int v1), (2, .int v2), (3, .int (v3 + 1))]) (v := (v3 + 1)) dX6_isNamedAnywhere_19 rfl rfl (by decide) rfl rfl rfl ?_
      refine GW.goto (tgt := 2) dX6_isNamedAnywhere_22 (by decide) ?_
      exact h
  · replace h := ite_f h c1
    refine GW.iconst (pc' := 26) (v := 0) dX6_isNamedAnywhere_25 rfl (by decide) ?_
    refine GW.zret dX6_isNamedAnywhere_26 rfl (by decide) ⟨_, rfl, ?_⟩
    exact h

set_option maxRecDepth 100000 in
set_option maxHeartbeats 4000000 in
theorem wp_X6_nameOf_15 (xs : gX) (d : Nat) (v1 : Int32) (v2 : Int32) (M : Mem) (Q : Int32 → Mem → Prop) (h : GW xs d mX6_nameOf 5 [(0, .ref 15), (1, .int v1), (2, .int v2), (3, .int v2), (4, .int 0)] [] M (QI Q)) : MI xs d mX6_nameOf [.ref 15, .int v1, .int v2] M Q := by
  refine MI.intro (lv := [(0, .ref 15), (1, .int v1), (2, .int v2)]) mk_X6_nameOf.2.2.2.2 (Nat.le_of_ble_eq_true rfl) rfl ?_
  refine GW.iload_n (pc' := 1) dX6_nameOf_0 rfl rfl ?_
  refine GW.istore_n (pc' := 2) (lv' := [(0, .ref 15), (1, .int v1), (2, .int v2), (3, .int v2)]) dX6_nameOf_1 rfl rfl (by decide) rfl ?_
  refine GW.iconst (pc' := 3) (v := 0) dX6_nameOf_2 rfl (by decide) ?_
  refine GW.istore (pc' := 5) (lv' := [(0, .ref 15), (1, .int v1), (2, .int v2), (3, .int v2), (4, .int 0)]) dX6_nameOf_3 rfl rfl (by decide) rfl ?_
  exact h
set_option maxRecDepth 100000 in
set_option maxHeartbeats 4000000 in
theorem wp_X6_nameOf_15_L5 (xs : gX) (d : Nat) (v1 : Int32) (v2 : Int32) (v3 : Int32) (v4 : Int32) (M : Mem) (Q : Int32 → Mem → Prop) (h : (if v4 < (M.1 15 4) then (vp_in v4 6 ∧ (vp_in (M.1 19 v4.toNatClampNeg) 6 ∧ (if (M.1 17 ((M.1 19 v4.toNatClampNeg)).toNatClampNeg) = v1 then (if v3 < (M.1 16 ((M.1 19 v4.toNatClampNeg)).toNatClampNeg) then (if (M.1 18 ((M.1 19 v4.toNatClampNeg)).toNatClampNeg) = v1 then (if (M.1 16 ((M.1 19 v4.toNatClampNeg)).toNatClampNeg) < v3 then GW xs d mX6_nameOf 5 [(0, .ref 15), (1, .int v1), (2, .int v2), (3, .int (v3 + (-1))), (4, .int (v4 + 1))] [] M (QI Q) else GW xs d mX6_nameOf 5 [(0, .ref 15), (1, .int v1), (2, .int v2), (3, .int v3), (4, .int (v4 + 1))] [] M (QI Q)) else GW xs d mX6_nameOf 5 [(0, .ref 15), (1, .int v1), (2, .int v2), (3, .int v3), (4, .int (v4 + 1))] [] M (QI Q)) else GW xs d mX6_nameOf 5 [(0, .ref 15), (1, .int v1), (2, .int v2), (3, .int (v3 + 1)), (4, .int (v4 + 1))] [] M (QI Q)) else (if (M.1 18 ((M.1 19 v4.toNatClampNeg)).toNatClampNeg) = v1 then (if (M.1 16 ((M.1 19 v4.toNatClampNeg)).toNatClampNeg) < v3 then GW xs d mX6_nameOf 5 [(0, .ref 15), (1, .int v1), (2, .int v2), (3, .int (v3 + (-1))), (4, .int (v4 + 1))] [] M (QI Q) else GW xs d mX6_nameOf 5 [(0, .ref 15), (1, .int v1), (2, .int v2), (3, .int v3), (4, .int (v4 + 1))] [] M (QI Q)) else GW xs d mX6_nameOf 5 [(0, .ref 15), (1, .int v1), (2, .int v2), (3, .int v3), (4, .int (v4 + 1))] [] M (QI Q))))) else Q v3 M)) : GW xs d mX6_nameOf 5 [(0, .ref 15), (1, .int v1), (2, .int v2), (3, .int v3), (4, .int v4)] [] M (QI Q) := by
  refine GW.iload (pc' := 7) dX6_nameOf_5 rfl rfl ?_
  refine GW.aload_n (pc' := 8) dX6_nameOf_7 rfl rfl ?_
  refine GW.getI (pc' := 11) dX6_nameOf_8 rfl fk_X6_24 rfl (by decide) rfl rfl ?_
  refine GW.if_icmpge (pc' := 14) (tgt := 82) dX6_nameOf_11 rfl (by decide) (ite_i (fun c1 => ?_) (fun c1 => ?_))
  · replace h := ite_t h c1
    refine GW.aload_n (pc' := 15) dX6_nameOf_14 rfl rfl ?_
    refine GW.getR (pc' := 18) (t := 19) dX6_nameOf_15 rfl fk_X6_21 rfl (by decide) rfl rfl ?_
    refine GW.iload (pc' := 20) dX6_nameOf_18 rfl rfl ?_
    obtain ⟨b2, h⟩ := h
    refine GW.iaload (pc' := 21) (j := v4.toNatClampNeg) dX6_nameOf_20 rfl rfl b2 rfl ?_
    refine GW.istore (pc' := 23) (lv' := [(0, .ref 15), (1, .int v1), (2, .int v2), (3, .int v3), (4, .int v4), (5, .int (M.1 19 v4.toNatClampNeg))]) dX6_nameOf_21 rfl rfl (by decide) rfl ?_
    refine GW.aload_n (pc' := 24) dX6_nameOf_23 rfl rfl ?_
    refine GW.getR (pc' := 27) (t := 17) dX6_nameOf_24 rfl fk_X6_15 rfl (by decide) rfl rfl ?_
    refine GW.iload (pc' := 29) dX6_nameOf_27 rfl rfl ?_
    obtain ⟨b3, h⟩ := h
    refine GW.iaload (pc' := 30) (j := ((M.1 19 v4.toNatClampNeg)).toNatClampNeg) dX6_nameOf_29 rfl rfl b3 rfl ?_
    refine GW.iload_n (pc' := 31) dX6_nameOf_30 rfl rfl ?_
    refine GW.if_icmpne (pc' := 34) (tgt := 51) dX6_nameOf_31 rfl (by decide) (ite_i (fun c4 => ?_) (fun c4 => ?_))
    · replace h := ite_t h c4
      refine GW.iload_n (pc' := 35) dX6_nameOf_34 rfl rfl ?_
      refine GW.aload_n (pc' := 36) dX6_nameOf_35 rfl rfl ?_
      refine GW.getR (pc' := 39) (t := 16) dX6_nameOf_36 rfl fk_X6_9 rfl (by decide) rfl rfl ?_
      refine GW.iload (pc' := 41) dX6_nameOf_39 rfl rfl ?_
      refine GW.iaload (pc' := 42) (j := ((M.1 19 v4.toNatClampNeg)).toNatClampNeg) dX6_nameOf_41 rfl rfl b3 rfl ?_
      refine GW.if_icmplt (pc' := 45) (tgt := 51) dX6_nameOf_42 rfl (by decide) (ite_i (fun c5 => ?_) (fun c5 => ?_))
      · replace h := ite_t h c5
        refine GW.aload_n (pc' := 52) dX6_nameOf_51 rfl rfl ?_
        refine GW.getR (pc' := 55) (t := 18) dX6_nameOf_52 rfl fk_X6_18 rfl (by decide) rfl rfl ?_
        refine GW.iload (pc' := 57) dX6_nameOf_55 rfl rfl ?_
        refine GW.iaload (pc' := 58) (j := ((M.1 19 v4.toNatClampNeg)).toNatClampNeg) dX6_nameOf_57 rfl rfl b3 rfl ?_
        refine GW.iload_n (pc' := 59) dX6_nameOf_58 rfl rfl ?_
        refine GW.if_icmpne (pc' := 62) (tgt := 76) dX6_nameOf_59 rfl (by decide) (ite_i (fun c6 => ?_) (fun c6 => ?_))
        · replace h := ite_t h c6
          refine GW.iload_n (pc' := 63) dX6_nameOf_62 rfl rfl ?_
          refine GW.aload_n (pc' := 64) dX6_nameOf_63 rfl rfl ?_
          refine GW.getR (pc' := 67) (t := 16) dX6_nameOf_64 rfl fk_X6_9 rfl (by decide) rfl rfl ?_
          refine GW.iload (pc' := 69) dX6_nameOf_67 rfl rfl ?_
          refine GW.iaload (pc' := 70) (j := ((M.1 19 v4.toNatClampNeg)).toNatClampNeg) dX6_nameOf_69 rfl rfl b3 rfl ?_
          refine GW.if_icmple (pc' := 73) (tgt := 76) dX6_nameOf_70 rfl (by decide) (ite_i (fun c7 => ?_) (fun c7 => ?_))
          · replace h := ite_t h c7
            refine GW.iinc (pc' := 76) (lv' := [(0, .ref 15), (1, .int v1), (2, .int v2), (3, .int (v3 + (-1))), (4, .int v4), (5, .int (M.1 19 v4.toNatClampNeg))]) (v := (v3 + (-1))) dX6_nameOf_73 rfl rfl (by decide) rfl rfl rfl ?_
            refine GW.iinc (pc' := 79) (lv' := [(0, .ref 15), (1, .int v1), (2, .int v2), (3, .int (v3 + (-1))), (4, .int (v4 + 1)), (5, .int (M.1 19 v4.toNatClampNeg))]) (v := (v4 + 1)) dX6_nameOf_76 rfl rfl (by decide) rfl rfl rfl ?_
            refine GW.goto (tgt := 5) dX6_nameOf_79 (by decide) ?_
            refine GW.sub (lv' := [(0, .ref 15), (1, .int v1), (2, .int v2), (3, .int (v3 + (-1))), (4, .int (v4 + 1))]) [0, 1, 2, 3, 4] rfl ?_
            exact h
          · replace h := ite_f h c7
            refine GW.iinc (pc' := 79) (lv' := [(0, .ref 15), (1, .int v1), (2, .int v2), (3, .int v3), (4, .int (v4 + 1)), (5, .int (M.1 19 v4.toNatClampNeg))]) (v := (v4 + 1)) dX6_nameOf_76 rfl rfl (by decide) rfl rfl rfl ?_
            refine GW.goto (tgt := 5) dX6_nameOf_79 (by decide) ?_
            refine GW.sub (lv' := [(0, .ref 15), (1, .int v1), (2, .int v2), (3, .int v3), (4, .int (v4 + 1))]) [0, 1, 2, 3, 4] rfl ?_
            exact h
        · replace h := ite_f h c6
          refine GW.iinc (pc' := 79) (lv' := [(0, .ref 15), (1, .int v1), (2, .int v2), (3, .int v3), (4, .int (v4 + 1)), (5, .int (M.1 19 v4.toNatClampNeg))]) (v := (v4 + 1)) dX6_nameOf_76 rfl rfl (by decide) rfl rfl rfl ?_
          refine GW.goto (tgt := 5) dX6_nameOf_79 (by decide) ?_
          refine GW.sub (lv' := [(0, .ref 15), (1, .int v1), (2, .int v2), (3, .int v3), (4, .int (v4 + 1))]) [0, 1, 2, 3, 4] rfl ?_
          exact h
      · replace h := ite_f h c5
        refine GW.iinc (pc' := 48) (lv' := [(0, .ref 15), (1, .int v1), (2, .int v2), (3, .int (v3 + 1)), (4, .int v4), (5, .int (M.1 19 v4.toNatClampNeg))]) (v := (v3 + 1)) dX6_nameOf_45 rfl rfl (by decide) rfl rfl rfl ?_
        refine GW.goto (tgt := 76) dX6_nameOf_48 (by decide) ?_
        refine GW.iinc (pc' := 79) (lv' := [(0, .ref 15), (1, .int v1), (2, .int v2), (3, .int (v3 + 1)), (4, .int (v4 + 1)), (5, .int (M.1 19 v4.toNatClampNeg))]) (v := (v4 + 1)) dX6_nameOf_76 rfl rfl (by decide) rfl rfl rfl ?_
        refine GW.goto (tgt := 5) dX6_nameOf_79 (by decide) ?_
        refine GW.sub (lv' := [(0, .ref 15), (1, .int v1), (2, .int v2), (3, .int (v3 + 1)), (4, .int (v4 + 1))]) [0, 1, 2, 3, 4] rfl ?_
        exact h
    · replace h := ite_f h c4
      refine GW.aload_n (pc' := 52) dX6_nameOf_51 rfl rfl ?_
      refine GW.getR (pc' := 55) (t := 18) dX6_nameOf_52 rfl fk_X6_18 rfl (by decide) rfl rfl ?_
      refine GW.iload (pc' := 57) dX6_nameOf_55 rfl rfl ?_
      refine GW.iaload (pc' := 58) (j := ((M.1 19 v4.toNatClampNeg)).toNatClampNeg) dX6_nameOf_57 rfl rfl b3 rfl ?_
      refine GW.iload_n (pc' := 59) dX6_nameOf_58 rfl rfl ?_
      refine GW.if_icmpne (pc' := 62) (tgt := 76) dX6_nameOf_59 rfl (by decide) (ite_i (fun c8 => ?_) (fun c8 => ?_))
      · replace h := ite_t h c8
        refine GW.iload_n (pc' := 63) dX6_nameOf_62 rfl rfl ?_
        refine GW.aload_n (pc' := 64) dX6_nameOf_63 rfl rfl ?_
        refine GW.getR (pc' := 67) (t := 16) dX6_nameOf_64 rfl fk_X6_9 rfl (by decide) rfl rfl ?_
        refine GW.iload (pc' := 69) dX6_nameOf_67 rfl rfl ?_
        refine GW.iaload (pc' := 70) (j := ((M.1 19 v4.toNatClampNeg)).toNatClampNeg) dX6_nameOf_69 rfl rfl b3 rfl ?_
        refine GW.if_icmple (pc' := 73) (tgt := 76) dX6_nameOf_70 rfl (by decide) (ite_i (fun c9 => ?_) (fun c9 => ?_))
        · replace h := ite_t h c9
          refine GW.iinc (pc' := 76) (lv' := [(0, .ref 15), (1, .int v1), (2, .int v2), (3, .int (v3 + (-1))), (4, .int v4), (5, .int (M.1 19 v4.toNatClampNeg))]) (v := (v3 + (-1))) dX6_nameOf_73 rfl rfl (by decide) rfl rfl rfl ?_
          refine GW.iinc (pc' := 79) (lv' := [(0, .ref 15), (1, .int v1), (2, .int v2), (3, .int (v3 + (-1))), (4, .int (v4 + 1)), (5, .int (M.1 19 v4.toNatClampNeg))]) (v := (v4 + 1)) dX6_nameOf_76 rfl rfl (by decide) rfl rfl rfl ?_
          refine GW.goto (tgt := 5) dX6_nameOf_79 (by decide) ?_
          refine GW.sub (lv' := [(0, .ref 15), (1, .int v1), (2, .int v2), (3, .int (v3 + (-1))), (4, .int (v4 + 1))]) [0, 1, 2, 3, 4] rfl ?_
          exact h
        · replace h := ite_f h c9
          refine GW.iinc (pc' := 79) (lv' := [(0, .ref 15), (1, .int v1), (2, .int v2), (3, .int v3), (4, .int (v4 + 1)), (5, .int (M.1 19 v4.toNatClampNeg))]) (v := (v4 + 1)) dX6_nameOf_76 rfl rfl (by decide) rfl rfl rfl ?_
          refine GW.goto (tgt := 5) dX6_nameOf_79 (by decide) ?_
          refine GW.sub (lv' := [(0, .ref 15), (1, .int v1), (2, .int v2), (3, .int v3), (4, .int (v4 + 1))]) [0, 1, 2, 3, 4] rfl ?_
          exact h
      · replace h := ite_f h c8
        refine GW.iinc (pc' := 79) (lv' := [(0, .ref 15), (1, .int v1), (2, .int v2), (3, .int v3), (4, .int (v4 + 1)), (5, .int (M.1 19 v4.toNatClampNeg))]) (v := (v4 + 1)) dX6_nameOf_76 rfl rfl (by decide) rfl rfl rfl ?_
        refine GW.goto (tgt := 5) dX6_nameOf_79 (by decide) ?_
        refine GW.sub (lv' := [(0, .ref 15), (1, .int v1), (2, .int v2), (3, .int v3), (4, .int (v4 + 1))]) [0, 1, 2, 3, 4] rfl ?_
        exact h
  · replace h := ite_f h c1
    refine GW.iload_n (pc' := 83) dX6_nameOf_82 rfl rfl ?_
    refine GW.iret dX6_nameOf_83 rfl ⟨_, rfl, ?_⟩
    exact h

set_option maxRecDepth 100000 in
set_option maxHeartbeats 4000000 in
theorem wp_X6_partsOf_15 (xs : gX) (d : Nat) (v1 : Int32) (M : Mem) (Q : Int32 → Mem → Prop) (h : GW xs (d + 1) mX6_partsOf 4 [(0, .ref 15), (1, .int v1), (2, .int 0), (3, .int 0)] [] M (QI Q)) : MI xs (d + 1) mX6_partsOf [.ref 15, .int v1] M Q := by
  refine MI.intro (lv := [(0, .ref 15), (1, .int v1)]) mk_X6_partsOf.2.2.2.2 (Nat.le_of_ble_eq_true rfl) rfl ?_
  refine GW.iconst (pc' := 1) (v := 0) dX6_partsOf_0 rfl (by decide) ?_
  refine GW.istore_n (pc' := 2) (lv' := [(0, .ref 15), (1, .int v1), (2, .int 0)]) dX6_partsOf_1 rfl rfl (by decide) rfl ?_
  refine GW.iconst (pc' := 3) (v := 0) dX6_partsOf_2 rfl (by decide) ?_
  refine GW.istore_n (pc' := 4) (lv' := [(0, .ref 15), (1, .int v1), (2, .int 0), (3, .int 0)]) dX6_partsOf_3 rfl rfl (by decide) rfl ?_
  exact h
set_option maxRecDepth 100000 in
set_option maxHeartbeats 4000000 in
theorem wp_X6_partsOf_15_L4 (xs : gX) (d : Nat) (v1 : Int32) (v2 : Int32) (v3 : Int32) (M : Mem) (Q : Int32 → Mem → Prop) (h : (if v3 < (M.1 15 4) then (vp_in v3 6 ∧ (if (M.1 17 v3.toNatClampNeg) = v1 then GW xs (d + 1) mX6_partsOf 4 [(0, .ref 15), (1, .int v1), (2, .int (v2 + 1)), (3, .int (v3 + 1))] [] M (QI Q) else (if (M.1 18 v3.toNatClampNeg) = v1 then GW xs (d + 1) mX6_partsOf 4 [(0, .ref 15), (1, .int v1), (2, .int (v2 + 1)), (3, .int (v3 + 1))] [] M (QI Q) else GW xs (d + 1) mX6_partsOf 4 [(0, .ref 15), (1, .int v1), (2, .int v2), (3, .int (v3 + 1))] [] M (QI Q)))) else Q v2 M)) : GW xs (d + 1) mX6_partsOf 4 [(0, .ref 15), (1, .int v1), (2, .int v2), (3, .int v3)] [] M (QI Q) := by
  refine GW.iload_n (pc' := 5) dX6_partsOf_4 rfl rfl ?_
  refine GW.aload_n (pc' := 6) dX6_partsOf_5 rfl rfl ?_
  refine GW.getI (pc' := 9) dX6_partsOf_6 rfl fk_X6_24 rfl (by decide) rfl rfl ?_
  refine GW.if_icmpge (pc' := 12) (tgt := 30) dX6_partsOf_9 rfl (by decide) (ite_i (fun c1 => ?_) (fun c1 => ?_))
  · replace h := ite_t h c1
    refine GW.aload_n (pc' := 13) dX6_partsOf_12 rfl rfl ?_
    refine GW.iload_n (pc' := 14) dX6_partsOf_13 rfl rfl ?_
    refine GW.iload_n (pc' := 15) dX6_partsOf_14 rfl rfl ?_
    refine GW.callV (pc' := 18) (k := 15) (av := [.int v3, .int v1]) (rest := []) dX6_partsOf_15 rfl mk_X6_hasPart lk_X6_28 vk_X6_hasPart ko_15 rfl rfl (Nat.le_of_ble_eq_true rfl) (bk_i (MI.intro (lv := [(0, .ref 15), (1, .int v3), (2, .int v1)]) mk_X6_hasPart.2.2.2.2 (Nat.le_of_ble_eq_true rfl) rfl ?_))
    refine GW.aload_n (pc' := 1) dX6_hasPart_0 rfl rfl ?_
    refine GW.getR (pc' := 4) (t := 17) dX6_hasPart_1 rfl fk_X6_15 rfl (by decide) rfl rfl ?_
    refine GW.iload_n (pc' := 5) dX6_hasPart_4 rfl rfl ?_
    obtain ⟨b2, h⟩ := h
    refine GW.iaload (pc' := 6) (j := v3.toNatClampNeg) dX6_hasPart_5 rfl rfl b2 rfl ?_
    refine GW.iload_n (pc' := 7) dX6_hasPart_6 rfl rfl ?_
    refine GW.if_icmpeq (pc' := 10) (tgt := 20) dX6_hasPart_7 rfl (by decide) (ite_i (fun c3 => ?_) (fun c3 => ?_))
    · replace h := ite_t h c3
      refine GW.iconst (pc' := 21) (v := 1) dX6_hasPart_20 rfl (by decide) ?_
      refine GW.goto (tgt := 25) dX6_hasPart_21 (by decide) ?_
      refine GW.zret dX6_hasPart_25 rfl (by decide) ⟨_, rfl, ?_⟩
      refine GW.ifeq (pc' := 21) (tgt := 24) dX6_partsOf_18 rfl (by decide) (ite_n (by decide) ?_)
      refine GW.iinc (pc' := 24) (lv' := [(0, .ref 15), (1, .int v1), (2, .int (v2 + 1)), (3, .int v3)]) (v := (v2 + 1)) dX6_partsOf_21 rfl rfl (by decide) rfl rfl rfl ?_
      refine GW.iinc (pc' := 27) (lv' := [(0, .ref 15), (1, .int v1), (2, .int (v2 + 1)), (3, .int (v3 + 1))]) (v := (v3 + 1)) dX6_partsOf_24 rfl rfl (by decide) rfl rfl rfl ?_
      refine GW.goto (tgt := 4) dX6_partsOf_27 (by decide) ?_
      exact h
    · replace h := ite_f h c3
      refine GW.aload_n (pc' := 11) dX6_hasPart_10 rfl rfl ?_
      refine GW.getR (pc' := 14) (t := 18) dX6_hasPart_11 rfl fk_X6_18 rfl (by decide) rfl rfl ?_
      refine GW.iload_n (pc' := 15) dX6_hasPart_14 rfl rfl ?_
      refine GW.iaload (pc' := 16) (j := v3.toNatClampNeg) dX6_hasPart_15 rfl rfl b2 rfl ?_
      refine GW.iload_n (pc' := 17) dX6_hasPart_16 rfl rfl ?_
      refine GW.if_icmpne (pc' := 20) (tgt := 24) dX6_hasPart_17 rfl (by decide) (ite_i (fun c4 => ?_) (fun c4 => ?_))
      · replace h := ite_t h c4
        refine GW.iconst (pc' := 21) (v := 1) dX6_hasPart_20 rfl (by decide) ?_
        refine GW.goto (tgt := 25) dX6_hasPart_21 (by decide) ?_
        refine GW.zret dX6_hasPart_25 rfl (by decide) ⟨_, rfl, ?_⟩
        refine GW.ifeq (pc' := 21) (tgt := 24) dX6_partsOf_18 rfl (by decide) (ite_n (by decide) ?_)
        refine GW.iinc (pc' := 24) (lv' := [(0, .ref 15), (1, .int v1), (2, .int (v2 + 1)), (3, .int v3)]) (v := (v2 + 1)) dX6_partsOf_21 rfl rfl (by decide) rfl rfl rfl ?_
        refine GW.iinc (pc' := 27) (lv' := [(0, .ref 15), (1, .int v1), (2, .int (v2 + 1)), (3, .int (v3 + 1))]) (v := (v3 + 1)) dX6_partsOf_24 rfl rfl (by decide) rfl rfl rfl ?_
        refine GW.goto (tgt := 4) dX6_partsOf_27 (by decide) ?_
        exact h
      · replace h := ite_f h c4
        refine GW.iconst (pc' := 25) (v := 0) dX6_hasPart_24 rfl (by decide) ?_
        refine GW.zret dX6_hasPart_25 rfl (by decide) ⟨_, rfl, ?_⟩
        refine GW.ifeq (pc' := 21) (tgt := 24) dX6_partsOf_18 rfl (by decide) (ite_p (by decide) ?_)
        refine GW.iinc (pc' := 27) (lv' := [(0, .ref 15), (1, .int v1), (2, .int v2), (3, .int (v3 + 1))]) (v := (v3 + 1)) dX6_partsOf_24 rfl rfl (by decide) rfl rfl rfl ?_
        refine GW.goto (tgt := 4) dX6_partsOf_27 (by decide) ?_
        exact h
  · replace h := ite_f h c1
    refine GW.iload_n (pc' := 31) dX6_partsOf_30 rfl rfl ?_
    refine GW.iret dX6_partsOf_31 rfl ⟨_, rfl, ?_⟩
    exact h

set_option maxRecDepth 100000 in
set_option maxHeartbeats 4000000 in
theorem wp_X6_removeLast_15 (xs : gX) (d : Nat)  (M : Mem) (Q : Mem → Prop) (h : GW xs d mX6_removeLast 4 [(0, .ref 15), (1, .int 0), (2, .int 0)] [] M (QV Q)) : MV xs d mX6_removeLast [.ref 15] M Q := by
  refine MV.intro (lv := [(0, .ref 15)]) mk_X6_removeLast.2.2.2.2 (Nat.le_of_ble_eq_true rfl) rfl ?_
  refine GW.iconst (pc' := 1) (v := 0) dX6_removeLast_0 rfl (by decide) ?_
  refine GW.istore_n (pc' := 2) (lv' := [(0, .ref 15), (1, .int 0)]) dX6_removeLast_1 rfl rfl (by decide) rfl ?_
  refine GW.iconst (pc' := 3) (v := 0) dX6_removeLast_2 rfl (by decide) ?_
  refine GW.istore_n (pc' := 4) (lv' := [(0, .ref 15), (1, .int 0), (2, .int 0)]) dX6_removeLast_3 rfl rfl (by decide) rfl ?_
  exact h
set_option maxRecDepth 100000 in
set_option maxHeartbeats 4000000 in
theorem wp_X6_removeLast_15_L4 (xs : gX) (d : Nat) (v1 : Int32) (v2 : Int32) (M : Mem) (Q : Mem → Prop) (h : (if v2 < (M.1 15 4) then (vp_in v2 6 ∧ (if (M.1 19 v2.toNatClampNeg) = ((M.1 15 4) - 1) then GW xs d mX6_removeLast 4 [(0, .ref 15), (1, .int v1), (2, .int (v2 + 1))] [] M (QV Q) else (vp_in v1 6 ∧ GW xs d mX6_removeLast 4 [(0, .ref 15), (1, .int (v1 + 1)), (2, .int (v2 + 1))] [] (mw M 19 v1.toNatClampNeg (M.1 19 v2.toNatClampNeg)) (QV Q)))) else Q (mw M 15 4 v1))) : GW xs d mX6_removeLast 4 [(0, .ref 15), (1, .int v1), (2, .int v2)] [] M (QV Q) := by
  refine GW.iload_n (pc' := 5) dX6_removeLast_4 rfl rfl ?_
  refine GW.aload_n (pc' := 6) dX6_removeLast_5 rfl rfl ?_
  refine GW.getI (pc' := 9) dX6_removeLast_6 rfl fk_X6_24 rfl (by decide) rfl rfl ?_
  refine GW.if_icmpge (pc' := 12) (tgt := 48) dX6_removeLast_9 rfl (by decide) (ite_i (fun c1 => ?_) (fun c1 => ?_))
  · replace h := ite_t h c1
    refine GW.aload_n (pc' := 13) dX6_removeLast_12 rfl rfl ?_
    refine GW.getR (pc' := 16) (t := 19) dX6_removeLast_13 rfl fk_X6_21 rfl (by decide) rfl rfl ?_
    refine GW.iload_n (pc' := 17) dX6_removeLast_16 rfl rfl ?_
    obtain ⟨b2, h⟩ := h
    refine GW.iaload (pc' := 18) (j := v2.toNatClampNeg) dX6_removeLast_17 rfl rfl b2 rfl ?_
    refine GW.aload_n (pc' := 19) dX6_removeLast_18 rfl rfl ?_
    refine GW.getI (pc' := 22) dX6_removeLast_19 rfl fk_X6_24 rfl (by decide) rfl rfl ?_
    refine GW.iconst (pc' := 23) (v := 1) dX6_removeLast_22 rfl (by decide) ?_
    refine GW.isub (pc' := 24) dX6_removeLast_23 rfl ?_
    refine GW.if_icmpeq (pc' := 27) (tgt := 42) dX6_removeLast_24 rfl (by decide) (ite_i (fun c3 => ?_) (fun c3 => ?_))
    · replace h := ite_t h c3
      refine GW.iinc (pc' := 45) (lv' := [(0, .ref 15), (1, .int v1), (2, .int (v2 + 1))]) (v := (v2 + 1)) dX6_removeLast_42 rfl rfl (by decide) rfl rfl rfl ?_
      refine GW.goto (tgt := 4) dX6_removeLast_45 (by decide) ?_
      exact h
    · replace h := ite_f h c3
      refine GW.aload_n (pc' := 28) dX6_removeLast_27 rfl rfl ?_
      refine GW.getR (pc' := 31) (t := 19) dX6_removeLast_28 rfl fk_X6_21 rfl (by decide) rfl rfl ?_
      refine GW.iload_n (pc' := 32) dX6_removeLast_31 rfl rfl ?_
      refine GW.aload_n (pc' := 33) dX6_removeLast_32 rfl rfl ?_
      refine GW.getR (pc' := 36) (t := 19) dX6_removeLast_33 rfl fk_X6_21 rfl (by decide) rfl rfl ?_
      refine GW.iload_n (pc' := 37) dX6_removeLast_36 rfl rfl ?_
      refine GW.iaload (pc' := 38) (j := v2.toNatClampNeg) dX6_removeLast_37 rfl rfl b2 rfl ?_
      obtain ⟨b4, h⟩ := h
      refine GW.iastore (pc' := 39) (j := v1.toNatClampNeg) dX6_removeLast_38 rfl rfl b4 rfl ?_
      refine GW.iinc (pc' := 42) (lv' := [(0, .ref 15), (1, .int (v1 + 1)), (2, .int v2)]) (v := (v1 + 1)) dX6_removeLast_39 rfl rfl (by decide) rfl rfl rfl ?_
      refine GW.iinc (pc' := 45) (lv' := [(0, .ref 15), (1, .int (v1 + 1)), (2, .int (v2 + 1))]) (v := (v2 + 1)) dX6_removeLast_42 rfl rfl (by decide) rfl rfl rfl ?_
      refine GW.goto (tgt := 4) dX6_removeLast_45 (by decide) ?_
      exact h
  · replace h := ite_f h c1
    refine GW.aload_n (pc' := 49) dX6_removeLast_48 rfl rfl ?_
    refine GW.iload_n (pc' := 50) dX6_removeLast_49 rfl rfl ?_
    refine GW.putI (pc' := 53) dX6_removeLast_50 rfl fp_X6_24 rfl (by decide) rfl rfl ⟨rfl, rfl⟩ ?_
    refine GW.vret dX6_removeLast_53 rfl ⟨rfl, ?_⟩
    exact h

set_option maxRecDepth 100000 in
set_option maxHeartbeats 4000000 in
theorem wp_X6_turnsOfName_15 (xs : gX) (d : Nat) (v1 : Int32) (v2 : Int32) (v3 : Int32) (M : Mem) (Q : Int32 → Mem → Prop) (h : MI xs d mX6_nameOf [.ref 15, .int v1, .int v2] M (fun r1 M2 => MI xs d mX6_nameOf [.ref 15, .int v1, .int v3] M2 (fun r3 M4 => GW xs (d + 1) mX6_turnsOfName 26 [(0, .ref 15), (1, .int v1), (2, .int v2), (3, .int v3), (4, .int r1), (5, .int r3), (6, .int (r3 - r1)), (7, .int 0)] [] M4 (QI Q)))) : MI xs (d + 1) mX6_turnsOfName [.ref 15, .int v1, .int v2, .int v3] M Q := by
  refine MI.intro (lv := [(0, .ref 15), (1, .int v1), (2, .int v2), (3, .int v3)]) mk_X6_turnsOfName.2.2.2.2 (Nat.le_of_ble_eq_true rfl) rfl ?_
  refine GW.aload_n (pc' := 1) dX6_turnsOfName_0 rfl rfl ?_
  refine GW.iload_n (pc' := 2) dX6_turnsOfName_1 rfl rfl ?_
  refine GW.iload_n (pc' := 3) dX6_turnsOfName_2 rfl rfl ?_
  refine GW.callV (pc' := 6) (k := 15) (av := [.int v1, .int v2]) (rest := []) dX6_turnsOfName_3 rfl mk_X6_nameOf lk_X6_32 vk_X6_nameOf ko_15 rfl rfl (Nat.le_of_ble_eq_true rfl) (bk_i (MI.mono h (fun r1 M2 h => ?_)))
  refine GW.istore (pc' := 8) (lv' := [(0, .ref 15), (1, .int v1), (2, .int v2), (3, .int v3), (4, .int r1)]) dX6_turnsOfName_6 rfl rfl (by decide) rfl ?_
  refine GW.aload_n (pc' := 9) dX6_turnsOfName_8 rfl rfl ?_
  refine GW.iload_n (pc' := 10) dX6_turnsOfName_9 rfl rfl ?_
  refine GW.iload_n (pc' := 11) dX6_turnsOfName_10 rfl rfl ?_
  refine GW.callV (pc' := 14) (k := 15) (av := [.int v1, .int v3]) (rest := []) dX6_turnsOfName_11 rfl mk_X6_nameOf lk_X6_32 vk_X6_nameOf ko_15 rfl rfl (Nat.le_of_ble_eq_true rfl) (bk_i (MI.mono h (fun r3 M4 h => ?_)))
  refine GW.istore (pc' := 16) (lv' := [(0, .ref 15), (1, .int v1), (2, .int v2), (3, .int v3), (4, .int r1), (5, .int r3)]) dX6_turnsOfName_14 rfl rfl (by decide) rfl ?_
  refine GW.iload (pc' := 18) dX6_turnsOfName_16 rfl rfl ?_
  refine GW.iload (pc' := 20) dX6_turnsOfName_18 rfl rfl ?_
  refine GW.isub (pc' := 21) dX6_turnsOfName_20 rfl ?_
  refine GW.istore (pc' := 23) (lv' := [(0, .ref 15), (1, .int v1), (2, .int v2), (3, .int v3), (4, .int r1), (5, .int r3), (6, .int (r3 - r1))]) dX6_turnsOfName_21 rfl rfl (by decide) rfl ?_
  refine GW.iconst (pc' := 24) (v := 0) dX6_turnsOfName_23 rfl (by decide) ?_
  refine GW.istore (pc' := 26) (lv' := [(0, .ref 15), (1, .int v1), (2, .int v2), (3, .int v3), (4, .int r1), (5, .int r3), (6, .int (r3 - r1)), (7, .int 0)]) dX6_turnsOfName_24 rfl rfl (by decide) rfl ?_
  exact h
set_option maxRecDepth 100000 in
set_option maxHeartbeats 4000000 in
theorem wp_X6_turnsOfName_15_L26 (xs : gX) (d : Nat) (v1 : Int32) (v2 : Int32) (v3 : Int32) (v4 : Int32) (v5 : Int32) (v6 : Int32) (v7 : Int32) (M : Mem) (Q : Int32 → Mem → Prop) (h : (if v7 < (M.1 15 4) then (vp_in v7 6 ∧ (if (M.1 17 v7.toNatClampNeg) = v1 then (if v4 < (M.1 16 v7.toNatClampNeg) then (if (M.1 16 v7.toNatClampNeg) < v5 then GW xs (d + 1) mX6_turnsOfName 26 [(0, .ref 15), (1, .int v1), (2, .int v2), (3, .int v3), (4, .int v4), (5, .int v5), (6, .int (v6 + (-1))), (7, .int (v7 + 1))] [] M (QI Q) else GW xs (d + 1) mX6_turnsOfName 26 [(0, .ref 15), (1, .int v1), (2, .int v2), (3, .int v3), (4, .int v4), (5, .int v5), (6, .int v6), (7, .int (v7 + 1))] [] M (QI Q)) else GW xs (d + 1) mX6_turnsOfName 26 [(0, .ref 15), (1, .int v1), (2, .int v2), (3, .int v3), (4, .int v4), (5, .int v5), (6, .int v6), (7, .int (v7 + 1))] [] M (QI Q)) else GW xs (d + 1) mX6_turnsOfName 26 [(0, .ref 15), (1, .int v1), (2, .int v2), (3, .int v3), (4, .int v4), (5, .int v5), (6, .int v6), (7, .int (v7 + 1))] [] M (QI Q))) else Q v6 M)) : GW xs (d + 1) mX6_turnsOfName 26 [(0, .ref 15), (1, .int v1), (2, .int v2), (3, .int v3), (4, .int v4), (5, .int v5), (6, .int v6), (7, .int v7)] [] M (QI Q) := by
  refine GW.iload (pc' := 28) dX6_turnsOfName_26 rfl rfl ?_
  refine GW.aload_n (pc' := 29) dX6_turnsOfName_28 rfl rfl ?_
  refine GW.getI (pc' := 32) dX6_turnsOfName_29 rfl fk_X6_24 rfl (by decide) rfl rfl ?_
  refine GW.if_icmpge (pc' := 35) (tgt := 79) dX6_turnsOfName_32 rfl (by decide) (ite_i (fun c1 => ?_) (fun c1 => ?_))
  · replace h := ite_t h c1
    refine GW.aload_n (pc' := 36) dX6_turnsOfName_35 rfl rfl ?_
    refine GW.getR (pc' := 39) (t := 17) dX6_turnsOfName_36 rfl fk_X6_15 rfl (by decide) rfl rfl ?_
    refine GW.iload (pc' := 41) dX6_turnsOfName_39 rfl rfl ?_
    obtain ⟨b2, h⟩ := h
    refine GW.iaload (pc' := 42) (j := v7.toNatClampNeg) dX6_turnsOfName_41 rfl rfl b2 rfl ?_
    refine GW.iload_n (pc' := 43) dX6_turnsOfName_42 rfl rfl ?_
    refine GW.if_icmpne (pc' := 46) (tgt := 73) dX6_turnsOfName_43 rfl (by decide) (ite_i (fun c3 => ?_) (fun c3 => ?_))
    · replace h := ite_t h c3
      refine GW.aload_n (pc' := 47) dX6_turnsOfName_46 rfl rfl ?_
      refine GW.getR (pc' := 50) (t := 16) dX6_turnsOfName_47 rfl fk_X6_9 rfl (by decide) rfl rfl ?_
      refine GW.iload (pc' := 52) dX6_turnsOfName_50 rfl rfl ?_
      refine GW.iaload (pc' := 53) (j := v7.toNatClampNeg) dX6_turnsOfName_52 rfl rfl b2 rfl ?_
      refine GW.iload (pc' := 55) dX6_turnsOfName_53 rfl rfl ?_
      refine GW.if_icmple (pc' := 58) (tgt := 73) dX6_turnsOfName_55 rfl (by decide) (ite_i (fun c4 => ?_) (fun c4 => ?_))
      · replace h := ite_t h c4
        refine GW.aload_n (pc' := 59) dX6_turnsOfName_58 rfl rfl ?_
        refine GW.getR (pc' := 62) (t := 16) dX6_turnsOfName_59 rfl fk_X6_9 rfl (by decide) rfl rfl ?_
        refine GW.iload (pc' := 64) dX6_turnsOfName_62 rfl rfl ?_
        refine GW.iaload (pc' := 65) (j := v7.toNatClampNeg) dX6_turnsOfName_64 rfl rfl b2 rfl ?_
        refine GW.iload (pc' := 67) dX6_turnsOfName_65 rfl rfl ?_
        refine GW.if_icmpge (pc' := 70) (tgt := 73) dX6_turnsOfName_67 rfl (by decide) (ite_i (fun c5 => ?_) (fun c5 => ?_))
        · replace h := ite_t h c5
          refine GW.iinc (pc' := 73) (lv' := [(0, .ref 15), (1, .int v1), (2, .int v2), (3, .int v3), (4, .int v4), (5, .int v5), (6, .int (v6 + (-1))), (7, .int v7)]) (v := (v6 + (-1))) dX6_turnsOfName_70 rfl rfl (by decide) rfl rfl rfl ?_
          refine GW.iinc (pc' := 76) (lv' := [(0, .ref 15), (1, .int v1), (2, .int v2), (3, .int v3), (4, .int v4), (5, .int v5), (6, .int (v6 + (-1))), (7, .int (v7 + 1))]) (v := (v7 + 1)) dX6_turnsOfName_73 rfl rfl (by decide) rfl rfl rfl ?_
          refine GW.goto (tgt := 26) dX6_turnsOfName_76 (by decide) ?_
          exact h
        · replace h := ite_f h c5
          refine GW.iinc (pc' := 76) (lv' := [(0, .ref 15), (1, .int v1), (2, .int v2), (3, .int v3), (4, .int v4), (5, .int v5), (6, .int v6), (7, .int (v7 + 1))]) (v := (v7 + 1)) dX6_turnsOfName_73 rfl rfl (by decide) rfl rfl rfl ?_
          refine GW.goto (tgt := 26) dX6_turnsOfName_76 (by decide) ?_
          exact h
      · replace h := ite_f h c4
        refine GW.iinc (pc' := 76) (lv' := [(0, .ref 15), (1, .int v1), (2, .int v2), (3, .int v3), (4, .int v4), (5, .int v5), (6, .int v6), (7, .int (v7 + 1))]) (v := (v7 + 1)) dX6_turnsOfName_73 rfl rfl (by decide) rfl rfl rfl ?_
        refine GW.goto (tgt := 26) dX6_turnsOfName_76 (by decide) ?_
        exact h
    · replace h := ite_f h c3
      refine GW.iinc (pc' := 76) (lv' := [(0, .ref 15), (1, .int v1), (2, .int v2), (3, .int v3), (4, .int v4), (5, .int v5), (6, .int v6), (7, .int (v7 + 1))]) (v := (v7 + 1)) dX6_turnsOfName_73 rfl rfl (by decide) rfl rfl rfl ?_
      refine GW.goto (tgt := 26) dX6_turnsOfName_76 (by decide) ?_
      exact h
  · replace h := ite_f h c1
    refine GW.iload (pc' := 81) dX6_turnsOfName_79 rfl rfl ?_
    refine GW.iret dX6_turnsOfName_81 rfl ⟨_, rfl, ?_⟩
    exact h

set_option maxRecDepth 100000 in
set_option maxHeartbeats 4000000 in
theorem wp_X6_yearNamed_15 (xs : gX) (d : Nat) (v1 : Int32) (v2 : Int32) (v3 : Int32) (M : Mem) (Q : Int32 → Mem → Prop) (h : GW xs (d + 1) mX6_yearNamed 22 [(0, .ref 15), (1, .int v1), (2, .int v2), (3, .int v3), (4, .int (gmin 199 (v2 + 6))), (5, .int (gmax v3 (v2 - 6)))] [] M (QI Q)) : MI xs (d + 1) mX6_yearNamed [.ref 15, .int v1, .int v2, .int v3] M Q := by
  refine MI.intro (lv := [(0, .ref 15), (1, .int v1), (2, .int v2), (3, .int v3)]) mk_X6_yearNamed.2.2.2.2 (Nat.le_of_ble_eq_true rfl) rfl ?_
  refine GW.sipush (pc' := 3) (v := 199) dX6_yearNamed_0 rfl (by decide) ?_
  refine GW.iload_n (pc' := 4) dX6_yearNamed_3 rfl rfl ?_
  refine GW.bipush (pc' := 6) (v := 6) dX6_yearNamed_4 rfl (by decide) ?_
  refine GW.iadd (pc' := 7) dX6_yearNamed_6 rfl ?_
  refine GW.mmin (pc' := 10) dX6_yearNamed_7 rfl zk_X6_36 (Nat.le_of_ble_eq_true rfl) ?_
  refine GW.istore (pc' := 12) (lv' := [(0, .ref 15), (1, .int v1), (2, .int v2), (3, .int v3), (4, .int (gmin 199 (v2 + 6)))]) dX6_yearNamed_10 rfl rfl (by decide) rfl ?_
  refine GW.iload_n (pc' := 13) dX6_yearNamed_12 rfl rfl ?_
  refine GW.iload_n (pc' := 14) dX6_yearNamed_13 rfl rfl ?_
  refine GW.bipush (pc' := 16) (v := 6) dX6_yearNamed_14 rfl (by decide) ?_
  refine GW.isub (pc' := 17) dX6_yearNamed_16 rfl ?_
  refine GW.mmax (pc' := 20) dX6_yearNamed_17 rfl zk_X6_41 (Nat.le_of_ble_eq_true rfl) ?_
  refine GW.istore (pc' := 22) (lv' := [(0, .ref 15), (1, .int v1), (2, .int v2), (3, .int v3), (4, .int (gmin 199 (v2 + 6))), (5, .int (gmax v3 (v2 - 6)))]) dX6_yearNamed_20 rfl rfl (by decide) rfl ?_
  exact h
set_option maxRecDepth 100000 in
set_option maxHeartbeats 4000000 in
theorem wp_X6_yearNamed_15_L22 (xs : gX) (d : Nat) (v1 : Int32) (v2 : Int32) (v3 : Int32) (v4 : Int32) (v5 : Int32) (M : Mem) (Q : Int32 → Mem → Prop) (h : (if v4 < v5 then Q (-1) M else MI xs d mX6_nameOf [.ref 15, .int v1, .int v5] M (fun r2 M3 => (if r2 = v2 then Q v5 M3 else GW xs (d + 1) mX6_yearNamed 22 [(0, .ref 15), (1, .int v1), (2, .int v2), (3, .int v3), (4, .int v4), (5, .int (v5 + 1))] [] M3 (QI Q))))) : GW xs (d + 1) mX6_yearNamed 22 [(0, .ref 15), (1, .int v1), (2, .int v2), (3, .int v3), (4, .int v4), (5, .int v5)] [] M (QI Q) := by
  refine GW.iload (pc' := 24) dX6_yearNamed_22 rfl rfl ?_
  refine GW.iload (pc' := 26) dX6_yearNamed_24 rfl rfl ?_
  refine GW.if_icmpgt (pc' := 29) (tgt := 49) dX6_yearNamed_26 rfl (by decide) (ite_i (fun c1 => ?_) (fun c1 => ?_))
  · replace h := ite_t h c1
    refine GW.iconst (pc' := 50) (v := (-1)) dX6_yearNamed_49 rfl (by decide) ?_
    refine GW.iret dX6_yearNamed_50 rfl ⟨_, rfl, ?_⟩
    exact h
  · replace h := ite_f h c1
    refine GW.aload_n (pc' := 30) dX6_yearNamed_29 rfl rfl ?_
    refine GW.iload_n (pc' := 31) dX6_yearNamed_30 rfl rfl ?_
    refine GW.iload (pc' := 33) dX6_yearNamed_31 rfl rfl ?_
    refine GW.callV (pc' := 36) (k := 15) (av := [.int v1, .int v5]) (rest := []) dX6_yearNamed_33 rfl mk_X6_nameOf lk_X6_32 vk_X6_nameOf ko_15 rfl rfl (Nat.le_of_ble_eq_true rfl) (bk_i (MI.mono h (fun r2 M3 h => ?_)))
    refine GW.iload_n (pc' := 37) dX6_yearNamed_36 rfl rfl ?_
    refine GW.if_icmpne (pc' := 40) (tgt := 43) dX6_yearNamed_37 rfl (by decide) (ite_i (fun c4 => ?_) (fun c4 => ?_))
    · replace h := ite_t h c4
      refine GW.iload (pc' := 42) dX6_yearNamed_40 rfl rfl ?_
      refine GW.iret dX6_yearNamed_42 rfl ⟨_, rfl, ?_⟩
      exact h
    · replace h := ite_f h c4
      refine GW.iinc (pc' := 46) (lv' := [(0, .ref 15), (1, .int v1), (2, .int v2), (3, .int v3), (4, .int v4), (5, .int (v5 + 1))]) (v := (v5 + 1)) dX6_yearNamed_43 rfl rfl (by decide) rfl rfl rfl ?_
      refine GW.goto (tgt := 22) dX6_yearNamed_46 (by decide) ?_
      exact h
