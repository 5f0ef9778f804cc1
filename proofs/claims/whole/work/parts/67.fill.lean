/-! ===== Arrays.fill ===== -/
set_option maxRecDepth 100000 in
set_option maxHeartbeats 4000000 in
theorem wp_J7_fill_53178_11 (xs : gX) (d : Nat) (v1 : Int32) (M : Mem) (Q : Mem → Prop) (h : GW xs d mJ7_fill_53178 5 [(0, .ref 11), (1, .int v1), (2, .int 0), (3, .int 24)] [] M (QV Q)) : MV xs d mJ7_fill_53178 [.ref 11, .int v1] M Q := by
  refine MV.intro (lv := [(0, .ref 11), (1, .int v1)]) mk_J7_fill_53178.2.2.2.2 (Nat.le_of_ble_eq_true rfl) rfl ?_
  refine GW.iconst (pc' := 1) (v := 0) dJ7_fill_53178_0 rfl (by decide) ?_
  refine GW.istore_n (pc' := 2) (lv' := [(0, .ref 11), (1, .int v1), (2, .int 0)]) dJ7_fill_53178_1 rfl rfl (by decide) rfl ?_
  refine GW.aload_n (pc' := 3) dJ7_fill_53178_2 rfl rfl ?_
  refine GW.alen (pc' := 4) (v := 24) dJ7_fill_53178_3 rfl rfl (by decide) ?_
  refine GW.istore_n (pc' := 5) (lv' := [(0, .ref 11), (1, .int v1), (2, .int 0), (3, .int 24)]) dJ7_fill_53178_4 rfl rfl (by decide) rfl ?_
  exact h
set_option maxRecDepth 100000 in
set_option maxHeartbeats 4000000 in
theorem wp_J7_fill_53178_11_L5 (xs : gX) (d : Nat) (v1 : Int32) (v2 : Int32) (v3 : Int32) (M : Mem) (Q : Mem → Prop) (h : (if v2 < v3 then (vp_in v2 24 ∧ GW xs d mJ7_fill_53178 5 [(0, .ref 11), (1, .int v1), (2, .int (v2 + 1)), (3, .int v3)] [] (mw M 11 v2.toNatClampNeg v1) (QV Q)) else Q M)) : GW xs d mJ7_fill_53178 5 [(0, .ref 11), (1, .int v1), (2, .int v2), (3, .int v3)] [] M (QV Q) := by
  refine GW.iload_n (pc' := 6) dJ7_fill_53178_5 rfl rfl ?_
  refine GW.iload_n (pc' := 7) dJ7_fill_53178_6 rfl rfl ?_
  refine GW.if_icmpge (pc' := 10) (tgt := 20) dJ7_fill_53178_7 rfl (by decide) (ite_i (fun c1 => ?_) (fun c1 => ?_))
  · replace h := ite_t h c1
    refine GW.aload_n (pc' := 11) dJ7_fill_53178_10 rfl rfl ?_
    refine GW.iload_n (pc' := 12) dJ7_fill_53178_11 rfl rfl ?_
    refine GW.iload_n (pc' := 13) dJ7_fill_53178_12 rfl rfl ?_
    obtain ⟨b2, h⟩ := h
    refine GW.iastore (pc' := 14) (j := v2.toNatClampNeg) dJ7_fill_53178_13 rfl rfl b2 rfl ?_
    refine GW.iinc (pc' := 17) (lv' := [(0, .ref 11), (1, .int v1), (2, .int (v2 + 1)), (3, .int v3)]) (v := (v2 + 1)) dJ7_fill_53178_14 rfl rfl (by decide) rfl rfl rfl ?_
    refine GW.goto (tgt := 5) dJ7_fill_53178_17 (by decide) ?_
    exact h
  · replace h := ite_f h c1
    refine GW.vret dJ7_fill_53178_20 rfl ⟨rfl, ?_⟩
    exact h

set_option maxRecDepth 100000 in
set_option maxHeartbeats 4000000 in
theorem wp_J7_fill_53178_12 (xs : gX) (d : Nat) (v1 : Int32) (M : Mem) (Q : Mem → Prop) (h : GW xs d mJ7_fill_53178 5 [(0, .ref 12), (1, .int v1), (2, .int 0), (3, .int 24)] [] M (QV Q)) : MV xs d mJ7_fill_53178 [.ref 12, .int v1] M Q := by
  refine MV.intro (lv := [(0, .ref 12), (1, .int v1)]) mk_J7_fill_53178.2.2.2.2 (Nat.le_of_ble_eq_true rfl) rfl ?_
  refine GW.iconst (pc' := 1) (v := 0) dJ7_fill_53178_0 rfl (by decide) ?_
  refine GW.istore_n (pc' := 2) (lv' := [(0, .ref 12), (1, .int v1), (2, .int 0)]) dJ7_fill_53178_1 rfl rfl (by decide) rfl ?_
  refine GW.aload_n (pc' := 3) dJ7_fill_53178_2 rfl rfl ?_
  refine GW.alen (pc' := 4) (v := 24) dJ7_fill_53178_3 rfl rfl (by decide) ?_
  refine GW.istore_n (pc' := 5) (lv' := [(0, .ref 12), (1, .int v1), (2, .int 0), (3, .int 24)]) dJ7_fill_53178_4 rfl rfl (by decide) rfl ?_
  exact h
set_option maxRecDepth 100000 in
set_option maxHeartbeats 4000000 in
theorem wp_J7_fill_53178_12_L5 (xs : gX) (d : Nat) (v1 : Int32) (v2 : Int32) (v3 : Int32) (M : Mem) (Q : Mem → Prop) (h : (if v2 < v3 then (vp_in v2 24 ∧ GW xs d mJ7_fill_53178 5 [(0, .ref 12), (1, .int v1), (2, .int (v2 + 1)), (3, .int v3)] [] (mw M 12 v2.toNatClampNeg v1) (QV Q)) else Q M)) : GW xs d mJ7_fill_53178 5 [(0, .ref 12), (1, .int v1), (2, .int v2), (3, .int v3)] [] M (QV Q) := by
  refine GW.iload_n (pc' := 6) dJ7_fill_53178_5 rfl rfl ?_
  refine GW.iload_n (pc' := 7) dJ7_fill_53178_6 rfl rfl ?_
  refine GW.if_icmpge (pc' := 10) (tgt := 20) dJ7_fill_53178_7 rfl (by decide) (ite_i (fun c1 => ?_) (fun c1 => ?_))
  · replace h := ite_t h c1
    refine GW.aload_n (pc' := 11) dJ7_fill_53178_10 rfl rfl ?_
    refine GW.iload_n (pc' := 12) dJ7_fill_53178_11 rfl rfl ?_
    refine GW.iload_n (pc' := 13) dJ7_fill_53178_12 rfl rfl ?_
    obtain ⟨b2, h⟩ := h
    refine GW.iastore (pc' := 14) (j := v2.toNatClampNeg) dJ7_fill_53178_13 rfl rfl b2 rfl ?_
    refine GW.iinc (pc' := 17) (lv' := [(0, .ref 12), (1, .int v1), (2, .int (v2 + 1)), (3, .int v3)]) (v := (v2 + 1)) dJ7_fill_53178_14 rfl rfl (by decide) rfl rfl rfl ?_
    refine GW.goto (tgt := 5) dJ7_fill_53178_17 (by decide) ?_
    exact h
  · replace h := ite_f h c1
    refine GW.vret dJ7_fill_53178_20 rfl ⟨rfl, ?_⟩
    exact h

set_option maxRecDepth 100000 in
set_option maxHeartbeats 4000000 in
theorem wp_J7_fill_53178_13 (xs : gX) (d : Nat) (v1 : Int32) (M : Mem) (Q : Mem → Prop) (h : GW xs d mJ7_fill_53178 5 [(0, .ref 13), (1, .int v1), (2, .int 0), (3, .int 24)] [] M (QV Q)) : MV xs d mJ7_fill_53178 [.ref 13, .int v1] M Q := by
  refine MV.intro (lv := [(0, .ref 13), (1, .int v1)]) mk_J7_fill_53178.2.2.2.2 (Nat.le_of_ble_eq_true rfl) rfl ?_
  refine GW.iconst (pc' := 1) (v := 0) dJ7_fill_53178_0 rfl (by decide) ?_
  refine GW.istore_n (pc' := 2) (lv' := [(0, .ref 13), (1, .int v1), (2, .int 0)]) dJ7_fill_53178_1 rfl rfl (by decide) rfl ?_
  refine GW.aload_n (pc' := 3) dJ7_fill_53178_2 rfl rfl ?_
  refine GW.alen (pc' := 4) (v := 24) dJ7_fill_53178_3 rfl rfl (by decide) ?_
  refine GW.istore_n (pc' := 5) (lv' := [(0, .ref 13), (1, .int v1), (2, .int 0), (3, .int 24)]) dJ7_fill_53178_4 rfl rfl (by decide) rfl ?_
  exact h
set_option maxRecDepth 100000 in
set_option maxHeartbeats 4000000 in
theorem wp_J7_fill_53178_13_L5 (xs : gX) (d : Nat) (v1 : Int32) (v2 : Int32) (v3 : Int32) (M : Mem) (Q : Mem → Prop) (h : (if v2 < v3 then (vp_in v2 24 ∧ GW xs d mJ7_fill_53178 5 [(0, .ref 13), (1, .int v1), (2, .int (v2 + 1)), (3, .int v3)] [] (mw M 13 v2.toNatClampNeg v1) (QV Q)) else Q M)) : GW xs d mJ7_fill_53178 5 [(0, .ref 13), (1, .int v1), (2, .int v2), (3, .int v3)] [] M (QV Q) := by
  refine GW.iload_n (pc' := 6) dJ7_fill_53178_5 rfl rfl ?_
  refine GW.iload_n (pc' := 7) dJ7_fill_53178_6 rfl rfl ?_
  refine GW.if_icmpge (pc' := 10) (tgt := 20) dJ7_fill_53178_7 rfl (by decide) (ite_i (fun c1 => ?_) (fun c1 => ?_))
  · replace h := ite_t h c1
    refine GW.aload_n (pc' := 11) dJ7_fill_53178_10 rfl rfl ?_
    refine GW.iload_n (pc' := 12) dJ7_fill_53178_11 rfl rfl ?_
    refine GW.iload_n (pc' := 13) dJ7_fill_53178_12 rfl rfl ?_
    obtain ⟨b2, h⟩ := h
    refine GW.iastore (pc' := 14) (j := v2.toNatClampNeg) dJ7_fill_53178_13 rfl rfl b2 rfl ?_
    refine GW.iinc (pc' := 17) (lv' := [(0, .ref 13), (1, .int v1), (2, .int (v2 + 1)), (3, .int v3)]) (v := (v2 + 1)) dJ7_fill_53178_14 rfl rfl (by decide) rfl rfl rfl ?_
    refine GW.goto (tgt := 5) dJ7_fill_53178_17 (by decide) ?_
    exact h
  · replace h := ite_f h c1
    refine GW.vret dJ7_fill_53178_20 rfl ⟨rfl, ?_⟩
    exact h

set_option maxRecDepth 100000 in
set_option maxHeartbeats 4000000 in
theorem wp_J7_fill_53178_14 (xs : gX) (d : Nat) (v1 : Int32) (M : Mem) (Q : Mem → Prop) (h : GW xs d mJ7_fill_53178 5 [(0, .ref 14), (1, .int v1), (2, .int 0), (3, .int 24)] [] M (QV Q)) : MV xs d mJ7_fill_53178 [.ref 14, .int v1] M Q := by
  refine MV.intro (lv := [(0, .ref 14), (1, .int v1)]) mk_J7_fill_53178.2.2.2.2 (Nat.le_of_ble_eq_true rfl) rfl ?_
  refine GW.iconst (pc' := 1) (v := 0) dJ7_fill_53178_0 rfl (by decide) ?_
  refine GW.istore_n (pc' := 2) (lv' := [(0, .ref 14), (1, .int v1), (2, .int 0)]) dJ7_fill_53178_1 rfl rfl (by decide) rfl ?_
  refine GW.aload_n (pc' := 3) dJ7_fill_53178_2 rfl rfl ?_
  refine GW.alen (pc' := 4) (v := 24) dJ7_fill_53178_3 rfl rfl (by decide) ?_
  refine GW.istore_n (pc' := 5) (lv' := [(0, .ref 14), (1, .int v1), (2, .int 0), (3, .int 24)]) dJ7_fill_53178_4 rfl rfl (by decide) rfl ?_
  exact h
set_option maxRecDepth 100000 in
set_option maxHeartbeats 4000000 in
theorem wp_J7_fill_53178_14_L5 (xs : gX) (d : Nat) (v1 : Int32) (v2 : Int32) (v3 : Int32) (M : Mem) (Q : Mem → Prop) (h : (if v2 < v3 then (vp_in v2 24 ∧ GW xs d mJ7_fill_53178 5 [(0, .ref 14), (1, .int v1), (2, .int (v2 + 1)), (3, .int v3)] [] (mw M 14 v2.toNatClampNeg v1) (QV Q)) else Q M)) : GW xs d mJ7_fill_53178 5 [(0, .ref 14), (1, .int v1), (2, .int v2), (3, .int v3)] [] M (QV Q) := by
  refine GW.iload_n (pc' := 6) dJ7_fill_53178_5 rfl rfl ?_
  refine GW.iload_n (pc' := 7) dJ7_fill_53178_6 rfl rfl ?_
  refine GW.if_icmpge (pc' := 10) (tgt := 20) dJ7_fill_53178_7 rfl (by decide) (ite_i (fun c1 => ?_) (fun c1 => ?_))
  · replace h := ite_t h c1
    refine GW.aload_n (pc' := 11) dJ7_fill_53178_10 rfl rfl ?_
    refine GW.iload_n (pc' := 12) dJ7_fill_53178_11 rfl rfl ?_
    refine GW.iload_n (pc' := 13) dJ7_fill_53178_12 rfl rfl ?_
    obtain ⟨b2, h⟩ := h
    refine GW.iastore (pc' := 14) (j := v2.toNatClampNeg) dJ7_fill_53178_13 rfl rfl b2 rfl ?_
    refine GW.iinc (pc' := 17) (lv' := [(0, .ref 14), (1, .int v1), (2, .int (v2 + 1)), (3, .int v3)]) (v := (v2 + 1)) dJ7_fill_53178_14 rfl rfl (by decide) rfl rfl rfl ?_
    refine GW.goto (tgt := 5) dJ7_fill_53178_17 (by decide) ?_
    exact h
  · replace h := ite_f h c1
    refine GW.vret dJ7_fill_53178_20 rfl ⟨rfl, ?_⟩
    exact h
