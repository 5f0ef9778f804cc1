/-! ===== THE START: what stands outside the two objects ===== -/
abbrev gvn : Cond := Jvm.Cond.and given_1 narrow_1
def tmS (i : Nat) : Term := match i with
  | 0 => .string "SoldYear$Scribe" 18
  | 1 => .string "SoldYear" 149
  | _ => .string "SoldYear" 151
abbrev lnS : List Nat := [0, 3, 3]
abbrev byS : List (List Int32) := [[], [98, 116, 109], [97, 107, 109]]
theorem gv_above : ∀ j : Nat, j < 7 → Cond.eq (.elem (.static "SoldYear" "ABOVE" "[I") (.int (Int32.ofNat j))) (.int (tbF 2000 j)) ∈ flatC gvn := by decide +kernel
theorem gv_bodies : ∀ j : Nat, j < 28 → Cond.eq (.elem (.static "SoldYear" "BODIES" "[I") (.int (Int32.ofNat j))) (.int (tbF 2001 j)) ∈ flatC gvn := by decide +kernel
theorem gv_s1 : ∀ i : Nat, i < 3 → Cond.exactly (tmS i) "java/lang/String" ∈ flatC gvn := by decide +kernel
theorem gv_s2 : ∀ i : Nat, i < 3 → Cond.eq (.field (tmS i) "java/lang/String" "coder" "B") (.int 0) ∈ flatC gvn := by decide +kernel
theorem gv_s3 : ∀ i : Nat, i < 3 → Cond.arrayOf (.field (tmS i) "java/lang/String" "value" "[B") .byte ∈ flatC gvn := by decide +kernel
theorem gv_s4 : ∀ i : Nat, i < 3 → Cond.eq (.length (.field (tmS i) "java/lang/String" "value" "[B")) (.int (Int32.ofNat (lnS.getD i 0))) ∈ flatC gvn := by decide +kernel
theorem gv_s5 : ∀ i : Nat, i < 3 → ∀ j : Nat, j < lnS.getD i 0 → Cond.eq (.elem (.field (tmS i) "java/lang/String" "value" "[B") (.int (Int32.ofNat j))) (.int ((byS.getD i []).getD j 0)) ∈ flatC gvn := by decide +kernel
theorem gv_s6 : ∀ i : Nat, i < 3 → ∀ j : Nat, j < 3 → i ≠ j → Cond.not (Cond.eq (tmS i) (tmS j)) ∈ flatC gvn ∨ Cond.not (Cond.eq (tmS j) (tmS i)) ∈ flatC gvn := by decide +kernel
theorem tb_in {w : Cond} (h : w ∈ tables_1) : w ∈ lw_tbl := List.mem_append_right _ h
theorem ct_of {s : State} {b : Nat} {A : Nat → Prop} (hts : ∀ w ∈ lw_tbl, w.before #[Value.ref b] s = true) (hgv : gvn.before #[Value.ref b] s = true) (hA : ∀ a : Nat, a < s.heap.size → ¬ A a) :
    ∃ (aA aB : Nat) (adK adV : Nat → Nat), va_Z "SoldYear" "ABOVE" "[I" (.ref aA) A s s.heap ∧ va_T .int aA 7 (fun j => .int (tbF 2000 j)) A s s.heap ∧ va_Z "SoldYear" "BODIES" "[I" (.ref aB) A s s.heap ∧ va_T .int aB 28 (fun j => .int (tbF 2001 j)) A s s.heap ∧
      va_Z "java/lang/String" "COMPACT_STRINGS" "Z" (.int 1) A s s.heap ∧ vk_S 3 [0, 3, 3] [[], [98, 116, 109], [97, 107, 109]] adK adV A s s.heap ∧
      vk_R "SoldYear$Scribe" 18 "" (adK 0) s ∧ vk_R "SoldYear" 149 "btm" (adK 1) s ∧ vk_R "SoldYear" 151 "akm" (adK 2) s := by
  have hf := flat_of_before _ hgv
  obtain ⟨aA, eA, tA⟩ := va_Tof (tm := .static "SoldYear" "ABOVE" "[I") (ty := .int) (N := 7) (f := fun j => .int (tbF 2000 j)) (A := A) (by decide) (hf _ (by decide +kernel)) (va_eqt (z := Int32.ofNat 7) (hf _ (by decide +kernel))) (fun j hj => va_eqt (hf _ (gv_above j hj))) hA
  obtain ⟨aB, eB, tB⟩ := va_Tof (tm := .static "SoldYear" "BODIES" "[I") (ty := .int) (N := 28) (f := fun j => .int (tbF 2001 j)) (A := A) (by decide) (hf _ (by decide +kernel)) (va_eqt (z := Int32.ofNat 28) (hf _ (by decide +kernel))) (fun j hj => va_eqt (hf _ (gv_bodies j hj))) hA
  obtain ⟨adK, adV, hS, hK⟩ := vk_Sof (N := 3) (tm := tmS) (len := lnS) (byt := byS) (A := A) (by decide) (fun i hi => hf _ (gv_s1 i hi)) (fun i hi => hf _ (gv_s2 i hi)) (fun i hi => hf _ (gv_s3 i hi)) (fun i hi => hf _ (gv_s4 i hi)) (fun i hi j hj => hf _ (gv_s5 i hi j hj))
    (fun i j hi hj hij => (gv_s6 i hi j hj hij).imp (fun h => hf _ h) (fun h => hf _ h)) hA
  refine ⟨aA, aB, adK, adV, ?_, tA, ?_, tB, ?_, hS, ?_, ?_, ?_⟩
  · exact va_Zof (hts _ (tb_in (List.mem_of_getElem? (i := 441) (by decide +kernel)))) (hts _ (tb_in (List.mem_of_getElem? (i := 1) (by decide +kernel)))) eA hA
  · exact va_Zof (hts _ (tb_in (List.mem_of_getElem? (i := 749) (by decide +kernel)))) (hts _ (tb_in (List.mem_of_getElem? (i := 1) (by decide +kernel)))) eB hA
  · exact va_Zof (hts _ (tb_in (List.mem_of_getElem? (i := 533) (by decide +kernel)))) (hts _ (tb_in (List.mem_of_getElem? (i := 13) (by decide +kernel)))) (va_eqt (hf _ (by decide +kernel))) hA
  · exact vk_R.of (hts _ (tb_in (List.mem_of_getElem? (i := 190) (by decide +kernel)))) (hK 0 (by decide))
  · exact vk_R.of (hts _ (tb_in (List.mem_of_getElem? (i := 491) (by decide +kernel)))) (hK 1 (by decide))
  · exact vk_R.of (hts _ (tb_in (List.mem_of_getElem? (i := 492) (by decide +kernel)))) (hK 2 (by decide))
/-- the classes that are made, and the arrays -/
theorem kt_of {s : State} {b sq : Nat} (hts : ∀ w ∈ lw_tbl, w.before #[Value.ref b] s = true) (hq : vk_R "SoldYear$Scribe" 18 "" sq s) : ∃ (D : va_G) (t : gT), kT D t sq s := by
  have htg : ∀ w ∈ tblG, w.before #[Value.ref b] s = true := fun w hw => hts w (List.mem_filter.mp hw).1
  have hta : ∀ w ∈ tables_1, w.before #[Value.ref b] s = true := fun w hw => hts w (tb_in hw)
  obtain ⟨c0, i0, k0⟩ := u_known (n := 6) htg ix_X0 (hta _ (List.mem_of_getElem? (i := 215) (by decide +kernel)))
  obtain ⟨c1, i1, k1⟩ := u_known (n := 4) htg ix_X1 (hta _ (List.mem_of_getElem? (i := 110) (by decide +kernel)))
  obtain ⟨c2, i2, k2⟩ := u_known (n := 7) htg ix_X2 (hta _ (List.mem_of_getElem? (i := 77) (by decide +kernel)))
  obtain ⟨c3, i3, k3⟩ := u_known (n := 2) htg ix_X3 (hta _ (List.mem_of_getElem? (i := 62) (by decide +kernel)))
  obtain ⟨c4, i4, k4⟩ := u_known (n := 6) htg ix_X4 (hta _ (List.mem_of_getElem? (i := 185) (by decide +kernel)))
  obtain ⟨c5, i5, k5⟩ := u_known (n := 3) htg ix_X5 (hta _ (List.mem_of_getElem? (i := 244) (by decide +kernel)))
  obtain ⟨c6, i6, k6⟩ := u_known (n := 5) htg ix_X6 (hta _ (List.mem_of_getElem? (i := 34) (by decide +kernel)))
  obtain ⟨c7, i7, k7⟩ := u_known (n := 14) htg ix_X7 (hta _ (List.mem_of_getElem? (i := 28) (by decide +kernel)))
  obtain ⟨c8, i8, k8⟩ := u_known (n := 7) htg ix_X8 (hta _ (List.mem_of_getElem? (i := 20) (by decide +kernel)))
  obtain ⟨c9, i9, k9⟩ := u_known (n := 25) htg ix_X9 (hta _ (List.mem_of_getElem? (i := 870) (by decide +kernel)))
  obtain ⟨cI, kI, oI, a1, a2, a3⟩ := Cond.arrayClass_spec (hta _ (List.mem_of_getElem? (i := 60) (by decide +kernel)) : (Cond.arrayClass .int).before #[Value.ref b] s = true)
  obtain ⟨cL, kL, oL, b1, b2, b3⟩ := Cond.arrayClass_spec (hta _ (List.mem_of_getElem? (i := 108) (by decide +kernel)) : (Cond.arrayClass .long).before #[Value.ref b] s = true)
  have hao : va_AO "SoldYear$Sheet" s := va_AO.of (hta _ (List.mem_of_getElem? (i := 243) (by decide +kernel)))
  obtain ⟨oQ, cQ, kQ, d1, d2, d3, d4, d5⟩ := Cond.arrayOver_spec hao
  refine ⟨(fun k => ([c0, c1, c2, c3, c4, c5, c6, c7, c8, c9] : List ClassId).getD k c0, fun k => ([i0, i1, i2, i3, i4, i5, i6, i7, i8, i9] : List (Nat → Nat)).getD k i0), (cI, cL, cQ), ⟨fun c q hc => ?_, fun k q hk => ?_⟩, fun w hw => ?_, hq, hao⟩
  · match c, hc with
    | 0, hc => cases hc; exact k0
    | 1, hc => cases hc; exact k1
    | 2, hc => cases hc; exact k2
    | 3, hc => cases hc; exact k3
    | 4, hc => cases hc; exact k4
    | 5, hc => cases hc; exact k5
    | 6, hc => cases hc; exact k6
    | 7, hc => cases hc; exact k7
    | 8, hc => cases hc; exact k8
    | 9, hc => cases hc; exact k9
    | n + 10, hc => cases hc
  · match k, hk with
    | 0, hk => cases hk; exact ⟨fun _ z => ⟨(fun k h => by cases h), kI, a2, oI, a3⟩, a1⟩
    | 1, hk => cases hk; exact ⟨fun _ z => ⟨(fun k h => by cases h), kL, b2, oL, b3⟩, b1⟩
    | 2, hk => cases hk; exact ⟨fun _ z => ⟨(fun k h => by cases h), kQ, d3, oQ, d4⟩, kQ, oQ, d3, d4, d1, d5⟩
    | n + 3, hk => cases hk
  · obtain ⟨h1, h2⟩ := List.mem_filter.mp hw
    refine va_Nw.of ?_ (hta w h1)
    cases w
    all_goals first
      | rfl
      | (simp [isNst] at h2; done)
/-! the memory with which it begins -/
def M0 : Mem := (fun k => bif Nat.beq k 65 then upd (upd (fun _ => 0) 8 1) 4 (-1) else bif Nat.beq k 1 then upd (fun _ => 0) 10 1 else bif Nat.beq k 2 then upd (fun _ => 0) 10 1 else fun _ => 0, fun _ _ => 0)
theorem Inv0 : Inv M0 := by
  have hs : M0.1 65 = upd (upd (fun _ => 0) 8 1) 4 (-1) := rfl
  have z : ∀ j, j ≠ 4 → j ≠ 8 → M0.1 65 j = 0 := by
    intro j h4 h8
    rw [hs]
    simp [upd, h4, h8]
  have nz : ∀ j, j ≠ 4 → j ≠ 8 → N (M0.1 65) j = 0 := by
    intro j h4 h8
    unfold N
    rw [z j h4 h8]
    rfl
  have n0 : ns (M0.1 65) = 0 := nz 0 (by decide) (by decide)
  have n1 := nz 1 (by decide) (by decide)
  have n2 := nz 2 (by decide) (by decide)
  have n6 := nz 6 (by decide) (by decide)
  have n7 := nz 7 (by decide) (by decide)
  have v0 : ∀ n : Nat, 0 < n → vp_in 0 n := fun n hn => vin (fun h => h.elim (fun q => absurd q (by decide)) (fun q => absurd (Nat.le_antisymm q (Nat.zero_le _)) (Nat.ne_of_gt hn)))
  refine ⟨⟨⟨⟨?_, ?_, ?_, ?_⟩, ⟨rfl, ?_, fun _ => 0, ?_, ⟨?_, ?_⟩, ?_⟩⟩, ⟨⟨?_, ?_, ?_⟩, rfl, ?_⟩, ⟨⟨?_, ?_, ?_⟩, rfl, ?_⟩, ⟨⟨?_, ?_, ?_, ?_, ?_⟩, rfl, rfl, Or.inl ⟨rfl, rfl⟩, rfl, ?_, rfl, ?_⟩, ⟨v0 61 (by decide), Or.inl ⟨rfl, rfl⟩⟩, ⟨v0 61 (by decide), Or.inl ⟨rfl, rfl⟩⟩⟩, ⟨rfl, Or.inl rfl⟩, fun _ _ => rfl, ⟨rfl, v0 31 (by decide), fun _ _ => rfl⟩, fun q hq => ?_⟩
  · rw [n0]; exact z 0 (by decide) (by decide)
  · omega
  · intro k hk; rw [n0] at hk; omega
  · intro j k _ hk; rw [n0] at hk; omega
  · intro k hk; rw [n0] at hk; omega
  · intro k hk; rw [n0] at hk; omega
  · intro k hk; rw [n0] at hk; omega
  · intro k j hk; rw [n0] at hk; omega
  · intro j k _ hk; rw [n0] at hk; omega
  · rw [n1]; exact z 1 (by decide) (by decide)
  · omega
  · intro k hk; rw [n1] at hk; omega
  · intro k hk; rw [n1] at hk; omega
  · rw [n2]; exact z 2 (by decide) (by decide)
  · omega
  · intro k hk; rw [n2] at hk; omega
  · intro k hk; rw [n2] at hk; omega
  · exact v0 73000 (by decide)
  · exact Or.inl rfl
  · exact v0 61 (by decide)
  · intro k hk; rw [n6] at hk; omega
  · exact v0 25 (by decide)
  · intro k hk; rw [n6] at hk; omega
  · intro k hk; rw [n7] at hk; omega
  · have h4 : q = 0 ∨ q = 1 ∨ q = 2 ∨ q = 3 := by omega
    rcases h4 with rfl | rfl | rfl | rfl
    · exact ⟨rfl, Or.inl rfl, rfl, v0 25 (by decide), fun _ => rfl, fun _ _ => rfl⟩
    · exact ⟨rfl, Or.inl rfl, rfl, v0 25 (by decide), fun _ => rfl, fun _ _ => rfl⟩
    · exact ⟨rfl, Or.inl rfl, rfl, v0 25 (by decide), fun _ => rfl, fun _ _ => rfl⟩
    · exact ⟨rfl, Or.inl rfl, rfl, v0 25 (by decide), fun _ => rfl, fun _ _ => rfl⟩
theorem vk_congr {Nn : Nat} {len : List Nat} {byt : List (List Int32)} {aK aV aK' aV' : Nat → Nat} {A : Nat → Prop} {U : State} {H : Heap} (h1 : ∀ i, i < Nn → aK' i = aK i) (h2 : ∀ i, i < Nn → aV' i = aV i) (h : vk_S Nn len byt aK aV A U H) : vk_S Nn len byt aK' aV' A U H :=
  ⟨fun i hi => by rw [h1 i hi, h2 i hi]; exact h.1 i hi, fun i j hi hj e => h.2 i j hi hj (by rw [← h1 i hi, ← h1 j hj]; exact e)⟩
def adrG (L : List Nat) (aA aB b : Nat) (aK aV : Nat → Nat) (k : Nat) : Nat := bif Nat.ble 82 k then (bif Nat.beq k 2000 then aA else bif Nat.beq k 2001 then aB else bif Nat.beq k 3000 then b else bif Nat.ble 1100 k then aV (k - 1100) else aK (k - 1000)) else L.getD k 0
