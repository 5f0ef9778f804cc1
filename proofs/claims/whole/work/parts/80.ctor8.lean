/-! ===== THE CONSTRUCTORS ===== -/
/-! ===== rows in the middle of the world ===== -/
theorem md_at {α : Type} (pre : List α) (y : α) (post : List α) : (pre ++ y :: post)[pre.length]? = some y := by simp
theorem md_set {α : Type} (pre : List α) (y y' : α) (post : List α) : (pre ++ y :: post).set pre.length y' = pre ++ y' :: post := by simp
theorem md_at2 {α : Type} (pre : List α) (y : α) (post : List α) (z : α) (w : List α) : (pre ++ y :: (post ++ z :: w))[pre.length + (post.length + 1)]? = some z := by
  rw [List.getElem?_append_right (by omega)]
  simp
theorem m_iast2 {p : Program} {l : Launch} {e : Env} {R : Room} {s : State} {m : MethodId} {args : Array Value} {below : List Frame} {meth : Method} {c : Code} {H : Heap} {locs : List Loc} {cells slots : Nat} {Z : State → Prop} {pc pc' : Nat} {ls : Array Slot} {rest : List Value} {D : va_G} {t : gT} {sq : Nat} {A : Nat → Prop} {md : gM} {x0 : Nat × va_E} {pre post : va_W} {a n i' : Nat} {f : Nat → Int32} {i x : Int32} (C : KC md p s m args meth c D t sq A) (S : ST D A s (x0 :: (pre ++ (a, .inl (t.1, n, .inl f)) :: post)) H locs) (hi : i.toNatClampNeg = i') (hin : vp_in i n) (hd : decode md.2.1 pc = .ok (.iastore, 1)) (hp : pc + 1 = pc')
    (kk : ∀ (H1 : Heap) (locs1 : List Loc), ST D A s (x0 :: (pre ++ (a, .inl (t.1, n, .inl (upd f i' x))) :: post)) H1 locs1 → W p l e R s m args below meth c H1 locs1 cells slots Z (F0 m pc' ls rest)) : W p l e R s m args below meth c H locs cells slots Z (F0 m pc ls (.int x :: .int i :: .ref a :: rest)) := by
  refine m_iast C S (md_at pre _ post) hi hin hd hp (fun H1 locs1 S1 => kk H1 locs1 ?_)
  rw [md_set] at S1
  exact S1
theorem m_astq2 {p : Program} {l : Launch} {e : Env} {R : Room} {s : State} {m : MethodId} {args : Array Value} {below : List Frame} {meth : Method} {c : Code} {H : Heap} {locs : List Loc} {cells slots : Nat} {Z : State → Prop} {pc pc' : Nat} {ls : Array Slot} {rest : List Value} {D : va_G} {t : gT} {sq : Nat} {A : Nat → Prop} {md : gM} {x0 : Nat × va_E} {pre post w : va_W} {a n v i' : Nat} {vs : List Value} {f : Nat → Option Nat} {i : Int32} (C : KC md p s m args meth c D t sq A) (S : ST D A s (x0 :: (pre ++ (a, .inl (t.2.2, n, .inr (.inr (.inr (.inr f))))) :: (post ++ (v, .inr (5, vs)) :: w))) H locs) (hi : i.toNatClampNeg = i') (hin : vp_in i n) (hd : decode md.2.1 pc = .ok (.aastore, 1)) (hp : pc + 1 = pc')
    (kk : ∀ (H1 : Heap) (locs1 : List Loc), ST D A s (x0 :: (pre ++ (a, .inl (t.2.2, n, .inr (.inr (.inr (.inr (va_up f i' (some v))))))) :: (post ++ (v, .inr (5, vs)) :: w))) H1 locs1 → W p l e R s m args below meth c H1 locs1 cells slots Z (F0 m pc' ls rest)) : W p l e R s m args below meth c H locs cells slots Z (F0 m pc ls (.ref v :: .int i :: .ref a :: rest)) := by
  refine m_astq C S (md_at pre _ _) (md_at2 pre _ post _ w) hi hin hd hp (fun H1 locs1 S1 => kk H1 locs1 ?_)
  rw [md_set] at S1
  exact S1
theorem md_cons {D : va_G} {A : Nat → Prop} {s : State} {x0 y : Nat × va_E} {pre post w : va_W} {H : Heap} {locs : List Loc} (S : ST D A s (x0 :: (pre ++ ((y :: post) ++ w))) H locs) : ST D A s (x0 :: (pre ++ y :: (post ++ w))) H locs := S
abbrev mX8_init : gM := (yX8_init, cX8_init, 2, none)
theorem lo_X8_3 : Cond.methodLink RX8 3 Lib.objectInit ∈ tblG := (tbl_t (List.mem_of_getElem? (i := 24) (by decide +kernel)) rfl)
theorem nk_X8_9 : NCK RX8 9 7 14 tyX7 := ⟨RX7, TX7, rfl, ix_X7, tyX7_ok, (tbl_t (List.mem_of_getElem? (i := 27) (by decide +kernel)) rfl), (tbl_t (List.mem_of_getElem? (i := 28) (by decide +kernel)) rfl), (tbl_t (List.mem_of_getElem? (i := 2) (by decide +kernel)) rfl)⟩
theorem mk_X7_init : MOK mX7_init 0 := ⟨(tbl_t (List.mem_of_getElem? (i := 31) (by decide +kernel)) rfl), (tbl_t (List.mem_of_getElem? (i := 2) (by decide +kernel)) rfl), ⟨by decide +kernel, by decide +kernel, by decide +kernel⟩, by decide, by decide +kernel⟩
theorem im_X7_init : Cond.instanceMethod yX7_init ∈ tblG := (tbl_t (List.mem_of_getElem? (i := 30) (by decide +kernel)) rfl)
theorem ln_X8_11 : LOK RX8 11 mX7_init := .inr ⟨"SoldYear", (nst_in (List.mem_of_getElem? (i := 29) (by decide +kernel)) rfl)⟩
theorem ff_X8_12 : FFK RX8 12 8 0 (.object "SoldYear$World") := ⟨RX8, TX8, 7, tyX8, rfl, by decide, ix_X8, (tbl_t (List.mem_of_getElem? (i := 262) (by decide +kernel)) rfl), tyX8_ok, nmX8, by decide +kernel, rfl⟩
theorem ff_X8_16 : FFK RX8 16 8 1 (.object "SoldYear$World") := ⟨RX8, TX8, 7, tyX8, rfl, by decide, ix_X8, (tbl_t (List.mem_of_getElem? (i := 263) (by decide +kernel)) rfl), tyX8_ok, nmX8, by decide +kernel, rfl⟩
theorem nk_X8_19 : NCK RX8 19 4 6 tyX4 := ⟨RX4, TX4, rfl, ix_X4, tyX4_ok, (tbl_t (List.mem_of_getElem? (i := 184) (by decide +kernel)) rfl), (tbl_t (List.mem_of_getElem? (i := 185) (by decide +kernel)) rfl), (tbl_t (List.mem_of_getElem? (i := 7) (by decide +kernel)) rfl)⟩
theorem mk_X4_init : MOK mX4_init 0 := ⟨(tbl_t (List.mem_of_getElem? (i := 188) (by decide +kernel)) rfl), (tbl_t (List.mem_of_getElem? (i := 7) (by decide +kernel)) rfl), ⟨by decide +kernel, by decide +kernel, by decide +kernel⟩, by decide, by decide +kernel⟩
theorem im_X4_init : Cond.instanceMethod yX4_init ∈ tblG := (tbl_t (List.mem_of_getElem? (i := 187) (by decide +kernel)) rfl)
theorem ln_X8_21 : LOK RX8 21 mX4_init := .inr ⟨"SoldYear", (nst_in (List.mem_of_getElem? (i := 186) (by decide +kernel)) rfl)⟩
theorem ff_X8_22 : FFK RX8 22 8 2 (.object "SoldYear$Scribe") := ⟨RX8, TX8, 7, tyX8, rfl, by decide, ix_X8, (tbl_t (List.mem_of_getElem? (i := 264) (by decide +kernel)) rfl), tyX8_ok, nmX8, by decide +kernel, rfl⟩
theorem nk_X8_26 : NCK RX8 26 0 6 tyX0 := ⟨RX0, TX0, rfl, ix_X0, tyX0_ok, (tbl_t (List.mem_of_getElem? (i := 214) (by decide +kernel)) rfl), (tbl_t (List.mem_of_getElem? (i := 215) (by decide +kernel)) rfl), (tbl_t (List.mem_of_getElem? (i := 8) (by decide +kernel)) rfl)⟩
theorem mk_X0_init : MOK mX0_init 0 := ⟨(tbl_t (List.mem_of_getElem? (i := 218) (by decide +kernel)) rfl), (tbl_t (List.mem_of_getElem? (i := 8) (by decide +kernel)) rfl), ⟨by decide +kernel, by decide +kernel, by decide +kernel⟩, by decide, by decide +kernel⟩
theorem im_X0_init : Cond.instanceMethod yX0_init ∈ tblG := (tbl_t (List.mem_of_getElem? (i := 217) (by decide +kernel)) rfl)
theorem ln_X8_28 : LOK RX8 28 mX0_init := .inr ⟨"SoldYear", (nst_in (List.mem_of_getElem? (i := 216) (by decide +kernel)) rfl)⟩
theorem ff_X8_29 : FFK RX8 29 8 3 (.object "SoldYear$Choir") := ⟨RX8, TX8, 7, tyX8, rfl, by decide, ix_X8, (tbl_t (List.mem_of_getElem? (i := 265) (by decide +kernel)) rfl), tyX8_ok, nmX8, by decide +kernel, rfl⟩
theorem cq_X8_33 : Cond.classLink RX8 33 "SoldYear$Sheet" ∈ tblG := (tbl_t (List.mem_of_getElem? (i := 242) (by decide +kernel)) rfl)
theorem ff_X8_35 : FFK RX8 35 8 4 (.array (.object "SoldYear$Sheet")) := ⟨RX8, TX8, 7, tyX8, rfl, by decide, ix_X8, (tbl_t (List.mem_of_getElem? (i := 266) (by decide +kernel)) rfl), tyX8_ok, nmX8, by decide +kernel, rfl⟩
theorem ff_X8_39 : FFK RX8 39 8 5 (.array .int) := ⟨RX8, TX8, 7, tyX8, rfl, by decide, ix_X8, (tbl_t (List.mem_of_getElem? (i := 267) (by decide +kernel)) rfl), tyX8_ok, nmX8, by decide +kernel, rfl⟩
theorem nk_X8_33 : NCK RX8 33 5 3 tyX5 := ⟨RX5, TX5, rfl, ix_X5, tyX5_ok, (tbl_t (List.mem_of_getElem? (i := 242) (by decide +kernel)) rfl), (tbl_t (List.mem_of_getElem? (i := 244) (by decide +kernel)) rfl), (tbl_t (List.mem_of_getElem? (i := 9) (by decide +kernel)) rfl)⟩
theorem mk_X5_init : MOK mX5_init 0 := ⟨(tbl_t (List.mem_of_getElem? (i := 247) (by decide +kernel)) rfl), (tbl_t (List.mem_of_getElem? (i := 9) (by decide +kernel)) rfl), ⟨by decide +kernel, by decide +kernel, by decide +kernel⟩, by decide, by decide +kernel⟩
theorem im_X5_init : Cond.instanceMethod yX5_init ∈ tblG := (tbl_t (List.mem_of_getElem? (i := 246) (by decide +kernel)) rfl)
theorem ln_X8_43 : LOK RX8 43 mX5_init := .inr ⟨"SoldYear", (nst_in (List.mem_of_getElem? (i := 245) (by decide +kernel)) rfl)⟩
def wX8 (t : gT) (sq h : Nat) (o : Nat → Nat) (_a0o : Nat → Nat) (_a0_a0o : Nat → Nat) (_a0_a1o : Nat → Nat) (_a0_a2o : Nat → Nat) (_a0_a3o : Nat → Nat) (_a0_a4o : Nat → Nat) (_a1o : Nat → Nat) (_a1_a0o : Nat → Nat) (_a1_a1o : Nat → Nat) (_a1_a2o : Nat → Nat) (_a1_a3o : Nat → Nat) (_a1_a4o : Nat → Nat) (_a2o : Nat → Nat) (_a3o : Nat → Nat) (_a4o : Nat → Nat) (_a5o : Nat → Nat) (_a6o : Nat → Nat) (_a7o : Nat → Nat) : va_W := (h, .inr (8, [.ref (o 0), .ref (o 1), .ref (o 2), .ref (o 3), .ref (o 4), .ref (o 5), .int 0])) :: ((((([] ++ wX7 t sq (o 0) _a0o _a0_a0o _a0_a1o _a0_a2o _a0_a3o _a0_a4o) ++ wX7 t sq (o 1) _a1o _a1_a0o _a1_a1o _a1_a2o _a1_a3o _a1_a4o) ++ wX4 t sq (o 2) _a2o) ++ wX0 t sq (o 3) _a3o) ++ (o 4, .inl (t.2.2, 4, .inr (.inr (.inr (.inr (va_up (va_up (va_up (va_up (fun _ => none) 0 (some (o 6))) 1 (some (o 7))) 2 (some (o 8))) 3 (some (o 9)))))))) :: (((([ar t (o 5) 7] ++ wX5 t sq (o 6) _a4o) ++ wX5 t sq (o 7) _a5o) ++ wX5 t sq (o 8) _a6o) ++ wX5 t sq (o 9) _a7o))
set_option maxRecDepth 100000 in
set_option maxHeartbeats 8000000 in
theorem K_X8 : Mk mX8_init 3 52 63 1245 8 (f0 7 tyX8) (fun t sq h w => ∃ o : Nat → Nat, ∃ _a0o : Nat → Nat, ∃ _a0_a0o : Nat → Nat, ∃ _a0_a1o : Nat → Nat, ∃ _a0_a2o : Nat → Nat, ∃ _a0_a3o : Nat → Nat, ∃ _a0_a4o : Nat → Nat, ∃ _a1o : Nat → Nat, ∃ _a1_a0o : Nat → Nat, ∃ _a1_a1o : Nat → Nat, ∃ _a1_a2o : Nat → Nat, ∃ _a1_a3o : Nat → Nat, ∃ _a1_a4o : Nat → Nat, ∃ _a2o : Nat → Nat, ∃ _a3o : Nat → Nat, ∃ _a4o : Nat → Nat, ∃ _a5o : Nat → Nat, ∃ _a6o : Nat → Nat, ∃ _a7o : Nat → Nat, w = wX8 t sq h o _a0o _a0_a0o _a0_a1o _a0_a2o _a0_a3o _a0_a4o _a1o _a1_a0o _a1_a1o _a1_a2o _a1_a3o _a1_a4o _a2o _a3o _a4o _a5o _a6o _a7o) := by
  refine Mk.intro (by decide +kernel) rfl (by decide) ?_
  intro p l e s m args below meth c D t sq h0 A Z C E H locs ls S hl
  have hf : f0 7 tyX8 = [.null, .null, .null, .null, .null, .null, .int 0] := rfl
  rw [hf] at S
  refine lv_aload_n C.1 C.2.1 dX8_init_0 rfl (lv_at hl 0 rfl) ?_
  refine m_obj (pc' := 4) C lo_X8_3 hl ⟨by decide, by decide⟩ dX8_init_1 rfl ?_
  refine lv_aload_n C.1 C.2.1 dX8_init_4 rfl (lv_at hl 0 rfl) ?_
  refine m_new' (pc' := 8) C S nk_X8_9 ⟨by decide, by decide⟩ dX8_init_5 rfl (fun q0 H S => ?_)
  refine lv_dup C.1 C.2.1 dX8_init_8 rfl ?_
  refine m_init' (pc' := 12) C S K_X7 mk_X7_init rfl rfl im_X7_init ln_X8_11 ⟨by decide, by decide⟩ ⟨by decide, by decide⟩ hl.1 (show (2 : Nat) ≤ 8 by decide) dX8_init_9 rfl (fun w H locs hw S => ?_)
  obtain ⟨a0o, a0_a0o, a0_a1o, a0_a2o, a0_a3o, a0_a4o, rfl⟩ := hw
  refine m_put (pc' := 15) (fs' := [.ref q0, .null, .null, .null, .null, .null, .int 0]) C S ff_X8_12 rfl ⟨rfl, rfl⟩ rfl rfl dX8_init_12 rfl (fun H locs S => ?_)
  refine lv_aload_n C.1 C.2.1 dX8_init_15 rfl (lv_at hl 0 rfl) ?_
  refine m_new' (pc' := 19) C S nk_X8_9 ⟨by decide, by decide⟩ dX8_init_16 rfl (fun q1 H S => ?_)
  refine lv_dup C.1 C.2.1 dX8_init_19 rfl ?_
  refine m_init' (pc' := 23) C S K_X7 mk_X7_init rfl rfl im_X7_init ln_X8_11 ⟨by decide, by decide⟩ ⟨by decide, by decide⟩ hl.1 (show (2 : Nat) ≤ 8 by decide) dX8_init_20 rfl (fun w H locs hw S => ?_)
  obtain ⟨a1o, a1_a0o, a1_a1o, a1_a2o, a1_a3o, a1_a4o, rfl⟩ := hw
  refine m_put (pc' := 26) (fs' := [.ref q0, .ref q1, .null, .null, .null, .null, .int 0]) C S ff_X8_16 rfl ⟨rfl, rfl⟩ rfl rfl dX8_init_23 rfl (fun H locs S => ?_)
  refine lv_aload_n C.1 C.2.1 dX8_init_26 rfl (lv_at hl 0 rfl) ?_
  refine m_new' (pc' := 30) C S nk_X8_19 ⟨by decide, by decide⟩ dX8_init_27 rfl (fun q2 H S => ?_)
  refine lv_dup C.1 C.2.1 dX8_init_30 rfl ?_
  refine m_init' (pc' := 34) C S K_X4 mk_X4_init rfl rfl im_X4_init ln_X8_21 ⟨by decide, by decide⟩ ⟨by decide, by decide⟩ hl.1 (show (2 : Nat) ≤ 8 by decide) dX8_init_31 rfl (fun w H locs hw S => ?_)
  obtain ⟨a2o, rfl⟩ := hw
  refine m_put (pc' := 37) (fs' := [.ref q0, .ref q1, .ref q2, .null, .null, .null, .int 0]) C S ff_X8_22 rfl ⟨rfl, rfl⟩ rfl rfl dX8_init_34 rfl (fun H locs S => ?_)
  refine lv_aload_n C.1 C.2.1 dX8_init_37 rfl (lv_at hl 0 rfl) ?_
  refine m_new' (pc' := 41) C S nk_X8_26 ⟨by decide, by decide⟩ dX8_init_38 rfl (fun q3 H S => ?_)
  refine lv_dup C.1 C.2.1 dX8_init_41 rfl ?_
  refine m_init' (pc' := 45) C S K_X0 mk_X0_init rfl rfl im_X0_init ln_X8_28 ⟨by decide, by decide⟩ ⟨by decide, by decide⟩ hl.1 (show (2 : Nat) ≤ 8 by decide) dX8_init_42 rfl (fun w H locs hw S => ?_)
  obtain ⟨a3o, rfl⟩ := hw
  refine m_put (pc' := 48) (fs' := [.ref q0, .ref q1, .ref q2, .ref q3, .null, .null, .int 0]) C S ff_X8_29 rfl ⟨rfl, rfl⟩ rfl rfl dX8_init_45 rfl (fun H locs S => ?_)
  refine lv_aload_n C.1 C.2.1 dX8_init_48 rfl (lv_at hl 0 rfl) ?_
  refine lv_iconst C.1 C.2.1 (v := 4) dX8_init_49 (by decide) ?_
  refine m_newQ (pc' := 53) (N' := 4) C S cq_X8_33 ⟨by decide, by decide, by decide⟩ ⟨by decide, by decide⟩ dX8_init_50 rfl (fun q4 H S => ?_)
  refine m_put (pc' := 56) (fs' := [.ref q0, .ref q1, .ref q2, .ref q3, .ref q4, .null, .int 0]) C S ff_X8_35 rfl ⟨rfl, rfl⟩ rfl rfl dX8_init_53 rfl (fun H locs S => ?_)
  refine lv_aload_n C.1 C.2.1 dX8_init_56 rfl (lv_at hl 0 rfl) ?_
  refine lv_bipush C.1 C.2.1 (v := 7) dX8_init_57 (by decide) ?_
  refine m_newI (pc' := 61) (N' := 7) C S ⟨by decide, by decide, by decide⟩ ⟨by decide, by decide⟩ dX8_init_59 rfl (fun q5 H S => ?_)
  refine m_put (pc' := 64) (fs' := [.ref q0, .ref q1, .ref q2, .ref q3, .ref q4, .ref q5, .int 0]) C S ff_X8_39 rfl ⟨rfl, rfl⟩ rfl rfl dX8_init_61 rfl (fun H locs S => ?_)
  refine lv_iconst C.1 C.2.1 (v := 0) dX8_init_64 (by decide) ?_
  rw [List.append_assoc] at S
  have S : ST D A s (_ :: (_ ++ (q4, .inl (t.2.2, 4, .inr (.inr (.inr (.inr (fun _ => none)))))) :: [ar t q5 7])) H locs := S
  refine lv_istore_n C.1 C.2.1 (lv' := [(1, .int 0), (0, .ref h0)]) dX8_init_65 rfl hl (by decide) rfl (fun ls hl => ?_)
  refine lv_iload_n C.1 C.2.1 dX8_init_66 rfl (lv_at hl 0 rfl) ?_
  refine lv_iconst C.1 C.2.1 (v := 4) dX8_init_67 (by decide) ?_
  refine lv_icmp_ge C.1 C.2.1 (tgt := 90) dX8_init_68 (by decide) (fun q => absurd q (by decide)) (fun _ => ?_)
  refine lv_aload_n C.1 C.2.1 dX8_init_71 rfl (lv_at hl 1 rfl) ?_
  refine m_get (pc' := 75) (v := .ref q4) C S ff_X8_35 rfl dX8_init_72 rfl ?_
  refine lv_iload_n C.1 C.2.1 dX8_init_75 rfl (lv_at hl 0 rfl) ?_
  refine m_new' (pc' := 79) C S nk_X8_33 ⟨by decide, by decide⟩ dX8_init_76 rfl (fun q6 H S => ?_)
  refine lv_dup C.1 C.2.1 dX8_init_79 rfl ?_
  refine m_init' (pc' := 83) C S K_X5 mk_X5_init rfl rfl im_X5_init ln_X8_43 ⟨by decide, by decide⟩ ⟨by decide, by decide⟩ hl.1 (show (3 : Nat) ≤ 8 by decide) dX8_init_80 rfl (fun w H locs hw S => ?_)
  obtain ⟨a4o, rfl⟩ := hw
  rw [List.append_assoc] at S
  have S := md_cons S
  refine m_astq2 (pc' := 84) (i' := 0) C S (by decide) (vin (by decide)) dX8_init_83 rfl (fun H locs S => ?_)
  refine lv_iinc C.1 C.2.1 (k := 0) (x := 0) (v := 1) (lv' := [(1, .int 1), (0, .ref h0)]) dX8_init_84 hl rfl (by decide) (by decide) rfl (fun ls hl => ?_)
  refine lv_goto C.1 C.2.1 (tgt := 66) dX8_init_87 (by decide) ?_
  refine lv_iload_n C.1 C.2.1 dX8_init_66 rfl (lv_at hl 0 rfl) ?_
  refine lv_iconst C.1 C.2.1 (v := 4) dX8_init_67 (by decide) ?_
  refine lv_icmp_ge C.1 C.2.1 (tgt := 90) dX8_init_68 (by decide) (fun q => absurd q (by decide)) (fun _ => ?_)
  refine lv_aload_n C.1 C.2.1 dX8_init_71 rfl (lv_at hl 1 rfl) ?_
  refine m_get (pc' := 75) (v := .ref q4) C S ff_X8_35 rfl dX8_init_72 rfl ?_
  refine lv_iload_n C.1 C.2.1 dX8_init_75 rfl (lv_at hl 0 rfl) ?_
  refine m_new' (pc' := 79) C S nk_X8_33 ⟨by decide, by decide⟩ dX8_init_76 rfl (fun q7 H S => ?_)
  refine lv_dup C.1 C.2.1 dX8_init_79 rfl ?_
  refine m_init' (pc' := 83) C S K_X5 mk_X5_init rfl rfl im_X5_init ln_X8_43 ⟨by decide, by decide⟩ ⟨by decide, by decide⟩ hl.1 (show (3 : Nat) ≤ 8 by decide) dX8_init_80 rfl (fun w H locs hw S => ?_)
  obtain ⟨a5o, rfl⟩ := hw
  rw [List.append_assoc] at S
  have S := md_cons S
  refine m_astq2 (pc' := 84) (i' := 1) C S (by decide) (vin (by decide)) dX8_init_83 rfl (fun H locs S => ?_)
  refine lv_iinc C.1 C.2.1 (k := 0) (x := 1) (v := 2) (lv' := [(1, .int 2), (0, .ref h0)]) dX8_init_84 hl rfl (by decide) (by decide) rfl (fun ls hl => ?_)
  refine lv_goto C.1 C.2.1 (tgt := 66) dX8_init_87 (by decide) ?_
  refine lv_iload_n C.1 C.2.1 dX8_init_66 rfl (lv_at hl 0 rfl) ?_
  refine lv_iconst C.1 C.2.1 (v := 4) dX8_init_67 (by decide) ?_
  refine lv_icmp_ge C.1 C.2.1 (tgt := 90) dX8_init_68 (by decide) (fun q => absurd q (by decide)) (fun _ => ?_)
  refine lv_aload_n C.1 C.2.1 dX8_init_71 rfl (lv_at hl 1 rfl) ?_
  refine m_get (pc' := 75) (v := .ref q4) C S ff_X8_35 rfl dX8_init_72 rfl ?_
  refine lv_iload_n C.1 C.2.1 dX8_init_75 rfl (lv_at hl 0 rfl) ?_
  refine m_new' (pc' := 79) C S nk_X8_33 ⟨by decide, by decide⟩ dX8_init_76 rfl (fun q8 H S => ?_)
  refine lv_dup C.1 C.2.1 dX8_init_79 rfl ?_
  refine m_init' (pc' := 83) C S K_X5 mk_X5_init rfl rfl im_X5_init ln_X8_43 ⟨by decide, by decide⟩ ⟨by decide, by decide⟩ hl.1 (show (3 : Nat) ≤ 8 by decide) dX8_init_80 rfl (fun w H locs hw S => ?_)
  obtain ⟨a6o, rfl⟩ := hw
  rw [List.append_assoc] at S
  have S := md_cons S
  refine m_astq2 (pc' := 84) (i' := 2) C S (by decide) (vin (by decide)) dX8_init_83 rfl (fun H locs S => ?_)
  refine lv_iinc C.1 C.2.1 (k := 0) (x := 2) (v := 3) (lv' := [(1, .int 3), (0, .ref h0)]) dX8_init_84 hl rfl (by decide) (by decide) rfl (fun ls hl => ?_)
  refine lv_goto C.1 C.2.1 (tgt := 66) dX8_init_87 (by decide) ?_
  refine lv_iload_n C.1 C.2.1 dX8_init_66 rfl (lv_at hl 0 rfl) ?_
  refine lv_iconst C.1 C.2.1 (v := 4) dX8_init_67 (by decide) ?_
  refine lv_icmp_ge C.1 C.2.1 (tgt := 90) dX8_init_68 (by decide) (fun q => absurd q (by decide)) (fun _ => ?_)
  refine lv_aload_n C.1 C.2.1 dX8_init_71 rfl (lv_at hl 1 rfl) ?_
  refine m_get (pc' := 75) (v := .ref q4) C S ff_X8_35 rfl dX8_init_72 rfl ?_
  refine lv_iload_n C.1 C.2.1 dX8_init_75 rfl (lv_at hl 0 rfl) ?_
  refine m_new' (pc' := 79) C S nk_X8_33 ⟨by decide, by decide⟩ dX8_init_76 rfl (fun q9 H S => ?_)
  refine lv_dup C.1 C.2.1 dX8_init_79 rfl ?_
  refine m_init' (pc' := 83) C S K_X5 mk_X5_init rfl rfl im_X5_init ln_X8_43 ⟨by decide, by decide⟩ ⟨by decide, by decide⟩ hl.1 (show (3 : Nat) ≤ 8 by decide) dX8_init_80 rfl (fun w H locs hw S => ?_)
  obtain ⟨a7o, rfl⟩ := hw
  rw [List.append_assoc] at S
  have S := md_cons S
  refine m_astq2 (pc' := 84) (i' := 3) C S (by decide) (vin (by decide)) dX8_init_83 rfl (fun H locs S => ?_)
  refine lv_iinc C.1 C.2.1 (k := 0) (x := 3) (v := 4) (lv' := [(1, .int 4), (0, .ref h0)]) dX8_init_84 hl rfl (by decide) (by decide) rfl (fun ls hl => ?_)
  refine lv_goto C.1 C.2.1 (tgt := 66) dX8_init_87 (by decide) ?_
  refine lv_iload_n C.1 C.2.1 dX8_init_66 rfl (lv_at hl 0 rfl) ?_
  refine lv_iconst C.1 C.2.1 (v := 4) dX8_init_67 (by decide) ?_
  refine lv_icmp_ge C.1 C.2.1 (tgt := 90) dX8_init_68 (by decide) (fun _ => ?_) (fun q => absurd (by decide) q)
  exact E _ H locs 90 ls ⟨fun k => [q0, q1, q2, q3, q4, q5, q6, q7, q8, q9].getD k 0, a0o, a0_a0o, a0_a1o, a0_a2o, a0_a3o, a0_a4o, a1o, a1_a0o, a1_a1o, a1_a2o, a1_a3o, a1_a4o, a2o, a3o, a4o, a5o, a6o, a7o, rfl⟩ S dX8_init_90
